/-- what a stack can hold -/
def ZV (st : List Nat) : Prop := ∀ x, x ∈ st → x = 40 ∨ x = 77 ∨ x = 78 ∨ x = 79
theorem zn_sum : ∀ (st : List Nat) (cs : List ZO), (zm_nots st cs).1.length + (zm_nots st cs).2.length = cs.length + st.length ∧ ∃ s, st = s ++ (zm_nots st cs).2
  | [], cs => ⟨rfl, [], rfl⟩
  | x :: st, cs => by
    by_cases c : x = 79
    · have e : zm_nots (x :: st) cs = zm_nots st (cs ++ [(79, 0, 0)]) := if_pos c
      obtain ⟨h1, s, h2⟩ := zn_sum st (cs ++ [(79, 0, 0)])
      rw [e]
      refine ⟨?_, x :: s, congrArg (x :: ·) h2⟩
      rw [h1, List.length_append, List.length_singleton, List.length_cons]
      omega
    · have e : zm_nots (x :: st) cs = (cs, x :: st) := if_neg c
      rw [e]
      exact ⟨rfl, [], rfl⟩
theorem zj_sum (b : Bool) : ∀ (st : List Nat) (cs : List ZO), (zm_joins b st cs).1.length + (zm_joins b st cs).2.length = cs.length + st.length ∧ (∃ s, st = s ++ (zm_joins b st cs).2) ∧ (b = true → ∀ x s, (zm_joins b st cs).2 = x :: s → ¬ x = 78 ∧ ¬ x = 77)
  | [], cs => ⟨rfl, ⟨[], rfl⟩, fun _ x s e => by cases e⟩
  | x :: st, cs => by
    by_cases c : x = 78 ∨ (x = 77 ∧ b = true)
    · have e : zm_joins b (x :: st) cs = zm_joins b st (cs ++ [(x, 0, 0)]) := if_pos c
      obtain ⟨h1, ⟨s, h2⟩, h3⟩ := zj_sum b st (cs ++ [(x, 0, 0)])
      rw [e]
      refine ⟨?_, ⟨x :: s, congrArg (x :: ·) h2⟩, h3⟩
      rw [h1, List.length_append, List.length_singleton, List.length_cons]
      omega
    · have e : zm_joins b (x :: st) cs = (cs, x :: st) := if_neg c
      rw [e]
      refine ⟨rfl, ⟨[], rfl⟩, fun hb y s ey => ?_⟩
      have e2 : x = y := by injection ey
      subst e2
      exact ⟨fun h => c (Or.inl h), fun h => c (Or.inr ⟨h, hb⟩)⟩
theorem ZV.sub {s t : List Nat} (h : ZV (s ++ t)) : ZV t := fun x hx => h x (List.mem_append_right s hx)
theorem zv_nots {st : List Nat} {cs : List ZO} (h : ZV st) : ZV (zm_nots st cs).2 := by
  obtain ⟨-, s, e⟩ := zn_sum st cs
  rw [e] at h
  exact h.sub
theorem zv_joins {b : Bool} {st : List Nat} {cs : List ZO} (h : ZV st) : ZV (zm_joins b st cs).2 := by
  obtain ⟨-, ⟨s, e⟩, -⟩ := zj_sum b st cs
  rw [e] at h
  exact h.sub
theorem x_behind {F : FW} {B : Nat → Int} {n i o : Nat} {cs : List ZO} {st : List Nat} (h : ZX F B n (i, o, cs, st, true)) (hb : cs.length + st.length ≤ 50) (hv : ZV st) : Pm Z_X11_behind [.ref 69] F (fun r F' => ZXQ B n F' r (zm_beh (tok B n 200) i o cs st)) := by
  refine Pm.of fun N => ?_
  obtain ⟨Q, hQ⟩ : ∃ Q : Option Value → FW → Prop, Q = (fun r F' => ZXQ B n F' r (zm_beh (tok B n 200) i o cs st)) := ⟨_, rfl⟩
  rw [← hQ]
  obtain ⟨hG, hT, h35, hC, hK, h38, h15⟩ := id h
  replace hC : XC F cs := hC
  replace hK : XK F st := hK
  have s1 := (zn_sum st cs).1
  refine (show Pv (ab_T (L_X11_behind Z_X11_nots Z_X11_isWord Z_X11_joins Z_X11_next Z_X11_isSign Z_X11_bad)) N 0 [some (.ref 69)] [] F Q from ?_)
  refine Pv.aload rfl rfl ?_
  refine Pv.callV (as := [.ref 69]) (rest := []) rfl rfl rfl (x_nots hG hC hK (by omega)) (fun r1 F1 p => ?_)
  obtain ⟨rfl, x1, C1, K1⟩ := p
  have h1 := h.zf x1 C1 K1
  have hN1 : NTF F1 (tok B n 200 i) := h1.2.1.2.2.2.1
  obtain ⟨cs1, ecs1⟩ : ∃ c, c = (zm_nots st cs).1 := ⟨_, rfl⟩
  obtain ⟨st1, est1⟩ : ∃ c, c = (zm_nots st cs).2 := ⟨_, rfl⟩
  have v1 : ZV st1 := by rw [est1]; exact zv_nots hv
  have efl : zm_flush st cs = zm_joins true st1 cs1 := by rw [ecs1, est1]; rfl
  have ejf : zm_joins false (zm_nots st cs).2 (zm_nots st cs).1 = zm_joins false st1 cs1 := by rw [ecs1, est1]
  rw [← ecs1, ← est1] at s1 h1
  rw [← ecs1] at C1
  rw [← est1] at K1
  refine (show Pv (ab_T (L_X11_behind Z_X11_nots Z_X11_isWord Z_X11_joins Z_X11_next Z_X11_isSign Z_X11_bad)) N 4 [some (.ref 69)] [] F1 Q from ?_)
  -- and, or
  have push : ∀ (b : Bool) (w : Nat), ((b = false ∧ w = 78) ∨ (b = true ∧ w = 77)) → (tok B n 200 i).k = (w : Int) → zm_beh (tok B n 200) i o cs st = .inl (i + 1, o, (zm_joins b st1 cs1).1, w :: (zm_joins b st1 cs1).2, false) → Pv (ab_T (L_X11_behind Z_X11_nots Z_X11_isWord Z_X11_joins Z_X11_next Z_X11_isSign Z_X11_bad)) N 24 [some (.ref 69)] [] F1 Q := fun b w hbw kw ez => by
    have s2 := (zj_sum b st1 cs1).1
    have eb : decide ((tok B n 200 i).k = 64 + ((14 : Nat) : Int)) = !b := by
      rcases hbw with ⟨rfl, rfl⟩ | ⟨rfl, rfl⟩
      · exact decide_eq_true (by omega)
      · exact decide_eq_false (by omega)
    have ev : zs1 w = zjt b := by rcases hbw with ⟨rfl, rfl⟩ | ⟨rfl, rfl⟩ <;> rfl
    have hw2 : ¬ (w = 79 ∨ w = 40) := by omega
    refine Pv.aload rfl rfl ?_
    refine Pv.aload rfl rfl ?_
    refine Pv.lit rfl ?_
    refine Pv.callVI (as := [.ref 69, .long 6385252]) (rest := [.ref 69]) (z := b2i (decide ((tok B n 200 i).k = 64 + ((14 : Nat) : Int)))) rfl rfl rfl (r_isWord (j := 14) hN1 (tok_wok _ _ _ _) (by decide) (by decide +kernel)) ?_
    rw [eb]
    have j42 : Pv (ab_T (L_X11_behind Z_X11_nots Z_X11_isWord Z_X11_joins Z_X11_next Z_X11_isSign Z_X11_bad)) N 42 [some (.ref 69)] [.int (zjt b), .ref 69] F1 Q := by
      refine Pv.callV (as := [.ref 69, .int (zjt b)]) (rest := []) rfl rfl rfl (x_joins b h1.1 C1 K1 (by omega)) (fun r2 F2 p => ?_)
      obtain ⟨rfl, x2, C2, K2⟩ := p
      have h2 := h1.zf x2 C2 K2
      have hN2 : NTF F2 (tok B n 200 i) := h2.2.1.2.2.2.1
      obtain ⟨cs2, ecs2⟩ : ∃ c, c = (zm_joins b st1 cs1).1 := ⟨_, rfl⟩
      obtain ⟨st2, est2⟩ : ∃ c, c = (zm_joins b st1 cs1).2 := ⟨_, rfl⟩
      rw [← ecs2, ← est2] at s2 ez h2
      have K2 : XK F2 st2 := h2.2.2.2.2.1
      refine (show Pv (ab_T (L_X11_behind Z_X11_nots Z_X11_isWord Z_X11_joins Z_X11_next Z_X11_isSign Z_X11_bad)) N 45 [some (.ref 69)] [] F2 Q from ?_)
      refine Pv.aload rfl rfl ?_
      refine Pv.getR (v := .ref 82) rfl rfl (GW.at (a := 69) (k := 33) (b := 82) h2.1 (by decide)) ?_
      refine Pv.aload rfl rfl ?_
      refine Pv.getI (z := Int32.ofNat st2.length) rfl rfl K2.1 ?_
      refine Pv.aload rfl rfl ?_
      refine Pv.lit rfl ?_
      refine Pv.callVI (as := [.ref 69, .long 6385252]) (rest := [.int (Int32.ofNat st2.length), .ref 82]) (z := b2i (decide ((tok B n 200 i).k = 64 + ((14 : Nat) : Int)))) rfl rfl rfl (r_isWord (j := 14) hN2 (tok_wok _ _ _ _) (by decide) (by decide +kernel)) ?_
      rw [eb]
      have j70 : Pv (ab_T (L_X11_behind Z_X11_nots Z_X11_isWord Z_X11_joins Z_X11_next Z_X11_isSign Z_X11_bad)) N 70 [some (.ref 69)] [.int (zjt b), .int (Int32.ofNat st2.length), .ref 82] F2 Q := by
        refine Pv.astk (k := st2.length) (z := zs1 w) rfl (i_toNat (by omega)) (ev.symm) ?_
        refine Pv.aload rfl rfl ?_
        refine Pv.dup rfl ?_
        refine Pv.getI (z := Int32.ofNat st2.length) rfl rfl ((fp_ne (Or.inl (by decide))).trans K2.1) ?_
        refine Pv.lit rfl ?_
        refine Pv.bin (z := Int32.ofNat (st2.length + 1)) rfl (i_add st2.length 1) ?_
        refine Pv.putI rfl rfl ?_
        have h3 := h2.pu0 w hw2
        obtain ⟨F3, hF3⟩ : ∃ F3 : FW, F3 = fp (fp F2 82 st2.length (zs1 w)) 69 36 (Int32.ofNat (st2.length + 1)) := ⟨_, rfl⟩
        rw [← hF3] at h3 ⊢
        refine (show Pv (ab_T (L_X11_behind Z_X11_nots Z_X11_isWord Z_X11_joins Z_X11_next Z_X11_isSign Z_X11_bad)) N 81 [some (.ref 69)] [] F3 Q from ?_)
        refine Pv.aload rfl rfl ?_
        refine Pv.lit rfl ?_
        refine Pv.putI rfl rfl ?_
        have h4 : ZX (fp F3 69 38 0) B n (i, o, cs2, w :: st2, false) := h3.p38 false
        obtain ⟨F4, hF4⟩ : ∃ F4 : FW, F4 = fp F3 69 38 0 := ⟨_, rfl⟩
        rw [← hF4] at h4 ⊢
        refine (show Pv (ab_T (L_X11_behind Z_X11_nots Z_X11_isWord Z_X11_joins Z_X11_next Z_X11_isSign Z_X11_bad)) N 86 [some (.ref 69)] [] F4 Q from ?_)
        refine Pv.aload rfl rfl ?_
        refine Pv.callV (as := [.ref 69]) (rest := []) rfl rfl rfl (r_next h4.1 h4.2.1) (fun r5 F5 p => ?_)
        obtain ⟨rfl, x5, t5⟩ := p
        refine (show Pv (ab_T (L_X11_behind Z_X11_nots Z_X11_isWord Z_X11_joins Z_X11_next Z_X11_isSign Z_X11_bad)) N 90 [some (.ref 69)] [] F5 Q from ?_)
        refine Pv.lit rfl ?_
        exact Pv.zret rfl (by rw [hQ, ez]; exact ⟨rfl, h4.nx x5 t5⟩)
      cases b with
      | false =>
        refine Pv.if0 rfl (fun c => absurd c (by decide)) (fun _ => ?_)
        refine Pv.lit rfl ?_
        refine Pv.goto rfl ?_
        exact j70
      | true =>
        refine Pv.if0 rfl (fun _ => ?_) (fun c => absurd c (by decide))
        refine Pv.lit rfl ?_
        exact j70
    cases b with
    | false =>
      refine Pv.if0 rfl (fun c => absurd c (by decide)) (fun _ => ?_)
      refine Pv.lit rfl ?_
      refine Pv.goto rfl ?_
      exact j42
    | true =>
      refine Pv.if0 rfl (fun _ => ?_) (fun c => absurd c (by decide))
      refine Pv.lit rfl ?_
      exact j42
  refine Pv.aload rfl rfl ?_
  refine Pv.lit rfl ?_
  refine Pv.callVI (as := [.ref 69, .long 6385252]) (rest := []) (z := b2i (decide ((tok B n 200 i).k = 64 + ((14 : Nat) : Int)))) rfl rfl rfl (r_isWord (j := 14) hN1 (tok_wok _ _ _ _) (by decide) (by decide +kernel)) ?_
  by_cases k78 : (tok B n 200 i).k = 78
  · rw [show decide ((tok B n 200 i).k = 64 + ((14 : Nat) : Int)) = true from decide_eq_true (by omega)]
    refine Pv.if0 rfl (fun _ => ?_) (fun c => absurd c (by decide))
    exact push false 78 (Or.inl ⟨rfl, rfl⟩) k78 ((if_pos k78).trans (by rw [ejf]))
  rw [show decide ((tok B n 200 i).k = 64 + ((14 : Nat) : Int)) = false from decide_eq_false (by omega)]
  refine Pv.if0 rfl (fun c => absurd c (by decide)) (fun _ => ?_)
  refine Pv.aload rfl rfl ?_
  refine Pv.lit rfl ?_
  refine Pv.callVI (as := [.ref 69, .long 28530]) (rest := []) (z := b2i (decide ((tok B n 200 i).k = 64 + ((13 : Nat) : Int)))) rfl rfl rfl (r_isWord (j := 13) hN1 (tok_wok _ _ _ _) (by decide) (by decide +kernel)) ?_
  by_cases k77 : (tok B n 200 i).k = 77
  · rw [show decide ((tok B n 200 i).k = 64 + ((13 : Nat) : Int)) = true from decide_eq_true (by omega)]
    refine Pv.if0 rfl (fun c => absurd c (by decide)) (fun _ => ?_)
    exact push true 77 (Or.inr ⟨rfl, rfl⟩) k77 (((if_neg k78).trans (if_pos k77)).trans (by rw [efl]))
  rw [show decide ((tok B n 200 i).k = 64 + ((13 : Nat) : Int)) = false from decide_eq_false (by omega)]
  refine Pv.if0 rfl (fun _ => ?_) (fun c => absurd c (by decide))
  have s2 := zj_sum true st1 cs1
  have v2 : ZV (zm_joins true st1 cs1).2 := zv_joins v1
  have ez : zm_beh (tok B n 200) i o cs st = (match (zm_joins true st1 cs1).2 with
    | [] => .inr (zn 1 i)
    | _ :: st3 => if (tok B n 200 i).k = 41 then .inl (i + 1, o, (zm_joins true st1 cs1).1, st3, true) else .inr (zn 1 i)) := by
    unfold zm_beh
    rw [if_neg k78, if_neg k77, efl]
    cases (zm_joins true st1 cs1).2 <;> rfl
  refine Pv.aload rfl rfl ?_
  refine Pv.lit rfl ?_
  refine Pv.callV (as := [.ref 69, .int (zjt true)]) (rest := []) rfl rfl rfl (x_joins true h1.1 C1 K1 (by omega)) (fun r2 F2 p => ?_)
  obtain ⟨rfl, x2, C2, K2⟩ := p
  have h2 := h1.zf x2 C2 K2
  have hN2 : NTF F2 (tok B n 200 i) := h2.2.1.2.2.2.1
  obtain ⟨cs2, ecs2⟩ : ∃ c, c = (zm_joins true st1 cs1).1 := ⟨_, rfl⟩
  obtain ⟨st2, est2⟩ : ∃ c, c = (zm_joins true st1 cs1).2 := ⟨_, rfl⟩
  rw [← ecs2, ← est2] at s2 ez h2
  rw [← est2] at v2 K2
  refine (show Pv (ab_T (L_X11_behind Z_X11_nots Z_X11_isWord Z_X11_joins Z_X11_next Z_X11_isSign Z_X11_bad)) N 98 [some (.ref 69)] [] F2 Q from ?_)
  have bad : zm_beh (tok B n 200) i o cs st = .inr (zn 1 i) → Pv (ab_T (L_X11_behind Z_X11_nots Z_X11_isWord Z_X11_joins Z_X11_next Z_X11_isSign Z_X11_bad)) N 114 [some (.ref 69)] [] F2 Q := fun eb => by
    refine Pv.aload rfl rfl ?_
    refine Pv.lit rfl ?_
    refine Pv.callV (as := [.ref 69, .int 1]) (rest := []) rfl rfl rfl (r_bad (c := 1) h2.1) (fun r3 F3 p => ?_)
    obtain ⟨rfl, e3⟩ := p
    refine (show Pv (ab_T (L_X11_behind Z_X11_nots Z_X11_isWord Z_X11_joins Z_X11_next Z_X11_isSign Z_X11_bad)) N 119 [some (.ref 69)] [.int 0] F3 Q from ?_)
    exact Pv.zret rfl (by rw [hQ, eb]; exact x_bad (i := i) h2.2.1 e3)
  refine Pv.aload rfl rfl ?_
  refine Pv.lit rfl ?_
  refine Pv.callVI (as := [.ref 69, .int 41]) (rest := []) (z := b2i (decide ((tok B n 200 i).k = (41 : Int32).toInt))) rfl rfl rfl (r_isSign hN2 rfl) ?_
  have e41 : (41 : Int32).toInt = 41 := rfl
  by_cases k41 : (tok B n 200 i).k = 41
  · rw [show decide ((tok B n 200 i).k = (41 : Int32).toInt) = true from decide_eq_true (by omega)]
    refine Pv.if0 rfl (fun c => absurd c (by decide)) (fun _ => ?_)
    refine Pv.aload rfl rfl ?_
    refine Pv.getI (z := Int32.ofNat st2.length) rfl rfl K2.1 ?_
    cases hst : st2 with
    | nil =>
      rw [hst] at ez
      refine Pv.if0 rfl (fun c => absurd c (by decide)) (fun _ => ?_)
      exact bad ez
    | cons x t =>
      rw [hst] at ez K2 h2 v2 s2
      have ez2 : zm_beh (tok B n 200) i o cs st = .inl (i + 1, o, cs2, t, true) := ez.trans (if_pos k41)
      have sl := s2.1
      rw [List.length_cons] at sl
      have x49 : x = 79 ∨ x = 40 := by
        have a := v2 x List.mem_cons_self
        have b := s2.2.2 rfl x t rfl
        omega
      have d1 : zm_dp (x :: t) = 1 + zm_dp t := zdp_1 x49
      have dl := zdp_le t
      refine Pv.if0 rfl (fun _ => ?_) (fun c => ?_)
      · refine Pv.aload rfl rfl ?_
        refine Pv.dup rfl ?_
        refine Pv.getI (z := Int32.ofNat (t.length + 1)) rfl rfl K2.1 ?_
        refine Pv.lit rfl ?_
        refine Pv.bin (z := Int32.ofNat t.length) rfl (i_pre (by omega)) ?_
        refine Pv.putI rfl rfl ?_
        refine Pv.aload rfl rfl ?_
        refine Pv.dup rfl ?_
        refine Pv.getI (z := Int32.ofNat ((1 + zm_dp t) + 1)) rfl rfl ((fp_ne (Or.inr (by decide))).trans (K2.2.1.trans (congrArg Int32.ofNat (by omega)))) ?_
        refine Pv.lit rfl ?_
        refine Pv.bin (z := Int32.ofNat (1 + zm_dp t)) rfl (i_pre (by omega)) ?_
        refine Pv.putI rfl rfl ?_
        have h3 : ZX (fp (fp F2 69 36 (Int32.ofNat t.length)) 69 37 (Int32.ofNat (1 + zm_dp t))) B n (i, o, cs2, t, true) := h2.zf ((ZF1.rf.p (Or.inr (Or.inl rfl))).p (Or.inr (Or.inr rfl))) (h2.2.2.2.1.of ((fp_ne (Or.inr (by decide))).trans (fp_ne (Or.inr (by decide)))) (fun k => (fp_ne (Or.inl (by decide))).trans (fp_ne (Or.inl (by decide))))) (K2.tl ((fp_ne (Or.inr (by decide))).trans fp_eq) fp_eq (fun k => (fp_ne (Or.inl (by decide))).trans (fp_ne (Or.inl (by decide)))))
        obtain ⟨F3, hF3⟩ : ∃ F3 : FW, F3 = fp (fp F2 69 36 (Int32.ofNat t.length)) 69 37 (Int32.ofNat (1 + zm_dp t)) := ⟨_, rfl⟩
        rw [← hF3] at h3 ⊢
        refine (show Pv (ab_T (L_X11_behind Z_X11_nots Z_X11_isWord Z_X11_joins Z_X11_next Z_X11_isSign Z_X11_bad)) N 140 [some (.ref 69)] [] F3 Q from ?_)
        refine Pv.aload rfl rfl ?_
        refine Pv.callV (as := [.ref 69]) (rest := []) rfl rfl rfl (r_next h3.1 h3.2.1) (fun r5 F5 p => ?_)
        obtain ⟨rfl, x5, t5⟩ := p
        refine (show Pv (ab_T (L_X11_behind Z_X11_nots Z_X11_isWord Z_X11_joins Z_X11_next Z_X11_isSign Z_X11_bad)) N 144 [some (.ref 69)] [] F5 Q from ?_)
        refine Pv.lit rfl ?_
        exact Pv.zret rfl (by rw [hQ, ez2]; exact ⟨rfl, h3.nx x5 t5⟩)
      · exfalso
        have c2 : decide (Int32.ofNat (t.length + 1) = 0) = true := by simpa using c
        have q := (i_eq (a := t.length + 1) (b := 0) (by omega) (by omega)).mp (of_decide_eq_true c2)
        omega
  · rw [show decide ((tok B n 200 i).k = (41 : Int32).toInt) = false from decide_eq_false (by omega)]
    refine Pv.if0 rfl (fun _ => ?_) (fun c => absurd c (by decide))
    refine bad ?_
    rw [ez]
    cases hst : st2 with
    | nil => rfl
    | cons x t => exact if_neg k41
