/-! ===== the reference reads a SENTENCE ===== -/
theorem trn_v {B : Nat → Int} {q m : Nat} (h : (trn B q m).k = 3) : 0 ≤ (trn B q m).v ∧ (trn B q m).v ≤ 999 := by
  by_cases c : allP tk_l B q m = true ∧ m ≤ 7
  · have e : trn B q m = (kw (pv B q m), (q : Int), wd B q m, q + m) := if_pos c
    rw [e] at h
    have h2 : kw (pv B q m) = 3 := h
    have r := rkk_word (pv B q m)
    rw [h2] at r
    exact absurd r (by decide)
  · by_cases c2 : allP tk_d B q m = true ∧ m ≤ 3
    · have e : trn B q m = (3, (q : Int), nb B q m, q + m) := (if_neg c).trans (if_pos c2)
      rw [e]
      have r := nb_rng c2.1 c2.2
      exact ⟨r.1, r.2.1⟩
    · have e : trn B q m = (1, (q : Int), 0, q + m) := (if_neg c).trans (if_neg c2)
      rw [e] at h
      exact absurd (show (1 : Int) = 3 from h) (by decide)
theorem tkq_v {B : Nat → Int} {n lim q : Nat} (h : (tkq B n lim q).k = 3) : 0 ≤ (tkq B n lim q).v ∧ (tkq B n lim q).v ≤ 999 := by
  by_cases c1 : lim < n ∧ lim ≤ q
  · rw [tkq_none c1.1 c1.2] at h
    exact absurd (show (1 : Int) = 3 from h) (by decide)
  · by_cases c2 : n ≤ q
    · rw [tkq_end c1 c2] at h
      exact absurd (show (0 : Int) = 3 from h) (by decide)
    · cases c3 : tk_r (B q) with
      | true =>
        rw [tkq_run c1 (by omega) c3] at h ⊢
        exact trn_v h
      | false =>
        rw [tkq_sig c1 (by omega) c3] at h
        exact absurd (show tsg (B q) = 3 from h) (tsg_ne _).1
theorem tok_v999 (B : Nat → Int) (n lim i : Nat) (h : (tok B n lim i).k = 3) : 0 ≤ (tok B n lim i).v ∧ (tok B n lim i).v ≤ 999 := tkq_v h
def zc3 (x : ZO) : Int32 × Int32 × Int32 := if x.1 = 79 then (20, 0, 0) else if x.1 = 78 then (21, 0, 0) else if x.1 = 77 then (22, 0, 0) else if x.1 ≤ 84 then (Int32.ofNat (x.1 - 80), 0, Int32.ofNat x.2.1) else (Int32.ofNat (x.1 - 80), Int32.ofNat x.2.1, Int32.ofNat x.2.2)
def zs1 (x : Nat) : Int32 := if x = 79 then 20 else if x = 78 then 21 else if x = 77 then 22 else 23
theorem zs1_20 {x : Nat} : zs1 x = 20 ↔ x = 79 := by
  unfold zs1
  by_cases a : x = 79
  · rw [if_pos a]
    exact ⟨fun _ => a, fun _ => rfl⟩
  · rw [if_neg a]
    by_cases b : x = 78
    · rw [if_pos b]
      exact ⟨fun h => absurd h (by decide), fun h => absurd h a⟩
    · rw [if_neg b]
      by_cases c : x = 77
      · rw [if_pos c]
        exact ⟨fun h => absurd h (by decide), fun h => absurd h a⟩
      · rw [if_neg c]
        exact ⟨fun h => absurd h (by decide), fun h => absurd h a⟩
theorem zs1_21 {x : Nat} : zs1 x = 21 ↔ x = 78 := by
  unfold zs1
  by_cases a : x = 79
  · rw [if_pos a]
    exact ⟨fun h => absurd h (by decide), fun h => by omega⟩
  · rw [if_neg a]
    by_cases b : x = 78
    · rw [if_pos b]
      exact ⟨fun _ => b, fun _ => rfl⟩
    · rw [if_neg b]
      by_cases c : x = 77
      · rw [if_pos c]
        exact ⟨fun h => absurd h (by decide), fun h => absurd h b⟩
      · rw [if_neg c]
        exact ⟨fun h => absurd h (by decide), fun h => absurd h b⟩
theorem zs1_22 {x : Nat} : zs1 x = 22 ↔ x = 77 := by
  unfold zs1
  by_cases a : x = 79
  · rw [if_pos a]
    exact ⟨fun h => absurd h (by decide), fun h => by omega⟩
  · rw [if_neg a]
    by_cases b : x = 78
    · rw [if_pos b]
      exact ⟨fun h => absurd h (by decide), fun h => by omega⟩
    · rw [if_neg b]
      by_cases c : x = 77
      · rw [if_pos c]
        exact ⟨fun _ => c, fun _ => rfl⟩
      · rw [if_neg c]
        exact ⟨fun h => absurd h (by decide), fun h => absurd h c⟩
def XC (F : FW) (cs : List ZO) : Prop := F.1 69 34 = Int32.ofNat cs.length ∧ ∀ (j : Nat) (x : ZO), cs[j]? = some x → F.1 73 (3 * j) = (zc3 x).1 ∧ F.1 73 (3 * j + 1) = (zc3 x).2.1 ∧ F.1 73 (3 * j + 2) = (zc3 x).2.2
def XK (F : FW) (st : List Nat) : Prop := F.1 69 36 = Int32.ofNat st.length ∧ F.1 69 37 = Int32.ofNat (1 + zm_dp st) ∧ ∀ (s : List Nat) (x : Nat) (t : List Nat), st = s ++ x :: t → F.1 82 t.length = zs1 x
theorem XC.of {F G : FW} {cs : List ZO} (h : XC F cs) (e34 : G.1 69 34 = F.1 69 34) (e73 : ∀ k, G.1 73 k = F.1 73 k) : XC G cs := ⟨e34.trans h.1, fun j x hj => by rw [e73, e73, e73]; exact h.2 j x hj⟩
theorem XK.of {F G : FW} {st : List Nat} (h : XK F st) (e36 : G.1 69 36 = F.1 69 36) (e37 : G.1 69 37 = F.1 69 37) (e82 : ∀ k, G.1 82 k = F.1 82 k) : XK G st := ⟨e36.trans h.1, e37.trans h.2.1, fun s x t e => (e82 _).trans (h.2.2 s x t e)⟩
theorem XC.add {F : FW} {cs : List ZO} (h : XC F cs) (x : ZO) : XC (fp (fp (fp (fp F 73 (3 * cs.length) (zc3 x).1) 73 (3 * cs.length + 1) (zc3 x).2.1) 73 (3 * cs.length + 2) (zc3 x).2.2) 69 34 (Int32.ofNat (cs.length + 1))) (cs ++ [x]) := by
  refine ⟨fp_eq.trans (by rw [List.length_append, List.length_singleton]), fun j y hj => ?_⟩
  have hlen := (List.getElem?_eq_some_iff.mp hj).1
  rw [List.length_append, List.length_singleton] at hlen
  by_cases e : j < cs.length
  · rw [List.getElem?_append_left e] at hj
    obtain ⟨h1, h2, h3⟩ := h.2 j y hj
    exact ⟨((fp_ne (Or.inl (by decide))).trans ((fp_ne (Or.inr (by omega))).trans ((fp_ne (Or.inr (by omega))).trans (fp_ne (Or.inr (by omega)))))).trans h1, ((fp_ne (Or.inl (by decide))).trans ((fp_ne (Or.inr (by omega))).trans ((fp_ne (Or.inr (by omega))).trans (fp_ne (Or.inr (by omega)))))).trans h2, ((fp_ne (Or.inl (by decide))).trans ((fp_ne (Or.inr (by omega))).trans ((fp_ne (Or.inr (by omega))).trans (fp_ne (Or.inr (by omega)))))).trans h3⟩
  · obtain rfl : j = cs.length := by omega
    rw [List.getElem?_append_right (Nat.le_refl _), Nat.sub_self] at hj
    obtain rfl := Option.some.inj hj
    exact ⟨(fp_ne (Or.inl (by decide))).trans ((fp_ne (Or.inr (by omega))).trans ((fp_ne (Or.inr (by omega))).trans fp_eq)), (fp_ne (Or.inl (by decide))).trans ((fp_ne (Or.inr (by omega))).trans fp_eq), (fp_ne (Or.inl (by decide))).trans fp_eq⟩
/-- what nots and joins change: codes, how many, the stack, how deep -/
def ZF1 (F G : FW) : Prop := FX (fun q => q = 69 ∨ q = 73 ∨ q = 82) F G ∧ (∀ k, k ≠ 34 → k ≠ 36 → k ≠ 37 → G.1 69 k = F.1 69 k) ∧ ∀ k, G.2.2.1 69 k = F.2.2.1 69 k
theorem ZF1.rf {F : FW} : ZF1 F F := ⟨FX.rf, fun _ _ _ _ => rfl, fun _ => rfl⟩
theorem ZF1.tr {F G K : FW} (a : ZF1 F G) (b : ZF1 G K) : ZF1 F K := ⟨a.1.tr b.1, fun k h1 h2 h3 => (b.2.1 k h1 h2 h3).trans (a.2.1 k h1 h2 h3), fun k => (b.2.2 k).trans (a.2.2 k)⟩
theorem ZF1.p {F G : FW} {k : Nat} {v : Int32} (h : ZF1 F G) (c : k = 34 ∨ k = 36 ∨ k = 37) : ZF1 F (fp G 69 k v) := ⟨h.1.fp (Or.inl rfl), fun j h1 h2 h3 => (fp_ne (Or.inr (by omega))).trans (h.2.1 j h1 h2 h3), h.2.2⟩
theorem ZF1.c {F G : FW} {k : Nat} {v : Int32} (h : ZF1 F G) : ZF1 F (fp G 73 k v) := ⟨h.1.fp (Or.inr (Or.inl rfl)), fun j h1 h2 h3 => (fp_ne (Or.inl (by decide))).trans (h.2.1 j h1 h2 h3), h.2.2⟩
theorem ZF1.s {F G : FW} {k : Nat} {v : Int32} (h : ZF1 F G) : ZF1 F (fp G 82 k v) := ⟨h.1.fp (Or.inr (Or.inr rfl)), fun j h1 h2 h3 => (fp_ne (Or.inl (by decide))).trans (h.2.1 j h1 h2 h3), h.2.2⟩
theorem ZF1.G {F G : FW} (h : ZF1 F G) (g : GW F) : GW G := g.fx h.1
theorem RTK.zf {F G : FW} {B : Nat → Int} {n lim i : Nat} (t : RTK F B n lim i) (h : ZF1 F G) : RTK G B n lim i := by
  have e : ∀ k, k ≠ 34 → k ≠ 36 → k ≠ 37 → G.1 69 k = F.1 69 k := h.2.1
  refine ⟨(e 3 (by decide) (by decide) (by decide)).trans t.1, (e 5 (by decide) (by decide) (by decide)).trans t.2.1, (RBF_same fun k => h.1.1 70 k (by decide)).trans t.2.2.1, ?_, t.2.2.2.2⟩
  unfold NTF
  rw [e 12 (by decide) (by decide) (by decide), e 4 (by decide) (by decide) (by decide), e 11 (by decide) (by decide) (by decide), e 14 (by decide) (by decide) (by decide), h.2.2 17]
  exact t.2.2.2.1
theorem i_pre {n : Nat} (h : n < 2147483647) : Int32.ofNat (n + 1) - 1 = Int32.ofNat n := Int32.toInt_inj.mp (by
  have e : (1 : Int32).toInt = 1 := rfl
  have e2 := i_toInt (k := n + 1) (by omega)
  rw [i_subI (by omega) (by omega), e2, e, i_toInt (by omega)]
  omega)
theorem zdp_le : ∀ st : List Nat, zm_dp st ≤ st.length
  | [] => Nat.le_refl _
  | x :: st => by
    have ih := zdp_le st
    show (if x = 79 ∨ x = 40 then 1 else 0) + zm_dp st ≤ st.length + 1
    split <;> omega
theorem zdp_1 {x : Nat} {st : List Nat} (h : x = 79 ∨ x = 40) : zm_dp (x :: st) = 1 + zm_dp st := by
  show (if x = 79 ∨ x = 40 then 1 else 0) + zm_dp st = _
  rw [if_pos h]
theorem zdp_0 {x : Nat} {st : List Nat} (h : ¬ (x = 79 ∨ x = 40)) : zm_dp (x :: st) = zm_dp st := by
  show (if x = 79 ∨ x = 40 then 1 else 0) + zm_dp st = _
  rw [if_neg h]
  omega
/-- the stack's top taken off -/
theorem XK.tl {F : FW} {x : Nat} {t : List Nat} (h : XK F (x :: t)) {G : FW} (e36 : G.1 69 36 = Int32.ofNat t.length) (e37 : G.1 69 37 = Int32.ofNat (1 + zm_dp t)) (e82 : ∀ k, G.1 82 k = F.1 82 k) : XK G t := ⟨e36, e37, fun s y u e => (e82 _).trans (h.2.2 (x :: s) y u (by rw [e]; rfl))⟩
/-- laid on top -/
theorem XK.pu {F : FW} {x : Nat} {t : List Nat} (h : XK F t) {G : FW} (e36 : G.1 69 36 = Int32.ofNat (t.length + 1)) (e37 : G.1 69 37 = Int32.ofNat (1 + zm_dp (x :: t))) (e82 : G.1 82 t.length = zs1 x) (e83 : ∀ k, k ≠ t.length → G.1 82 k = F.1 82 k) : XK G (x :: t) := ⟨e36, e37, fun s y u e => by
  cases s with
  | nil =>
    obtain ⟨rfl, rfl⟩ : x = y ∧ t = u := by injection e with e1 e2; exact ⟨e1, e2⟩
    exact e82
  | cons z s =>
    have e2 : t = s ++ y :: u := by injection e
    have hl : u.length < t.length := by rw [e2, List.length_append, List.length_cons]; omega
    exact (e83 _ (by omega)).trans (h.2.2 s y u e2)⟩
theorem x_nots {F : FW} {cs : List ZO} {st : List Nat} (hG : GW F) (hC : XC F cs) (hK : XK F st) (hb : cs.length + st.length ≤ 60) : Pm Z_X11_nots [.ref 69] F (fun r F' => r = none ∧ ZF1 F F' ∧ XC F' (zm_nots st cs).1 ∧ XK F' (zm_nots st cs).2) := by
  refine Pm.of fun N => ?_
  obtain ⟨Q, hQ⟩ : ∃ Q : Option Value → FW → Prop, Q = (fun r F' => r = none ∧ ZF1 F F' ∧ XC F' (zm_nots st cs).1 ∧ XK F' (zm_nots st cs).2) := ⟨_, rfl⟩
  rw [← hQ]
  refine (show Pv (ab_T (L_X11_nots Z_X11_code)) N 0 [some (.ref 69)] [] F Q from ?_)
  refine Pv.lp (ι := FW × List ZO × List Nat) (lof := fun _ => [some (.ref 69)]) (Ff := fun x => x.1) (P := fun x => ZF1 F x.1 ∧ XC x.1 x.2.1 ∧ XK x.1 x.2.2 ∧ x.2.1.length + x.2.2.length ≤ 60 ∧ zm_nots x.2.2 x.2.1 = zm_nots st cs) ?_ (F, cs, st) ⟨ZF1.rf, hC, hK, hb, rfl⟩
  rintro N1 hN1 ⟨G, cs1, st1⟩ ⟨hx, hC1, hK1, hb1, he⟩ ih
  replace hx : ZF1 F G := hx
  replace hC1 : XC G cs1 := hC1
  replace hK1 : XK G st1 := hK1
  replace he : zm_nots st1 cs1 = zm_nots st cs := he
  have gG := hx.G hG
  refine (show Pv (ab_T (L_X11_nots Z_X11_code)) (N1 + 1) 0 [some (.ref 69)] [] G Q from ?_)
  refine Pv.aloadS rfl rfl ?_
  refine Pv.getI (z := Int32.ofNat st1.length) rfl rfl hK1.1 ?_
  cases st1 with
  | nil =>
    refine Pv.if0 rfl (fun _ => ?_) (fun c => absurd c (by decide))
    exact Pv.vret rfl (by rw [hQ]; exact ⟨rfl, hx, by rw [← he]; exact ⟨hC1, hK1⟩⟩)
  | cons x t =>
    have hb2 : cs1.length + (t.length + 1) ≤ 60 := hb1
    refine Pv.if0 rfl (fun c => ?_) (fun _ => ?_)
    · have q := (i_le (a := t.length + 1) (b := 0) (by omega) (by omega)).mp (of_decide_eq_true c)
      omega
    · refine Pv.aload rfl rfl ?_
      refine Pv.getR (v := .ref 82) rfl rfl (GW.at (a := 69) (k := 33) (b := 82) gG (by decide)) ?_
      refine Pv.aload rfl rfl ?_
      refine Pv.getI (z := Int32.ofNat (t.length + 1)) rfl rfl hK1.1 ?_
      refine Pv.lit rfl ?_
      refine Pv.bin (z := Int32.ofNat t.length) rfl (i_pre (by omega)) ?_
      refine Pv.ald (z := zs1 x) rfl (by rw [i_toNat (by omega)]; exact hK1.2.2 [] x t rfl) ?_
      refine Pv.lit rfl ?_
      refine Pv.icmp rfl (fun c => ?_) (fun c => ?_)
      · have hx9 : ¬ x = 79 := fun e => by
          rw [zs1_20.mpr e] at c
          exact absurd c (by decide)
        have ez : zm_nots (x :: t) cs1 = (cs1, x :: t) := if_neg hx9
        exact Pv.vret rfl (by rw [hQ]; exact ⟨rfl, hx, by rw [← he, ez]; exact ⟨hC1, hK1⟩⟩)
      · have hx9 : x = 79 := zs1_20.mp (by simpa using c)
        have ez : zm_nots (x :: t) cs1 = zm_nots t (cs1 ++ [(79, 0, 0)]) := if_pos hx9
        have dl := zdp_le t
        have d1 : zm_dp (x :: t) = 1 + zm_dp t := zdp_1 (Or.inl hx9)
        refine Pv.aload rfl rfl ?_
        refine Pv.dup rfl ?_
        refine Pv.getI (z := Int32.ofNat (t.length + 1)) rfl rfl hK1.1 ?_
        refine Pv.lit rfl ?_
        refine Pv.bin (z := Int32.ofNat t.length) rfl (i_pre (by omega)) ?_
        refine Pv.putI rfl rfl ?_
        refine Pv.aload rfl rfl ?_
        refine Pv.dup rfl ?_
        refine Pv.getI (z := Int32.ofNat ((1 + zm_dp t) + 1)) rfl rfl ((fp_ne (Or.inr (by decide))).trans (hK1.2.1.trans (congrArg Int32.ofNat (by omega)))) ?_
        refine Pv.lit rfl ?_
        refine Pv.bin (z := Int32.ofNat (1 + zm_dp t)) rfl (i_pre (by omega)) ?_
        refine Pv.putI rfl rfl ?_
        obtain ⟨G2, hG2⟩ : ∃ G2 : FW, G2 = fp (fp G 69 36 (Int32.ofNat t.length)) 69 37 (Int32.ofNat (1 + zm_dp t)) := ⟨_, rfl⟩
        have x2 : ZF1 F G2 := by rw [hG2]; exact (hx.p (Or.inr (Or.inl rfl))).p (Or.inr (Or.inr rfl))
        have C2 : XC G2 cs1 := by rw [hG2]; exact hC1.of ((fp_ne (Or.inr (by decide))).trans (fp_ne (Or.inr (by decide)))) (fun k => (fp_ne (Or.inl (by decide))).trans (fp_ne (Or.inl (by decide))))
        have K2 : XK G2 t := by rw [hG2]; exact hK1.tl ((fp_ne (Or.inr (by decide))).trans fp_eq) fp_eq (fun k => (fp_ne (Or.inl (by decide))).trans (fp_ne (Or.inl (by decide))))
        rw [← hG2]
        refine (show Pv (ab_T (L_X11_nots Z_X11_code)) N1 43 [some (.ref 69)] [] G2 Q from ?_)
        refine Pv.aload rfl rfl ?_
        refine Pv.lit rfl ?_
        refine Pv.lit rfl ?_
        refine Pv.lit rfl ?_
        refine Pv.callV (as := [.ref 69, .int 20, .int 0, .int 0]) (rest := []) rfl rfl rfl (r_code (z := cs1.length) (x2.G hG) C2.1 (by omega) 20 0 0) (fun r G3 q => ?_)
        obtain ⟨rfl, rfl⟩ := q
        refine Pv.goto rfl ?_
        refine ih (_, cs1 ++ [(79, 0, 0)], t) ⟨(((x2.c).c).c).p (Or.inl rfl), C2.add (79, 0, 0), K2.of ((fp_ne (Or.inr (by decide))).trans ((fp_ne (Or.inl (by decide))).trans ((fp_ne (Or.inl (by decide))).trans (fp_ne (Or.inl (by decide)))))) ((fp_ne (Or.inr (by decide))).trans ((fp_ne (Or.inl (by decide))).trans ((fp_ne (Or.inl (by decide))).trans (fp_ne (Or.inl (by decide)))))) (fun k => (fp_ne (Or.inl (by decide))).trans ((fp_ne (Or.inl (by decide))).trans ((fp_ne (Or.inl (by decide))).trans (fp_ne (Or.inl (by decide)))))), ?_, ez.symm.trans he⟩
        show (cs1 ++ [(79, 0, 0)]).length + t.length ≤ 60
        rw [List.length_append, List.length_singleton]
        omega
def zjt (b : Bool) : Int32 := cond b 22 21
theorem x_joins {F : FW} {cs : List ZO} {st : List Nat} (b : Bool) (hG : GW F) (hC : XC F cs) (hK : XK F st) (hb : cs.length + st.length ≤ 60) : Pm Z_X11_joins [.ref 69, .int (zjt b)] F (fun r F' => r = none ∧ ZF1 F F' ∧ XC F' (zm_joins b st cs).1 ∧ XK F' (zm_joins b st cs).2) := by
  refine Pm.of fun N => ?_
  obtain ⟨Q, hQ⟩ : ∃ Q : Option Value → FW → Prop, Q = (fun r F' => r = none ∧ ZF1 F F' ∧ XC F' (zm_joins b st cs).1 ∧ XK F' (zm_joins b st cs).2) := ⟨_, rfl⟩
  rw [← hQ]
  refine (show Pv (ab_T (L_X11_joins Z_X11_code)) N 0 [some (.ref 69), some (.int (zjt b))] [] F Q from ?_)
  refine Pv.lp (ι := FW × List ZO × List Nat) (lof := fun _ => [some (.ref 69), some (.int (zjt b))]) (Ff := fun x => x.1) (P := fun x => ZF1 F x.1 ∧ XC x.1 x.2.1 ∧ XK x.1 x.2.2 ∧ x.2.1.length + x.2.2.length ≤ 60 ∧ zm_joins b x.2.2 x.2.1 = zm_joins b st cs) ?_ (F, cs, st) ⟨ZF1.rf, hC, hK, hb, rfl⟩
  rintro N1 hN1 ⟨G, cs1, st1⟩ ⟨hx, hC1, hK1, hb1, he⟩ ih
  replace hx : ZF1 F G := hx
  replace hC1 : XC G cs1 := hC1
  replace hK1 : XK G st1 := hK1
  replace he : zm_joins b st1 cs1 = zm_joins b st cs := he
  have gG := hx.G hG
  refine (show Pv (ab_T (L_X11_joins Z_X11_code)) (N1 + 1) 0 [some (.ref 69), some (.int (zjt b))] [] G Q from ?_)
  refine Pv.aloadS rfl rfl ?_
  refine Pv.getI (z := Int32.ofNat st1.length) rfl rfl hK1.1 ?_
  cases st1 with
  | nil =>
    refine Pv.if0 rfl (fun _ => ?_) (fun c => absurd c (by decide))
    exact Pv.vret rfl (by rw [hQ]; exact ⟨rfl, hx, by rw [← he]; exact ⟨hC1, hK1⟩⟩)
  | cons x t =>
    have hb2 : cs1.length + (t.length + 1) ≤ 60 := hb1
    have stop : ¬ (x = 78 ∨ (x = 77 ∧ b = true)) → Pv (ab_T (L_X11_joins Z_X11_code)) N1 73 [some (.ref 69), some (.int (zjt b))] [] G Q := fun hn => by
      have ez : zm_joins b (x :: t) cs1 = (cs1, x :: t) := if_neg hn
      exact Pv.vret rfl (by rw [hQ]; exact ⟨rfl, hx, by rw [← he, ez]; exact ⟨hC1, hK1⟩⟩)
    have go : (x = 78 ∨ (x = 77 ∧ b = true)) → Pv (ab_T (L_X11_joins Z_X11_code)) N1 45 [some (.ref 69), some (.int (zjt b))] [] G Q := fun hy => by
      have ez : zm_joins b (x :: t) cs1 = zm_joins b t (cs1 ++ [(x, 0, 0)]) := if_pos hy
      have d1 : zm_dp (x :: t) = zm_dp t := zdp_0 (by omega)
      have z3 : zc3 (x, 0, 0) = (zs1 x, 0, 0) := by rcases hy with rfl | ⟨rfl, -⟩ <;> rfl
      refine Pv.aload rfl rfl ?_
      refine Pv.dup rfl ?_
      refine Pv.getI (z := Int32.ofNat (t.length + 1)) rfl rfl hK1.1 ?_
      refine Pv.lit rfl ?_
      refine Pv.bin (z := Int32.ofNat t.length) rfl (i_pre (by omega)) ?_
      refine Pv.putI rfl rfl ?_
      obtain ⟨G2, hG2⟩ : ∃ G2 : FW, G2 = fp G 69 36 (Int32.ofNat t.length) := ⟨_, rfl⟩
      have x2 : ZF1 F G2 := by rw [hG2]; exact hx.p (Or.inr (Or.inl rfl))
      have C2 : XC G2 cs1 := by rw [hG2]; exact hC1.of (fp_ne (Or.inr (by decide))) (fun k => fp_ne (Or.inl (by decide)))
      have K2 : XK G2 t := by rw [hG2]; exact hK1.tl fp_eq ((fp_ne (Or.inr (by decide))).trans (hK1.2.1.trans (congrArg Int32.ofNat (by omega)))) (fun k => fp_ne (Or.inl (by decide)))
      have e82 : G2.1 82 t.length = zs1 x := by rw [hG2]; exact (fp_ne (Or.inl (by decide))).trans (hK1.2.2 [] x t rfl)
      rw [← hG2]
      refine (show Pv (ab_T (L_X11_joins Z_X11_code)) N1 55 [some (.ref 69), some (.int (zjt b))] [] G2 Q from ?_)
      refine Pv.aload rfl rfl ?_
      refine Pv.aload rfl rfl ?_
      refine Pv.getR (v := .ref 82) rfl rfl (GW.at (a := 69) (k := 33) (b := 82) (x2.G hG) (by decide)) ?_
      refine Pv.aload rfl rfl ?_
      refine Pv.getI (z := Int32.ofNat t.length) rfl rfl K2.1 ?_
      refine Pv.ald (z := zs1 x) rfl (by rw [i_toNat (by omega)]; exact e82) ?_
      refine Pv.lit rfl ?_
      refine Pv.lit rfl ?_
      refine Pv.callV (as := [.ref 69, .int (zs1 x), .int 0, .int 0]) (rest := []) rfl rfl rfl (r_code (z := cs1.length) (x2.G hG) C2.1 (by omega) (zs1 x) 0 0) (fun r G3 q => ?_)
      obtain ⟨rfl, rfl⟩ := q
      have C3 := C2.add (x, 0, 0)
      rw [z3] at C3
      refine Pv.goto rfl ?_
      refine ih (_, cs1 ++ [(x, 0, 0)], t) ⟨(((x2.c).c).c).p (Or.inl rfl), C3, K2.of ((fp_ne (Or.inr (by decide))).trans ((fp_ne (Or.inl (by decide))).trans ((fp_ne (Or.inl (by decide))).trans (fp_ne (Or.inl (by decide)))))) ((fp_ne (Or.inr (by decide))).trans ((fp_ne (Or.inl (by decide))).trans ((fp_ne (Or.inl (by decide))).trans (fp_ne (Or.inl (by decide)))))) (fun k => (fp_ne (Or.inl (by decide))).trans ((fp_ne (Or.inl (by decide))).trans ((fp_ne (Or.inl (by decide))).trans (fp_ne (Or.inl (by decide)))))), ?_, ez.symm.trans he⟩
      show (cs1 ++ [(x, 0, 0)]).length + t.length ≤ 60
      rw [List.length_append, List.length_singleton]
      omega
    refine Pv.if0 rfl (fun c => ?_) (fun _ => ?_)
    · have q := (i_le (a := t.length + 1) (b := 0) (by omega) (by omega)).mp (of_decide_eq_true c)
      omega
    · refine Pv.aload rfl rfl ?_
      refine Pv.getR (v := .ref 82) rfl rfl (GW.at (a := 69) (k := 33) (b := 82) gG (by decide)) ?_
      refine Pv.aload rfl rfl ?_
      refine Pv.getI (z := Int32.ofNat (t.length + 1)) rfl rfl hK1.1 ?_
      refine Pv.lit rfl ?_
      refine Pv.bin (z := Int32.ofNat t.length) rfl (i_pre (by omega)) ?_
      refine Pv.ald (z := zs1 x) rfl (by rw [i_toNat (by omega)]; exact hK1.2.2 [] x t rfl) ?_
      refine Pv.lit rfl ?_
      refine Pv.icmp rfl (fun c => ?_) (fun c => ?_)
      · exact go (Or.inl (zs1_21.mp (of_decide_eq_true c)))
      · have n78 : ¬ x = 78 := fun e => of_decide_eq_false c (zs1_21.mpr e)
        refine Pv.aload rfl rfl ?_
        refine Pv.getR (v := .ref 82) rfl rfl (GW.at (a := 69) (k := 33) (b := 82) gG (by decide)) ?_
        refine Pv.aload rfl rfl ?_
        refine Pv.getI (z := Int32.ofNat (t.length + 1)) rfl rfl hK1.1 ?_
        refine Pv.lit rfl ?_
        refine Pv.bin (z := Int32.ofNat t.length) rfl (i_pre (by omega)) ?_
        refine Pv.ald (z := zs1 x) rfl (by rw [i_toNat (by omega)]; exact hK1.2.2 [] x t rfl) ?_
        refine Pv.lit rfl ?_
        refine Pv.icmp rfl (fun c2 => ?_) (fun c2 => ?_)
        · have n77 : ¬ x = 77 := fun e => by
            rw [zs1_22.mpr e] at c2
            exact absurd c2 (by decide)
          exact stop (by omega)
        · have y77 : x = 77 := zs1_22.mp (by simpa using c2)
          refine Pv.iload rfl rfl ?_
          refine Pv.lit rfl ?_
          cases b with
          | false =>
            refine Pv.icmp rfl (fun _ => ?_) (fun c3 => absurd c3 (by decide))
            exact stop (by rintro (e | ⟨-, e⟩); exact n78 e; cases e)
          | true =>
            refine Pv.icmp rfl (fun c3 => absurd c3 (by decide)) (fun _ => ?_)
            exact go (Or.inr ⟨y77, rfl⟩)
