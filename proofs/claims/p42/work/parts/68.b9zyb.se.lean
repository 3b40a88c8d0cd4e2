/-- what the stack's way keeps -/
def ZMI (M : ZM) : Prop := M.2.1 ≤ 20 ∧ M.2.2.1.length + M.2.2.2.1.length + (if M.2.2.2.2 = true then 1 else 0) ≤ 2 * M.2.1 ∧ ZV M.2.2.2.1
theorem zf_sum (st : List Nat) (cs : List ZO) : (zm_flush st cs).1.length + (zm_flush st cs).2.length = cs.length + st.length :=
  (zj_sum true _ _).1.trans (zn_sum st cs).1
theorem zmi_step {K : Nat → TT} {M M' : ZM} (h : ZMI M) (e : zm_step K M = .inl M') : ZMI M' := by
  obtain ⟨i, o, cs, st, wh⟩ := M
  obtain ⟨ho, hs, hv⟩ := h
  replace ho : o ≤ 20 := ho
  replace hv : ZV st := hv
  cases wh with
  | true =>
    replace hs : cs.length + st.length + 1 ≤ 2 * o := hs
    have e : (if (K i).k = 0 then zm_fin i o cs st else zm_beh K i o cs st) = .inl M' := e
    by_cases k0 : (K i).k = 0
    · rw [if_pos k0] at e
      unfold zm_fin at e
      split at e <;> cases e
    · rw [if_neg k0] at e
      unfold zm_beh at e
      by_cases k78 : (K i).k = 78
      · rw [if_pos k78] at e
        obtain rfl := Sum.inl.inj e
        have s1 := (zj_sum false (zm_nots st cs).2 (zm_nots st cs).1).1
        have s2 := (zn_sum st cs).1
        refine ⟨ho, ?_, fun x hx => ?_⟩
        · show (zm_joins false (zm_nots st cs).2 (zm_nots st cs).1).1.length + (78 :: (zm_joins false (zm_nots st cs).2 (zm_nots st cs).1).2).length + 0 ≤ 2 * o
          rw [List.length_cons]
          omega
        · rcases List.mem_cons.mp hx with hx | hx
          · omega
          · exact zv_joins (zv_nots hv) x hx
      · rw [if_neg k78] at e
        have s1 := zf_sum st cs
        have v1 : ZV (zm_flush st cs).2 := zv_joins (zv_nots hv)
        by_cases k77 : (K i).k = 77
        · rw [if_pos k77] at e
          obtain rfl := Sum.inl.inj e
          refine ⟨ho, ?_, fun x hx => ?_⟩
          · show (zm_flush st cs).1.length + (77 :: (zm_flush st cs).2).length + 0 ≤ 2 * o
            rw [List.length_cons]
            omega
          · rcases List.mem_cons.mp hx with hx | hx
            · omega
            · exact v1 x hx
        · rw [if_neg k77] at e
          cases hst : (zm_flush st cs).2 with
          | nil =>
            rw [hst] at e
            cases e
          | cons x t =>
            rw [hst] at e s1 v1
            have e : (if (K i).k = 41 then Sum.inl (i + 1, o, (zm_flush st cs).1, t, true) else Sum.inr (zn 1 i)) = (Sum.inl M' : ZM ⊕ ZR) := e
            split at e
            · obtain rfl := Sum.inl.inj e
              rw [List.length_cons] at s1
              refine ⟨ho, ?_, fun y hy => v1 y (List.mem_cons_of_mem _ hy)⟩
              show (zm_flush st cs).1.length + t.length + 1 ≤ 2 * o
              omega
            · cases e
  | false =>
    replace hs : cs.length + st.length + 0 ≤ 2 * o := hs
    have e : zm_opd K i o cs st = .inl M' := e
    unfold zm_opd at e
    by_cases c : z_is K i
    · rw [if_pos c] at e
      by_cases c2 : 20 ≤ o ∨ 8 ≤ zm_dp st
      · rw [if_pos c2] at e
        cases e
      · rw [if_neg c2] at e
        by_cases k40 : (K i).k = 40
        · rw [if_pos k40] at e
          obtain rfl := Sum.inl.inj e
          refine ⟨(show o + 1 ≤ 20 by omega), ?_, fun x hx => ?_⟩
          · show cs.length + (40 :: st).length + 0 ≤ 2 * (o + 1)
            rw [List.length_cons]
            omega
          · rcases List.mem_cons.mp hx with hx | hx
            · omega
            · exact hv x hx
        · rw [if_neg k40] at e
          by_cases k79 : (K i).k = 79
          · rw [if_pos k79] at e
            obtain rfl := Sum.inl.inj e
            refine ⟨(show o + 1 ≤ 20 by omega), ?_, fun x hx => ?_⟩
            · show cs.length + (79 :: st).length + 0 ≤ 2 * (o + 1)
              rw [List.length_cons]
              omega
            · rcases List.mem_cons.mp hx with hx | hx
              · omega
              · exact hv x hx
          · rw [if_neg k79] at e
            cases ef : z_leaf K i (o + 1) cs with
            | inl y =>
              rw [ef] at e
              obtain rfl := Sum.inl.inj e
              have g := z_leaf_g ef
              refine ⟨(show y.2.1 ≤ 20 by omega), ?_, hv⟩
              show y.2.2.length + st.length + 1 ≤ 2 * y.2.1
              omega
            | inr e2 =>
              rw [ef] at e
              cases e
    · rw [if_neg c] at e
      cases e
theorem zb_noy {K : Nat → TT} {i o : Nat} {cs : List ZO} {st : List Nat} {y : Nat × Nat × List ZO} : ¬ zm_beh K i o cs st = .inr (.inl y) := fun e => by
  unfold zm_beh at e
  split at e
  · cases e
  · split at e
    · cases e
    · split at e
      · cases e
      · split at e <;> cases e
theorem zmi0 : ZMI (0, 0, [], [], false) := ⟨(show (0 : Nat) ≤ 20 by decide), (show ([] : List ZO).length + ([] : List Nat).length + (if false = true then 1 else 0) ≤ 2 * 0 by decide), fun x hx => by cases hx⟩
/-- the loop of the reference's sentence -/
theorem x_sen48 {F : FW} {B : Nat → Int} {n : Nat} (h : ZX F B n (0, 0, [], [], false)) (N : Nat) : Pv (ab_T (L_X11_sentence Z_X11_taken Z_X11_next Z_X11_nots Z_X11_joins Z_X11_bad Z_X11_behind Z_X11_operand)) N 48 [some (.ref 69), some (.int 1), none] [] F (fun r F' => ZA (tok B n 200) r (F'.1 69 15)) := by
  obtain ⟨Q, hQ⟩ : ∃ Q : Option Value → FW → Prop, Q = (fun r F' => ZA (tok B n 200) r (F'.1 69 15)) := ⟨_, rfl⟩
  rw [← hQ]
  have hz := zs_sen (K := tok B n 200)
  -- wrong
  have stop : ∀ (N1 : Nat) (g : Int32) (G : FW) (e : Int32 × Nat), ZT (tok B n 200) (0, 0, [], [], false) (.inr e) → G.1 69 15 = e.1 → (G.1 69 16).toInt = (tok B n 200 e.2).pl → Pv (ab_T (L_X11_sentence Z_X11_taken Z_X11_next Z_X11_nots Z_X11_joins Z_X11_bad Z_X11_behind Z_X11_operand)) N1 125 [some (.ref 69), some (.int g), none] [] G Q := fun N1 g G e hz2 h15 h16 => by
    have ez := ZT.one hz hz2
    refine Pv.lit rfl ?_
    refine Pv.aload rfl rfl ?_
    refine Pv.getI (z := G.1 69 16) rfl rfl rfl ?_
    refine Pv.bin (z := -1 - G.1 69 16) rfl rfl ?_
    exact Pv.ret rfl (by rw [hQ]; unfold ZA; rw [ez]; exact ⟨_, rfl, h16, h15⟩)
  refine Pv.lp (ι := FW × Bool × ZM) (lof := fun x => [some (.ref 69), some (.int (cond x.2.1 1 0)), none]) (Ff := fun x => x.1) (P := fun x => ZX x.1 B n x.2.2 ∧ ZMI x.2.2 ∧ (x.2.1 = true → Zr (tok B n 200) (0, 0, [], [], false) x.2.2) ∧ (x.2.1 = false → ZT (tok B n 200) (0, 0, [], [], false) (zy x.2.2.1 x.2.2.2.1 x.2.2.2.2.1))) ?_ (F, true, (0, 0, [], [], false)) ⟨h, zmi0, fun _ => Zr.rf, fun e => (by cases e)⟩
  rintro N1 hN1 ⟨G, g, i, o, cs, st, wh⟩ ⟨hx, hmi, hr, ht⟩ ih
  replace hx : ZX G B n (i, o, cs, st, wh) := hx
  replace hmi : ZMI (i, o, cs, st, wh) := hmi
  obtain ⟨ho, hsum, hv⟩ := id hmi
  replace ho : o ≤ 20 := ho
  replace hsum : cs.length + st.length + (if wh = true then 1 else 0) ≤ 2 * o := hsum
  replace hv : ZV st := hv
  refine (show Pv (ab_T (L_X11_sentence Z_X11_taken Z_X11_next Z_X11_nots Z_X11_joins Z_X11_bad Z_X11_behind Z_X11_operand)) (N1 + 1) 48 [some (.ref 69), some (.int (cond g 1 0)), none] [] G Q from ?_)
  refine Pv.iloadS rfl rfl ?_
  cases g with
  | false =>
    have ez : z_sen (tok B n 200) = zy i o cs := ZT.one hz (ht rfl)
    have f35 : G.1 69 35 = Int32.ofNat o := hx.2.2.1
    have f34 : G.1 69 34 = Int32.ofNat cs.length := hx.2.2.2.1.1
    have f15 : G.1 69 15 = 0 := hx.2.2.2.2.2.2
    refine Pv.if0 rfl (fun _ => ?_) (fun c => absurd c (by decide))
    refine Pv.aload rfl rfl ?_
    refine Pv.getR (v := .ref 71) rfl rfl (GW.at (a := 69) (k := 6) (b := 71) hx.1 (by decide)) ?_
    refine Pv.lit rfl ?_
    refine Pv.aload rfl rfl ?_
    refine Pv.getI (z := Int32.ofNat cs.length) rfl rfl f34 ?_
    refine Pv.astk (k := 253) (z := Int32.ofNat cs.length) rfl rfl rfl ?_
    refine Pv.lit rfl ?_
    refine Pv.istore (lo' := [some (.ref 69), some (.int 0), some (.int 0)]) rfl rfl ?_
    refine Pv.lp (ι := Nat × FW) (lof := fun x => [some (.ref 69), some (.int 0), some (.int (Int32.ofNat x.1))]) (Ff := fun x => x.2) (P := fun x => x.1 ≤ 3 * cs.length ∧ FX (fun q => q = 71) G x.2) ?_ (0, fp G 71 253 (Int32.ofNat cs.length)) ⟨Nat.zero_le _, FX.fp FX.rf rfl⟩
    rintro N2 hN2 ⟨k, G2⟩ ⟨hk, x2⟩ ih2
    replace hk : k ≤ 3 * cs.length := hk
    replace x2 : FX (fun q => q = 71) G G2 := x2
    have e : ∀ j, G2.1 69 j = G.1 69 j := fun j => x2.1 69 j (by decide)
    refine (show Pv (ab_T (L_X11_sentence Z_X11_taken Z_X11_next Z_X11_nots Z_X11_joins Z_X11_bad Z_X11_behind Z_X11_operand)) (N2 + 1) 146 [some (.ref 69), some (.int 0), some (.int (Int32.ofNat k))] [] G2 Q from ?_)
    refine Pv.iloadS rfl rfl ?_
    refine Pv.lit rfl ?_
    refine Pv.aload rfl rfl ?_
    refine Pv.getI (z := Int32.ofNat cs.length) rfl rfl ((e 34).trans f34) ?_
    refine Pv.bin (z := Int32.ofNat (3 * cs.length)) rfl (i_mul 3 cs.length) ?_
    have hcs : cs.length ≤ 40 := by
      split at hsum <;> omega
    refine Pv.icmp rfl (fun c => ?_) (fun c => ?_)
    · refine Pv.aload rfl rfl ?_
      refine Pv.getI (z := Int32.ofNat o) rfl rfl ((e 35).trans f35) ?_
      exact Pv.ret rfl (by rw [hQ]; unfold ZA; rw [ez]; exact ⟨rfl, (e 15).trans f15⟩)
    · have c2 := mt (i_le (a := 3 * cs.length) (b := k) (by omega) (by omega)).mpr (of_decide_eq_false c)
      refine Pv.aload rfl rfl ?_
      refine Pv.getR (v := .ref 71) rfl rfl (GW.at (a := 69) (k := 6) (b := 71) (hx.1.fx x2) (by decide)) ?_
      refine Pv.lit rfl ?_
      refine Pv.iload rfl rfl ?_
      refine Pv.bin (z := Int32.ofNat (254 + k)) rfl (i_add 254 k) ?_
      refine Pv.aload rfl rfl ?_
      refine Pv.getR (v := .ref 73) rfl rfl (GW.at (a := 69) (k := 8) (b := 73) (hx.1.fx x2) (by decide)) ?_
      refine Pv.iload rfl rfl ?_
      refine Pv.ald (z := G2.1 73 k) rfl (by rw [i_toNat (by omega)]) ?_
      refine Pv.astk (k := 254 + k) (z := G2.1 73 k) rfl (i_toNat (by omega)) rfl ?_
      refine Pv.iinc (y := Int32.ofNat (k + 1)) (lo' := [some (.ref 69), some (.int 0), some (.int (Int32.ofNat (k + 1)))]) rfl rfl (i_add k 1) rfl ?_
      refine Pv.goto rfl ?_
      exact ih2 (k + 1, fp G2 71 (254 + k) (G2.1 73 k)) ⟨(show k + 1 ≤ 3 * cs.length by omega), FX.fp x2 rfl⟩
  | true =>
    have zr := hr rfl
    replace zr : Zr (tok B n 200) (0, 0, [], [], false) (i, o, cs, st, wh) := zr
    have f38 := hx.2.2.2.2.2.1
    have hN := hx.2.1.2.2.2.1
    replace hN : NTF G (tok B n 200 i) := hN
    refine Pv.if0 rfl (fun c => absurd c (by decide)) (fun _ => ?_)
    refine Pv.aload rfl rfl ?_
    refine Pv.getI (z := cond wh 1 0) rfl rfl f38 ?_
    -- a step went well
    have next : ∀ (G2 : FW) (M2 : ZM), zm_step (tok B n 200) (i, o, cs, st, wh) = .inl M2 → ZX G2 B n M2 → Pv (ab_T (L_X11_sentence Z_X11_taken Z_X11_next Z_X11_nots Z_X11_joins Z_X11_bad Z_X11_behind Z_X11_operand)) N1 48 [some (.ref 69), some (.int 1), none] [] G2 Q := fun G2 M2 es h2 => ih (G2, true, M2) ⟨h2, zmi_step hmi es, fun _ => zr.tr (Zr.st es), fun q => (by cases q)⟩
    cases wh with
    | true =>
      replace hsum : cs.length + st.length + 1 ≤ 2 * o := hsum
      refine Pv.if0 rfl (fun c => absurd c (by decide)) (fun _ => ?_)
      refine Pv.aload rfl rfl ?_
      refine Pv.getI (z := G.1 69 11) rfl rfl rfl ?_
      by_cases k0 : (tok B n 200 i).k = 0
      · have e11 : G.1 69 11 = 0 := Int32.toInt_inj.mp (hN.2.2.1.trans (by rw [k0]; rfl))
        rw [e11]
        refine Pv.if0 rfl (fun c => absurd c (by decide)) (fun _ => ?_)
        have es : zm_step (tok B n 200) (i, o, cs, st, true) = zm_fin i o cs st := (if_pos rfl).trans (if_pos k0)
        refine Pv.aload rfl rfl ?_
        refine Pv.callV (as := [.ref 69]) (rest := []) rfl rfl rfl (x_nots hx.1 hx.2.2.2.1 hx.2.2.2.2.1 (by show cs.length + st.length ≤ 60; omega)) (fun r1 G1 p => ?_)
        obtain ⟨rfl, y1, C1, K1⟩ := p
        have h1 := hx.zf y1 C1 K1
        have s1 := (zn_sum st cs).1
        refine (show Pv (ab_T (L_X11_sentence Z_X11_taken Z_X11_next Z_X11_nots Z_X11_joins Z_X11_bad Z_X11_behind Z_X11_operand)) N1 70 [some (.ref 69), some (.int 1), none] [] G1 Q from ?_)
        refine Pv.aload rfl rfl ?_
        refine Pv.lit rfl ?_
        refine Pv.callV (as := [.ref 69, .int (zjt true)]) (rest := []) rfl rfl rfl (x_joins true h1.1 C1 K1 (by show (zm_nots st cs).1.length + (zm_nots st cs).2.length ≤ 60; omega)) (fun r2 G2 p => ?_)
        obtain ⟨rfl, y2, C2, K2⟩ := p
        have h2 := h1.zf y2 C2 K2
        have s2 := zf_sum st cs
        replace C2 : XC G2 (zm_flush st cs).1 := C2
        replace K2 : XK G2 (zm_flush st cs).2 := K2
        replace h2 : ZX G2 B n (i, o, (zm_flush st cs).1, (zm_flush st cs).2, true) := h2
        refine (show Pv (ab_T (L_X11_sentence Z_X11_taken Z_X11_next Z_X11_nots Z_X11_joins Z_X11_bad Z_X11_behind Z_X11_operand)) N1 76 [some (.ref 69), some (.int 1), none] [] G2 Q from ?_)
        refine Pv.aload rfl rfl ?_
        refine Pv.getI (z := Int32.ofNat (zm_flush st cs).2.length) rfl rfl K2.1 ?_
        cases hst : (zm_flush st cs).2 with
        | nil =>
          have es2 : zm_step (tok B n 200) (i, o, cs, st, true) = .inr (zy i o (zm_flush st cs).1) := by
            rw [es]
            unfold zm_fin
            rw [hst]
          rw [hst] at h2 s2
          refine Pv.if0 rfl (fun _ => ?_) (fun c => absurd c (by decide))
          refine Pv.lit rfl ?_
          refine Pv.istore (lo' := [some (.ref 69), some (.int 0), none]) rfl rfl ?_
          refine Pv.goto rfl ?_
          refine ih (G2, false, (i, o, (zm_flush st cs).1, [], true)) ⟨h2, ⟨ho, ?_, fun x hx => (by cases hx)⟩, fun q => (by cases q), fun _ => zr.fin (ZT.st es2)⟩
          show (zm_flush st cs).1.length + 0 + 1 ≤ 2 * o
          have s3 : (zm_flush st cs).1.length + 0 = cs.length + st.length := s2
          omega
        | cons x t =>
          have es2 : zm_step (tok B n 200) (i, o, cs, st, true) = .inr (zn 1 i) := by
            rw [es]
            unfold zm_fin
            rw [hst]
          rw [hst] at s2
          rw [List.length_cons] at s2
          refine Pv.if0 rfl (fun c => ?_) (fun _ => ?_)
          · have q := (i_le (a := t.length + 1) (b := 0) (by omega) (by omega)).mp (of_decide_eq_true c)
            omega
          · refine Pv.aload rfl rfl ?_
            refine Pv.lit rfl ?_
            refine Pv.callV (as := [.ref 69, .int 1]) (rest := []) rfl rfl rfl (r_bad (c := 1) h2.1) (fun r3 G3 p => ?_)
            obtain ⟨rfl, e3⟩ := p
            obtain ⟨-, b1, b2⟩ := x_bad (i := i) h2.2.1 e3
            have ez := ZT.one hz (zr.fin (ZT.st es2))
            refine (show Pv (ab_T (L_X11_sentence Z_X11_taken Z_X11_next Z_X11_nots Z_X11_joins Z_X11_bad Z_X11_behind Z_X11_operand)) N1 88 [some (.ref 69), some (.int 1), none] [.int 0] G3 Q from ?_)
            refine Pv.pop rfl ?_
            refine Pv.lit rfl ?_
            refine Pv.aload rfl rfl ?_
            refine Pv.getI (z := G3.1 69 16) rfl rfl rfl ?_
            refine Pv.bin (z := -1 - G3.1 69 16) rfl rfl ?_
            exact Pv.ret rfl (by rw [hQ]; unfold ZA; rw [ez]; exact ⟨_, rfl, b2, b1⟩)
      · have e11 : ¬ G.1 69 11 = 0 := fun q => k0 (rkk_0 (hN.2.2.1.symm.trans (congrArg Int32.toInt q)))
        refine Pv.if0 rfl (fun _ => ?_) (fun c => absurd (by simpa using c) e11)
        refine Pv.aload rfl rfl ?_
        refine Pv.getI (z := 1) rfl rfl f38 ?_
        refine Pv.if0 rfl (fun c => absurd c (by decide)) (fun _ => ?_)
        refine Pv.aload rfl rfl ?_
        refine Pv.callV (as := [.ref 69]) (rest := []) rfl rfl rfl (x_behind hx (by omega) hv) (fun r1 G1 p => ?_)
        have es : zm_step (tok B n 200) (i, o, cs, st, true) = zm_beh (tok B n 200) i o cs st := (if_pos rfl).trans (if_neg k0)
        cases eb : zm_beh (tok B n 200) i o cs st with
        | inl M2 =>
          rw [eb] at p es
          obtain ⟨rfl, h2⟩ := p
          refine (show Pv (ab_T (L_X11_sentence Z_X11_taken Z_X11_next Z_X11_nots Z_X11_joins Z_X11_bad Z_X11_behind Z_X11_operand)) N1 112 [some (.ref 69), some (.int 1), none] [.int 1] G1 Q from ?_)
          refine Pv.if0 rfl (fun _ => ?_) (fun c => absurd c (by decide))
          exact next G1 M2 es h2
        | inr e =>
          rw [eb] at p es
          cases e with
          | inl y => exact p.elim
          | inr e =>
            obtain ⟨rfl, q1, q2⟩ := p
            refine (show Pv (ab_T (L_X11_sentence Z_X11_taken Z_X11_next Z_X11_nots Z_X11_joins Z_X11_bad Z_X11_behind Z_X11_operand)) N1 112 [some (.ref 69), some (.int 1), none] [.int 0] G1 Q from ?_)
            refine Pv.if0 rfl (fun c => absurd c (by decide)) (fun _ => ?_)
            refine Pv.goto rfl ?_
            exact stop N1 1 G1 e (zr.fin (ZT.st es)) q1 q2
    | false =>
      replace hsum : cs.length + st.length + 0 ≤ 2 * o := hsum
      refine Pv.if0 rfl (fun _ => ?_) (fun c => absurd c (by decide))
      refine Pv.aload rfl rfl ?_
      refine Pv.getI (z := 0) rfl rfl f38 ?_
      refine Pv.if0 rfl (fun _ => ?_) (fun c => absurd c (by decide))
      refine Pv.aload rfl rfl ?_
      refine Pv.callV (as := [.ref 69]) (rest := []) rfl rfl rfl (x_operand hx ho (by omega)) (fun r1 G1 p => ?_)
      have es : zm_step (tok B n 200) (i, o, cs, st, false) = zm_opd (tok B n 200) i o cs st := if_neg (show ¬ (false = true) by decide)
      cases eb : zm_opd (tok B n 200) i o cs st with
      | inl M2 =>
        rw [eb] at p es
        obtain ⟨rfl, h2⟩ := p
        refine (show Pv (ab_T (L_X11_sentence Z_X11_taken Z_X11_next Z_X11_nots Z_X11_joins Z_X11_bad Z_X11_behind Z_X11_operand)) N1 122 [some (.ref 69), some (.int 1), none] [.int 1] G1 Q from ?_)
        refine Pv.if0 rfl (fun _ => ?_) (fun c => absurd c (by decide))
        exact next G1 M2 es h2
      | inr e =>
        rw [eb] at p es
        cases e with
        | inl y => exact p.elim
        | inr e =>
          obtain ⟨rfl, q1, q2⟩ := p
          refine (show Pv (ab_T (L_X11_sentence Z_X11_taken Z_X11_next Z_X11_nots Z_X11_joins Z_X11_bad Z_X11_behind Z_X11_operand)) N1 122 [some (.ref 69), some (.int 1), none] [.int 0] G1 Q from ?_)
          refine Pv.if0 rfl (fun c => absurd c (by decide)) (fun _ => ?_)
          exact stop N1 1 G1 e (zr.fin (ZT.st es)) q1 q2
theorem q_sen {F : FW} {tn : Nat} (hG : GW F) (h2 : F.1 69 2 = Int32.ofNat tn) (htn : tn ≤ 940) : Pm Z_X11_sentence [.ref 69] F (fun r F' => ZA (tok (RBF F tn) tn 200) r (F'.1 69 15)) := by
  refine Pm.of fun N => ?_
  refine (show Pv (ab_T (L_X11_sentence Z_X11_taken Z_X11_next Z_X11_nots Z_X11_joins Z_X11_bad Z_X11_behind Z_X11_operand)) N 0 [some (.ref 69), none, none] [] F _ from ?_)
  refine Pv.aload rfl rfl ?_
  refine Pv.lit rfl ?_
  refine Pv.putI rfl rfl ?_
  refine Pv.aload rfl rfl ?_
  refine Pv.lit rfl ?_
  refine Pv.callV (as := [.ref 69, .int (Int32.ofNat 200)]) (rest := []) rfl rfl rfl (r_taken (tn := tn) ((fp_ne (Or.inr (by decide))).trans h2) (Int32.ofNat 200)) (fun r1 F1 p => ?_)
  obtain ⟨rfl, e1⟩ := p
  refine (show Pv (ab_T (L_X11_sentence Z_X11_taken Z_X11_next Z_X11_nots Z_X11_joins Z_X11_bad Z_X11_behind Z_X11_operand)) N 12 [some (.ref 69), none, none] [] F1 _ from ?_)
  refine Pv.aload rfl rfl ?_
  refine Pv.lit rfl ?_
  refine Pv.putI rfl rfl ?_
  refine Pv.aload rfl rfl ?_
  refine Pv.lit rfl ?_
  refine Pv.putI rfl rfl ?_
  refine Pv.aload rfl rfl ?_
  refine Pv.lit rfl ?_
  refine Pv.putI rfl rfl ?_
  refine Pv.aload rfl rfl ?_
  refine Pv.lit rfl ?_
  refine Pv.putI rfl rfl ?_
  refine Pv.aload rfl rfl ?_
  refine Pv.lit rfl ?_
  refine Pv.putI rfl rfl ?_
  refine Pv.aload rfl rfl ?_
  refine Pv.lit rfl ?_
  refine Pv.putI rfl rfl ?_
  have x1 : FX (fun q => q = 69) F F1 := by rw [e1]; exact FX.fp (FX.fp (FX.fp (FX.fp (FX.fp FX.rf rfl) rfl) rfl) rfl) rfl
  have a3 : F1.1 69 3 = Int32.ofNat tn := by rw [e1]; exact (fp_ne (Or.inr (by decide))).trans ((fp_ne (Or.inr (by decide))).trans ((fp_ne (Or.inr (by decide))).trans fp_eq))
  have a4 : F1.1 69 4 = Int32.ofNat 0 := by rw [e1]; exact (fp_ne (Or.inr (by decide))).trans fp_eq
  have a5 : F1.1 69 5 = Int32.ofNat 200 := by rw [e1]; exact fp_eq
  obtain ⟨F2, hF2⟩ : ∃ F2 : FW, F2 = fp (fp (fp (fp (fp (fp F1 69 15 0) 69 34 0) 69 35 0) 69 36 0) 69 37 1) 69 38 0 := ⟨_, rfl⟩
  have x2 : FX (fun q => q = 69) F F2 := by rw [hF2]; exact FX.fp (FX.fp (FX.fp (FX.fp (FX.fp (FX.fp x1 rfl) rfl) rfl) rfl) rfl) rfl
  have k0 : ∀ k, k ≠ 15 → k ≠ 34 → k ≠ 35 → k ≠ 36 → k ≠ 37 → k ≠ 38 → F2.1 69 k = F1.1 69 k := fun k b1 b2 b3 b4 b5 b6 => by
    rw [hF2]
    exact (fp_ne (Or.inr b6)).trans ((fp_ne (Or.inr b5)).trans ((fp_ne (Or.inr b4)).trans ((fp_ne (Or.inr b3)).trans ((fp_ne (Or.inr b2)).trans (fp_ne (Or.inr b1))))))
  have b3 : F2.1 69 3 = Int32.ofNat tn := (k0 3 (by decide) (by decide) (by decide) (by decide) (by decide) (by decide)).trans a3
  have b4 : F2.1 69 4 = Int32.ofNat 0 := (k0 4 (by decide) (by decide) (by decide) (by decide) (by decide) (by decide)).trans a4
  have b5 : F2.1 69 5 = Int32.ofNat 200 := (k0 5 (by decide) (by decide) (by decide) (by decide) (by decide) (by decide)).trans a5
  have c15 : F2.1 69 15 = 0 := by rw [hF2]; exact (fp_ne (Or.inr (by decide))).trans ((fp_ne (Or.inr (by decide))).trans ((fp_ne (Or.inr (by decide))).trans ((fp_ne (Or.inr (by decide))).trans ((fp_ne (Or.inr (by decide))).trans fp_eq))))
  have c34 : F2.1 69 34 = 0 := by rw [hF2]; exact (fp_ne (Or.inr (by decide))).trans ((fp_ne (Or.inr (by decide))).trans ((fp_ne (Or.inr (by decide))).trans ((fp_ne (Or.inr (by decide))).trans fp_eq)))
  have c35 : F2.1 69 35 = 0 := by rw [hF2]; exact (fp_ne (Or.inr (by decide))).trans ((fp_ne (Or.inr (by decide))).trans ((fp_ne (Or.inr (by decide))).trans fp_eq))
  have c36 : F2.1 69 36 = 0 := by rw [hF2]; exact (fp_ne (Or.inr (by decide))).trans ((fp_ne (Or.inr (by decide))).trans fp_eq)
  have c37 : F2.1 69 37 = 1 := by rw [hF2]; exact (fp_ne (Or.inr (by decide))).trans fp_eq
  have c38 : F2.1 69 38 = 0 := by rw [hF2]; exact fp_eq
  rw [← hF2]
  refine (show Pv (ab_T (L_X11_sentence Z_X11_taken Z_X11_next Z_X11_nots Z_X11_joins Z_X11_bad Z_X11_behind Z_X11_operand)) N 42 [some (.ref 69), none, none] [] F2 _ from ?_)
  refine Pv.aload rfl rfl ?_
  refine Pv.callV (as := [.ref 69]) (rest := []) rfl rfl rfl (g_next (n := tn) (p := 0) (lim := 200) (hG.fx x2) b3 b4 b5 htn (Nat.zero_le _) (by omega)) (fun r3 F3 p => ?_)
  obtain ⟨rfl, y1, y2⟩ := p
  have ht : RTK F3 (RBF F tn) tn 200 0 := RTK.of0 y1 (fun k => x2.1 70 k (by decide)) b3 b5 y2 htn (by omega)
  have e : ∀ k, k ≠ 4 → k ≠ 11 → k ≠ 12 → k ≠ 13 → k ≠ 14 → F3.1 69 k = F2.1 69 k := y1.2.1
  refine (show Pv (ab_T (L_X11_sentence Z_X11_taken Z_X11_next Z_X11_nots Z_X11_joins Z_X11_bad Z_X11_behind Z_X11_operand)) N 46 [some (.ref 69), none, none] [] F3 _ from ?_)
  refine Pv.lit rfl ?_
  refine Pv.istore (lo' := [some (.ref 69), some (.int 1), none]) rfl rfl ?_
  exact x_sen48 ⟨y1.G (hG.fx x2), ht, (e 35 (by decide) (by decide) (by decide) (by decide) (by decide)).trans c35, ⟨(e 34 (by decide) (by decide) (by decide) (by decide) (by decide)).trans c34, fun j x hj => by cases hj⟩, ⟨(e 36 (by decide) (by decide) (by decide) (by decide) (by decide)).trans c36, (e 37 (by decide) (by decide) (by decide) (by decide) (by decide)).trans c37, fun s x t he => by cases s <;> cases he⟩, (e 38 (by decide) (by decide) (by decide) (by decide) (by decide)).trans c38, (e 15 (by decide) (by decide) (by decide) (by decide) (by decide)).trans c15⟩ N
/-- a Sentence on both sides: the answers; the faults -/
theorem lw_sen {t t1 : Nat → Nat} {hp hp1 hp2 : ab_H} {r1 r2 : Option Value} {D : DD} {tn : Nat} (H : sf_h t hp) (H1 : sf_h t1 hp1) (hce : sf_cE kq_X8_moveInto_v Z_X8_moveInto ke_X8_moveInto_v) (hC : CR (fl hp) D) (hX1 : XR (fl hp1) D) (htn : tn ≤ 940) (hn : sf_rd hp 1 1 = some (tn : Int)) (hm : sf_rd hp1 69 2 = some (tn : Int)) (hb : bv hp1 70 tn = bv hp 2 tn) (x1 : sf_eqn Z_X10_sentence [.ref 0] hp r1 hp1) (x2 : sf_eqn Z_X11_sentence [.ref 69] hp1 r2 hp2) : r1 = r2 ∧ (fl hp1).1 0 18 = (fl hp2).1 69 15 := by
  obtain ⟨-, a⟩ := d_senV H hce hn hC _ x1
  have b := pE H1 (q_sen hX1.G (nat_rd hm htn) htn) x2
  replace a : ZA (tok (bv hp 2 tn) tn 200) r1 ((fl hp1).1 0 18) := a
  replace b : ZA (tok (RBF (fl hp1) tn) tn 200) r2 ((fl hp2).1 69 15) := b
  rw [RBF_bv H1 htn, hb] at b
  unfold ZA at a b
  cases ez : z_sen (tok (bv hp 2 tn) tn 200) with
  | inl y =>
    rw [ez] at a b
    exact ⟨a.1.trans b.1.symm, a.2.trans b.2.symm⟩
  | inr e =>
    rw [ez] at a b
    obtain ⟨v, a1, a2, a3⟩ := a
    obtain ⟨w, b1, b2, b3⟩ := b
    have q : v = w := Int32.toInt_inj.mp (a2.trans b2.symm)
    rw [← q] at b1
    exact ⟨a1.trans b1.symm, a3.trans b3.symm⟩
