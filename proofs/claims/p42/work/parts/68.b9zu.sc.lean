theorem ZQ.i {u m : Nat} {K : Nat → TT} {F F' : FW} {r : Option Value} {x : ZR} (q : ZQ u K m F F' r x) : ∃ z : Int32, r = some (.int z) := by
  obtain ⟨-, q⟩ := q
  cases x with
  | inl y => exact ⟨1, q.1⟩
  | inr e => exact ⟨0, q.1⟩
theorem zk_n {x : Int32} {k : Int} (h : x.toInt = k) (h0 : 0 ≤ k) : x = Int32.ofNat k.toNat := i_ofv h h0
theorem zc_shore {F : FW} {u m i o : Nat} {K : Nat → TT} {l : List ZO} (h : ZS F u K m i o l) (hl : l.length < 40) (h80 : 80 ≤ (K i).k) (h84 : (K i).k ≤ 84) : Pm Z_X5_readOnShore [.ref u, .ref 3, .int (Int32.ofNat (K i).k.toNat)] F (fun r F' => ZQ u K m F F' r (z_leaf K i o l)) := by
  refine Pm.of fun N => ?_
  obtain ⟨Q, hQ⟩ : ∃ Q : Option Value → FW → Prop, Q = (fun r F' => ZQ u K m F F' r (z_leaf K i o l)) := ⟨_, rfl⟩
  rw [← hQ]
  refine (show Pv (ab_T (L_X5_readOnShore Z_X9_takeNumber Z_X9_step Z_X5_addOp)) N 0 [some (.ref u), some (.ref 3), some (.int (Int32.ofNat (K i).k.toNat)), none] [] F Q from ?_)
  refine Pv.aload rfl rfl ?_
  refine Pv.lit rfl ?_
  refine Pv.lit rfl ?_
  refine Pv.callV (as := [.ref 3, .int 0, .int 1]) (rest := []) rfl rfl rfl (z_num h (by omega) (by omega) 0 1) (fun r G q => ?_)
  obtain ⟨rfl, x, q1, q2⟩ := q
  replace q1 : tnN (K (i + 1)) 0 1 = 0 → ZS G u K m (i + 1) o l := q1
  replace q2 : ¬ tnN (K (i + 1)) 0 1 = 0 → G.1 3 9 = tnN (K (i + 1)) 0 1 ∧ (G.1 3 6).toInt = (K (i + 1)).pl := q2
  by_cases c : tnN (K (i + 1)) 0 1 = 0
  · have hs1 := q1 c
    have kn := tnN_k c
    have e1 : b2i (decide (tnN (K (i + 1)) (0 : Int32).toInt (1 : Int32).toInt = 0)) = 1 := by rw [decide_eq_true (show tnN (K (i + 1)) (0 : Int32).toInt (1 : Int32).toInt = 0 from c)]; rfl
    rw [e1]
    have e7 : G.1 3 7 = Int32.ofNat (K (i + 1)).v.toNat := i_ofv (hs1.2.1.2.2.2.1.2.2.1 kn.1) kn.2.1
    refine (show Pv (ab_T (L_X5_readOnShore Z_X9_takeNumber Z_X9_step Z_X5_addOp)) N 6 [some (.ref u), some (.ref 3), some (.int (Int32.ofNat (K i).k.toNat)), none] [.int 1] G Q from ?_)
    refine Pv.if0 rfl (fun _ => ?_) (fun c => absurd c (by decide))
    refine Pv.aload rfl rfl ?_
    refine Pv.getI (z := Int32.ofNat (K (i + 1)).v.toNat) rfl rfl e7 ?_
    refine Pv.istore (lo' := [some (.ref u), some (.ref 3), some (.int (Int32.ofNat (K i).k.toNat)), some (.int (Int32.ofNat (K (i + 1)).v.toNat))]) rfl rfl ?_
    refine Pv.aload rfl rfl ?_
    refine Pv.callV (as := [.ref 3]) (rest := []) rfl rfl rfl (z_step hs1 (by rw [kn.1]; decide) (by rw [kn.1]; decide)) (fun r2 G2 p => ?_)
    obtain ⟨rfl, hs2, x2⟩ := p
    refine (show Pv (ab_T (L_X5_readOnShore Z_X9_takeNumber Z_X9_step Z_X5_addOp)) N 20 [some (.ref u), some (.ref 3), some (.int (Int32.ofNat (K i).k.toNat)), some (.int (Int32.ofNat (K (i + 1)).v.toNat))] [] G2 Q from ?_)
    refine Pv.aload rfl rfl ?_
    refine Pv.iload rfl rfl ?_
    refine Pv.iload rfl rfl ?_
    refine Pv.lit rfl ?_
    refine Pv.callV (as := [.ref u, .int (Int32.ofNat (K i).k.toNat), .int (Int32.ofNat (K (i + 1)).v.toNat), .int (Int32.ofNat 0)]) (rest := []) rfl rfl rfl (z_addq hs2 hl _ _ 0) (fun r3 G3 p => ?_)
    obtain ⟨rfl, hs3, x3⟩ := p
    have el : z_leaf K i o l = zy (i + 2) o (l ++ [((K i).k.toNat, (K (i + 1)).v.toNat, 0)]) := (if_pos h84).trans (if_pos c)
    refine (show Pv (ab_T (L_X5_readOnShore Z_X9_takeNumber Z_X9_step Z_X5_addOp)) N 27 [some (.ref u), some (.ref 3), some (.int (Int32.ofNat (K i).k.toNat)), some (.int (Int32.ofNat (K (i + 1)).v.toNat))] [.int 1] G3 Q from ?_)
    exact Pv.zret rfl (by rw [hQ]; exact ⟨(x.tr x2).tr x3, by rw [el]; exact ⟨rfl, hs3⟩⟩)
  · have e1 : b2i (decide (tnN (K (i + 1)) (0 : Int32).toInt (1 : Int32).toInt = 0)) = 0 := by rw [decide_eq_false (show ¬ tnN (K (i + 1)) (0 : Int32).toInt (1 : Int32).toInt = 0 from c)]; rfl
    rw [e1]
    have el : z_leaf K i o l = zn (tnN (K (i + 1)) 0 1) (i + 1) := (if_pos h84).trans (if_neg c)
    refine (show Pv (ab_T (L_X5_readOnShore Z_X9_takeNumber Z_X9_step Z_X5_addOp)) N 6 [some (.ref u), some (.ref 3), some (.int (Int32.ofNat (K i).k.toNat)), none] [.int 0] G Q from ?_)
    refine Pv.if0 rfl (fun c => absurd c (by decide)) (fun _ => ?_)
    refine Pv.lit rfl ?_
    exact Pv.zret rfl (by rw [hQ]; exact ⟨x, by rw [el]; exact ⟨rfl, q2 c⟩⟩)
theorem zc_comp {F : FW} {u m i o : Nat} {K : Nat → TT} {l : List ZO} (h : ZS F u K m i o l) (hl : l.length < 40) (h85 : 85 ≤ (K i).k) : Pm Z_X5_readCompared [.ref u, .ref 3, .int (Int32.ofNat (K i).k.toNat)] F (fun r F' => ZQ u K m F F' r (z_leaf K i o l)) := by
  refine Pm.of fun N => ?_
  obtain ⟨Q, hQ⟩ : ∃ Q : Option Value → FW → Prop, Q = (fun r F' => ZQ u K m F F' r (z_leaf K i o l)) := ⟨_, rfl⟩
  rw [← hQ]
  have h84 : ¬ (K i).k ≤ 84 := by omega
  refine (show Pv (ab_T (L_X5_readCompared Z_X9_step Z_X9_fail Z_X9_takeNumber Z_X5_addOp)) N 0 [some (.ref u), some (.ref 3), some (.int (Int32.ofNat (K i).k.toNat)), none, none] [] F Q from ?_)
  refine Pv.aload rfl rfl ?_
  refine Pv.callV (as := [.ref 3]) (rest := []) rfl rfl rfl (z_step h (by omega) (by omega)) (fun r G p => ?_)
  obtain ⟨rfl, hs1, x⟩ := p
  refine (show Pv (ab_T (L_X5_readCompared Z_X9_step Z_X9_fail Z_X9_takeNumber Z_X5_addOp)) N 4 [some (.ref u), some (.ref 3), some (.int (Int32.ofNat (K i).k.toNat)), none, none] [] G Q from ?_)
  refine Pv.aload rfl rfl ?_
  refine Pv.getI (z := G.1 3 5) rfl rfl rfl ?_
  refine Pv.istore (lo' := [some (.ref u), some (.ref 3), some (.int (Int32.ofNat (K i).k.toNat)), some (.int (G.1 3 5)), none]) rfl rfl ?_
  have bad : ¬ ((K (i + 1)).k = 60 ∨ (K (i + 1)).k = 61 ∨ (K (i + 1)).k = 62) → Pv (ab_T (L_X5_readCompared Z_X9_step Z_X9_fail Z_X9_takeNumber Z_X5_addOp)) N 27 [some (.ref u), some (.ref 3), some (.int (Int32.ofNat (K i).k.toNat)), some (.int (G.1 3 5)), none] [] G Q := fun cb => by
    refine Pv.aload rfl rfl ?_
    refine Pv.lit rfl ?_
    refine Pv.callV (as := [.ref 3, .int 1]) (rest := []) rfl rfl rfl (c_fail (c := 1)) (fun r2 G2 p => ?_)
    obtain ⟨rfl, e2⟩ := p
    have el : z_leaf K i o l = zn 1 (i + 1) := (if_neg h84).trans (if_neg cb)
    refine (show Pv (ab_T (L_X5_readCompared Z_X9_step Z_X9_fail Z_X9_takeNumber Z_X5_addOp)) N 32 [some (.ref u), some (.ref 3), some (.int (Int32.ofNat (K i).k.toNat)), some (.int (G.1 3 5)), none] [.int 0] G2 Q from ?_)
    exact Pv.zret rfl (by rw [hQ, el]; exact (z_bad hs1 e2).tr x)
  have good : ((K (i + 1)).k = 60 ∨ (K (i + 1)).k = 61 ∨ (K (i + 1)).k = 62) → Pv (ab_T (L_X5_readCompared Z_X9_step Z_X9_fail Z_X9_takeNumber Z_X5_addOp)) N 33 [some (.ref u), some (.ref 3), some (.int (Int32.ofNat (K i).k.toNat)), some (.int (G.1 3 5)), none] [] G Q := fun cg => by
    have es : G.1 3 5 = (Int32.ofNat (K (i + 1)).k.toNat) := zk_n hs1.k (by omega)
    rw [es]
    refine Pv.aload rfl rfl ?_
    refine Pv.lit rfl ?_
    refine Pv.lit rfl ?_
    refine Pv.callV (as := [.ref 3, .int 0, .int 999]) (rest := []) rfl rfl rfl (z_num hs1 (by omega) (by omega) 0 999) (fun r2 G2 q => ?_)
    obtain ⟨rfl, x2, q1, q2⟩ := q
    have e999 : (999 : Int32).toInt = 999 := rfl
    have e0 : (0 : Int32).toInt = 0 := rfl
    rw [e0, e999] at q1 q2 ⊢
    have hv := (hs1.2.1.1.v (hs1.up (by omega) (by omega))).1
    by_cases c : (K (i + 2)).k = 3
    · have cz : tnN (K (i + 1 + 1)) 0 999 = 0 := by
        unfold tnN
        rw [if_pos (show (K (i + 1 + 1)).k = 3 from c), if_neg (by have := hv c; show ¬ ((K (i + 1 + 1)).v < 0 ∨ 999 < (K (i + 1 + 1)).v); omega)]
      have hs2 := q1 cz
      have e7 : G2.1 3 7 = Int32.ofNat (K (i + 2)).v.toNat := i_ofv (hs2.2.1.2.2.2.1.2.2.1 c) (hv c).1
      rw [decide_eq_true cz]
      refine (show Pv (ab_T (L_X5_readCompared Z_X9_step Z_X9_fail Z_X9_takeNumber Z_X5_addOp)) N 41 [some (.ref u), some (.ref 3), some (.int (Int32.ofNat (K i).k.toNat)), some (.int (Int32.ofNat (K (i + 1)).k.toNat)), none] [.int 1] G2 Q from ?_)
      refine Pv.if0 rfl (fun _ => ?_) (fun c => absurd c (by decide))
      refine Pv.aload rfl rfl ?_
      refine Pv.getI (z := Int32.ofNat (K (i + 2)).v.toNat) rfl rfl e7 ?_
      refine Pv.istore (lo' := [some (.ref u), some (.ref 3), some (.int (Int32.ofNat (K i).k.toNat)), some (.int (Int32.ofNat (K (i + 1)).k.toNat)), some (.int (Int32.ofNat (K (i + 2)).v.toNat))]) rfl rfl ?_
      refine Pv.aload rfl rfl ?_
      refine Pv.callV (as := [.ref 3]) (rest := []) rfl rfl rfl (z_step hs2 (by show (K (i + 2)).k ≠ 0; omega) (by show (K (i + 2)).k ≠ 1; omega)) (fun r3 G3 p => ?_)
      obtain ⟨rfl, hs3, x3⟩ := p
      refine (show Pv (ab_T (L_X5_readCompared Z_X9_step Z_X9_fail Z_X9_takeNumber Z_X5_addOp)) N 56 [some (.ref u), some (.ref 3), some (.int (Int32.ofNat (K i).k.toNat)), some (.int (Int32.ofNat (K (i + 1)).k.toNat)), some (.int (Int32.ofNat (K (i + 2)).v.toNat))] [] G3 Q from ?_)
      refine Pv.aload rfl rfl ?_
      refine Pv.iload rfl rfl ?_
      refine Pv.iload rfl rfl ?_
      refine Pv.iload rfl rfl ?_
      refine Pv.callV (as := [.ref u, .int (Int32.ofNat (K i).k.toNat), .int (Int32.ofNat (K (i + 1)).k.toNat), .int (Int32.ofNat (K (i + 2)).v.toNat)]) (rest := []) rfl rfl rfl (z_addq hs3 hl _ _ _) (fun r4 G4 p => ?_)
      obtain ⟨rfl, hs4, x4⟩ := p
      have el : z_leaf K i o l = zy (i + 3) o (l ++ [((K i).k.toNat, (K (i + 1)).k.toNat, (K (i + 2)).v.toNat)]) := ((if_neg h84).trans (if_pos cg)).trans (if_pos c)
      refine (show Pv (ab_T (L_X5_readCompared Z_X9_step Z_X9_fail Z_X9_takeNumber Z_X5_addOp)) N 64 [some (.ref u), some (.ref 3), some (.int (Int32.ofNat (K i).k.toNat)), some (.int (Int32.ofNat (K (i + 1)).k.toNat)), some (.int (Int32.ofNat (K (i + 2)).v.toNat))] [.int 1] G4 Q from ?_)
      exact Pv.zret rfl (by rw [hQ]; exact ⟨((x.tr x2).tr x3).tr x4, by rw [el]; exact ⟨rfl, hs4⟩⟩)
    · have cz : tnN (K (i + 1 + 1)) 0 999 = 1 := if_neg (show ¬ (K (i + 1 + 1)).k = 3 from c)
      have cn : ¬ tnN (K (i + 1 + 1)) 0 999 = 0 := by rw [cz]; decide
      have q3 := q2 cn
      rw [cz] at q3
      rw [decide_eq_false cn]
      have el : z_leaf K i o l = zn 1 (i + 2) := ((if_neg h84).trans (if_pos cg)).trans (if_neg c)
      refine (show Pv (ab_T (L_X5_readCompared Z_X9_step Z_X9_fail Z_X9_takeNumber Z_X5_addOp)) N 41 [some (.ref u), some (.ref 3), some (.int (Int32.ofNat (K i).k.toNat)), some (.int (Int32.ofNat (K (i + 1)).k.toNat)), none] [.int 0] G2 Q from ?_)
      refine Pv.if0 rfl (fun c => absurd c (by decide)) (fun _ => ?_)
      refine Pv.lit rfl ?_
      exact Pv.zret rfl (by rw [hQ]; exact ⟨x.tr x2, by rw [el]; exact ⟨rfl, q3⟩⟩)
  have e60 : (60 : Int32).toInt = 60 := rfl
  have e61 : (61 : Int32).toInt = 61 := rfl
  have e62 : (62 : Int32).toInt = 62 := rfl
  refine Pv.iload rfl rfl ?_
  refine Pv.lit rfl ?_
  refine Pv.icmp rfl (fun c1 => ?_) (fun c1 => ?_)
  · have q := of_decide_eq_true c1
    exact good (Or.inl (hs1.k.symm.trans ((congrArg Int32.toInt q).trans e60)))
  have n1 : ¬ (K (i + 1)).k = 60 := fun e => of_decide_eq_false c1 (Int32.toInt_inj.mp (hs1.k.trans (e.trans e60.symm)))
  refine Pv.iload rfl rfl ?_
  refine Pv.lit rfl ?_
  refine Pv.icmp rfl (fun c2 => ?_) (fun c2 => ?_)
  · have q := of_decide_eq_true c2
    exact good (Or.inr (Or.inl (hs1.k.symm.trans ((congrArg Int32.toInt q).trans e61))))
  have n2 : ¬ (K (i + 1)).k = 61 := fun e => of_decide_eq_false c2 (Int32.toInt_inj.mp (hs1.k.trans (e.trans e61.symm)))
  refine Pv.iload rfl rfl ?_
  refine Pv.lit rfl ?_
  refine Pv.icmp rfl (fun c3 => ?_) (fun c3 => ?_)
  · have q := of_decide_eq_true c3
    exact good (Or.inr (Or.inr (hs1.k.symm.trans ((congrArg Int32.toInt q).trans e62))))
  have n3 : ¬ (K (i + 1)).k = 62 := fun e => of_decide_eq_false c3 (Int32.toInt_inj.mp (hs1.k.trans (e.trans e62.symm)))
  exact bad (by omega)
/-- a reader of what stands in brackets -/
def ZRB (X : List Value → ab_H → Option ab_O) (u : Nat) (K : Nat → TT) (m : Nat) (w : Int32) (d : Nat) : Prop := ∀ (F : FW) (i o : Nat) (l : List ZO), (K i).k = 40 → ZS F u K m i o l → o ≤ 20 → l.length ≤ 2 * o → Pm X [.ref u, .ref 3, .int w] F (fun r F' => ZQ u K m F F' r (z_close K (z_cond K (z_one K d) (i + 1) o l)))
theorem zc_brack {xC : List Value → ab_H → Option ab_O} {u m n d : Nat} {K : Nat → TT} (hf : ZRD xC u K m (Int32.ofNat (n + 1)) (z_cond K (z_one K d))) : ZRB (ab_X (ab_T (L_X5_readBracket Z_X9_step xC Z_X9_fail)) 3) u K m (Int32.ofNat n) d := fun F i o l h40 h ho hl => by
  refine Pm.of fun N => ?_
  obtain ⟨Q, hQ⟩ : ∃ Q : Option Value → FW → Prop, Q = (fun r F' => ZQ u K m F F' r (z_close K (z_cond K (z_one K d) (i + 1) o l))) := ⟨_, rfl⟩
  rw [← hQ]
  refine (show Pv (ab_T (L_X5_readBracket Z_X9_step xC Z_X9_fail)) N 0 [some (.ref u), some (.ref 3), some (.int (Int32.ofNat n))] [] F Q from ?_)
  refine Pv.aload rfl rfl ?_
  refine Pv.callV (as := [.ref 3]) (rest := []) rfl rfl rfl (z_step h (by omega) (by omega)) (fun r G p => ?_)
  obtain ⟨rfl, hs1, x⟩ := p
  refine (show Pv (ab_T (L_X5_readBracket Z_X9_step xC Z_X9_fail)) N 4 [some (.ref u), some (.ref 3), some (.int (Int32.ofNat n))] [] G Q from ?_)
  refine Pv.aload rfl rfl ?_
  refine Pv.aload rfl rfl ?_
  refine Pv.iload rfl rfl ?_
  refine Pv.lit rfl ?_
  refine Pv.bin (z := Int32.ofNat (n + 1)) rfl (i_add n 1) ?_
  refine Pv.callV (as := [.ref u, .ref 3, .int (Int32.ofNat (n + 1))]) (rest := []) rfl rfl rfl (hf G (i + 1) o l hs1 ho hl) (fun r2 G2 q => ?_)
  obtain ⟨x2, q⟩ := q
  cases ef : z_cond K (z_one K d) (i + 1) o l with
  | inr e =>
    rw [ef] at q
    obtain ⟨rfl, q1, q2⟩ := q
    refine (show Pv (ab_T (L_X5_readBracket Z_X9_step xC Z_X9_fail)) N 12 [some (.ref u), some (.ref 3), some (.int (Int32.ofNat n))] [.int 0] G2 Q from ?_)
    refine Pv.if0 rfl (fun c => absurd c (by decide)) (fun _ => ?_)
    refine Pv.lit rfl ?_
    exact Pv.zret rfl (by rw [hQ]; exact ⟨x.tr x2, by rw [ef]; exact ⟨rfl, q1, q2⟩⟩)
  | inl y =>
    rw [ef] at q
    obtain ⟨rfl, hs2⟩ := q
    refine (show Pv (ab_T (L_X5_readBracket Z_X9_step xC Z_X9_fail)) N 12 [some (.ref u), some (.ref 3), some (.int (Int32.ofNat n))] [.int 1] G2 Q from ?_)
    refine Pv.if0 rfl (fun _ => ?_) (fun c => absurd c (by decide))
    refine Pv.aload rfl rfl ?_
    refine Pv.getI (z := G2.1 3 5) rfl rfl rfl ?_
    refine Pv.lit rfl ?_
    refine Pv.icmp rfl (fun c1 => ?_) (fun c1 => ?_)
    · have ck : (K y.1).k = 41 := hs2.k.symm.trans (congrArg Int32.toInt (of_decide_eq_true c1))
      have ec : z_close K (.inl y) = zy (y.1 + 1) y.2.1 y.2.2 := if_pos ck
      refine Pv.aload rfl rfl ?_
      refine Pv.callV (as := [.ref 3]) (rest := []) rfl rfl rfl (z_step hs2 (by omega) (by omega)) (fun r3 G3 p => ?_)
      obtain ⟨rfl, hs3, x3⟩ := p
      refine (show Pv (ab_T (L_X5_readBracket Z_X9_step xC Z_X9_fail)) N 36 [some (.ref u), some (.ref 3), some (.int (Int32.ofNat n))] [] G3 Q from ?_)
      refine Pv.lit rfl ?_
      exact Pv.zret rfl (by rw [hQ]; exact ⟨(x.tr x2).tr x3, by rw [ef, ec]; exact ⟨rfl, hs3⟩⟩)
    · have ck : ¬ (K y.1).k = 41 := fun e => of_decide_eq_false c1 (Int32.toInt_inj.mp (hs2.k.trans e))
      have ec : z_close K (.inl y) = zn 1 y.1 := if_neg ck
      refine Pv.aload rfl rfl ?_
      refine Pv.lit rfl ?_
      refine Pv.callV (as := [.ref 3, .int 1]) (rest := []) rfl rfl rfl (c_fail (c := 1)) (fun r3 G3 p => ?_)
      obtain ⟨rfl, e3⟩ := p
      refine (show Pv (ab_T (L_X5_readBracket Z_X9_step xC Z_X9_fail)) N 31 [some (.ref u), some (.ref 3), some (.int (Int32.ofNat n))] [.int 0] G3 Q from ?_)
      exact Pv.zret rfl (by rw [hQ, ef, ec]; exact (z_bad hs2 e3).tr (x.tr x2))
theorem zc_one {xB xO : List Value → ab_H → Option ab_O} {u m n d : Nat} {K : Nat → TT} (hn : n + d = 8) (hB : ZRB xB u K m (Int32.ofNat n) d) (hO : ZRD xO u K m (Int32.ofNat (n + 1)) (z_one K d)) : ZRD (ab_X (ab_T (L_X5_readOne Z_X9_fail xB Z_X9_step xO Z_X5_addOp Z_X5_readOnShore Z_X5_readCompared)) 6) u K m (Int32.ofNat n) (z_one K (d + 1)) := fun F i o l h ho hl => by
  refine Pm.of fun N => ?_
  obtain ⟨Q, hQ⟩ : ∃ Q : Option Value → FW → Prop, Q = (fun r F' => ZQ u K m F F' r (z_one K (d + 1) i o l)) := ⟨_, rfl⟩
  rw [← hQ]
  have e40 : (40 : Int32).toInt = 40 := rfl
  have e79 : (79 : Int32).toInt = 79 := rfl
  have e88 : (88 : Int32).toInt = 88 := rfl
  have e84 : (84 : Int32).toInt = 84 := rfl
  have hk := h.k
  have many : z_is K i → (20 ≤ o ∨ 9 ≤ n) → ∀ b : Int32, Pv (ab_T (L_X5_readOne Z_X9_fail xB Z_X9_step xO Z_X5_addOp Z_X5_readOnShore Z_X5_readCompared)) N 70 [some (.ref u), some (.ref 3), some (.int (Int32.ofNat n)), some (.int b), some (.int 1), none] [] F Q := fun ci cm b => by
    have ez : z_one K (d + 1) i o l = zn 4 i := by
      show (if z_is K i then (if 20 ≤ o then _ else _) else _) = _
      rw [if_pos ci, if_pos (show 20 ≤ o by omega)]
    refine Pv.aload rfl rfl ?_
    refine Pv.lit rfl ?_
    refine Pv.callV (as := [.ref 3, .int 4]) (rest := []) rfl rfl rfl (c_fail (c := 4)) (fun r2 G2 p => ?_)
    obtain ⟨rfl, e2⟩ := p
    refine (show Pv (ab_T (L_X5_readOne Z_X9_fail xB Z_X9_step xO Z_X5_addOp Z_X5_readOnShore Z_X5_readCompared)) N 75 [some (.ref u), some (.ref 3), some (.int (Int32.ofNat n)), some (.int b), some (.int 1), none] [.int 0] G2 Q from ?_)
    exact Pv.zret rfl (by rw [hQ, ez]; exact z_bad h e2)
  have go : z_is K i → ∀ b : Int32, ((b = 1 ∧ (K i).k = 40) ∨ (b = 0 ∧ ¬ (K i).k = 40)) → Pv (ab_T (L_X5_readOne Z_X9_fail xB Z_X9_step xO Z_X5_addOp Z_X5_readOnShore Z_X5_readCompared)) N 55 [some (.ref u), some (.ref 3), some (.int (Int32.ofNat n)), some (.int b), some (.int 1), none] [] F Q := fun ci b hb => by
    refine Pv.aload rfl rfl ?_
    refine Pv.getI (z := Int32.ofNat o) rfl rfl h.2.2.1.2.2.1 ?_
    refine Pv.lit rfl ?_
    refine Pv.icmp rfl (fun c1 => ?_) (fun c1 => ?_)
    · exact many ci (Or.inl ((i_le (a := 20) (b := o) (by omega) (by omega)).mp (of_decide_eq_true c1))) b
    replace c1 := mt (i_le (a := 20) (b := o) (by omega) (by omega)).mpr (of_decide_eq_false c1)
    refine Pv.iload rfl rfl ?_
    refine Pv.lit rfl ?_
    refine Pv.icmp rfl (fun c2 => ?_) (fun c2 => ?_)
    · have ez : z_one K (d + 1) i o l = (if (K i).k = 40 then z_close K (z_cond K (z_one K d) (i + 1) (o + 1) l) else if (K i).k = 79 then z_op 79 (z_one K d (i + 1) (o + 1) l) else z_leaf K i (o + 1) l) := by
        show (if z_is K i then (if 20 ≤ o then _ else _) else _) = _
        rw [if_pos ci, if_neg c1]
      refine Pv.aload rfl rfl ?_
      refine Pv.dup rfl ?_
      refine Pv.getI (z := Int32.ofNat o) rfl rfl h.2.2.1.2.2.1 ?_
      refine Pv.lit rfl ?_
      refine Pv.bin (z := Int32.ofNat (o + 1)) rfl (i_add o 1) ?_
      refine Pv.putI rfl rfl ?_
      have x0 : FX (fun q => u ≤ q ∧ q ≤ u + 3) F (fp F u 4 (Int32.ofNat (o + 1))) := FX.fp FX.rf (show u ≤ u ∧ u ≤ u + 3 by omega)
      have hs : ZS (fp F u 4 (Int32.ofNat (o + 1))) u K m i (o + 1) l := ⟨h.1.fx x0, h.2.1.fx x0 h.2.2.2, ⟨FX.O3 x0 h.2.2.1.1, (fp_ne (Or.inr (by decide))).trans h.2.2.1.2.1, fp_eq, fun j y hj => ⟨(fp_ne (Or.inl (by omega))).trans (h.2.2.1.2.2.2 j y hj).1, (fp_ne (Or.inl (by omega))).trans (h.2.2.1.2.2.2 j y hj).2.1, (fp_ne (Or.inl (by omega))).trans (h.2.2.1.2.2.2 j y hj).2.2⟩⟩, h.2.2.2⟩
      have x1 : FSX u F (fp F u 4 (Int32.ofNat (o + 1))) := FSX.ou x0
      obtain ⟨F2, hF2⟩ : ∃ F2 : FW, F2 = fp F u 4 (Int32.ofNat (o + 1)) := ⟨_, rfl⟩
      rw [← hF2] at hs x1 ⊢
      refine (show Pv (ab_T (L_X5_readOne Z_X9_fail xB Z_X9_step xO Z_X5_addOp Z_X5_readOnShore Z_X5_readCompared)) N 86 [some (.ref u), some (.ref 3), some (.int (Int32.ofNat n)), some (.int b), some (.int 1), none] [] F2 Q from ?_)
      refine Pv.iload rfl rfl ?_
      rcases hb with ⟨rfl, k40⟩ | ⟨rfl, k40⟩
      · refine Pv.if0 rfl (fun c => absurd c (by decide)) (fun _ => ?_)
        refine Pv.aload rfl rfl ?_
        refine Pv.aload rfl rfl ?_
        refine Pv.iload rfl rfl ?_
        refine Pv.callV (as := [.ref u, .ref 3, .int (Int32.ofNat n)]) (rest := []) rfl rfl rfl (hB F2 i (o + 1) l k40 hs (by omega) (by omega)) (fun r G q => ?_)
        obtain ⟨z, rfl⟩ := q.i
        rw [if_pos k40] at ez
        refine (show Pv (ab_T (L_X5_readOne Z_X9_fail xB Z_X9_step xO Z_X5_addOp Z_X5_readOnShore Z_X5_readCompared)) N 96 [some (.ref u), some (.ref 3), some (.int (Int32.ofNat n)), some (.int 1), some (.int 1), none] [.int z] G Q from ?_)
        exact Pv.zret rfl (by rw [hQ, ez]; exact q.tr x1)
      · rw [if_neg k40] at ez
        have ek : F2.1 3 5 = Int32.ofNat (K i).k.toNat := zk_n hs.k (by omega)
        refine Pv.if0 rfl (fun _ => ?_) (fun c => absurd c (by decide))
        refine Pv.aload rfl rfl ?_
        refine Pv.getI (z := Int32.ofNat (K i).k.toNat) rfl rfl ek ?_
        refine Pv.istore (lo' := [some (.ref u), some (.ref 3), some (.int (Int32.ofNat n)), some (.int 0), some (.int 1), some (.int (Int32.ofNat (K i).k.toNat))]) rfl rfl ?_
        refine Pv.iload rfl rfl ?_
        refine Pv.lit rfl ?_
        refine Pv.icmp rfl (fun c3 => ?_) (fun c3 => ?_)
        · have k79 : ¬ (K i).k = 79 := fun e => by
            rw [e] at c3
            exact absurd c3 (by decide)
          rw [if_neg k79] at ez
          refine Pv.iload rfl rfl ?_
          refine Pv.lit rfl ?_
          refine Pv.icmp rfl (fun c4 => ?_) (fun c4 => ?_)
          · have q4 := (i_lt (a := 84) (b := (K i).k.toNat) (by omega) (by omega)).mp (of_decide_eq_true c4)
            refine Pv.aload rfl rfl ?_
            refine Pv.aload rfl rfl ?_
            refine Pv.iload rfl rfl ?_
            refine Pv.callV (as := [.ref u, .ref 3, .int (Int32.ofNat (K i).k.toNat)]) (rest := []) rfl rfl rfl (zc_comp hs (by omega) (by omega)) (fun r G q => ?_)
            obtain ⟨z, rfl⟩ := q.i
            refine (show Pv (ab_T (L_X5_readOne Z_X9_fail xB Z_X9_step xO Z_X5_addOp Z_X5_readOnShore Z_X5_readCompared)) N 166 [some (.ref u), some (.ref 3), some (.int (Int32.ofNat n)), some (.int 0), some (.int 1), some (.int (Int32.ofNat (K i).k.toNat))] [.int z] G Q from ?_)
            exact Pv.zret rfl (by rw [hQ, ez]; exact q.tr x1)
          · have q4 := mt (i_lt (a := 84) (b := (K i).k.toNat) (by omega) (by omega)).mpr (of_decide_eq_false c4)
            refine Pv.aload rfl rfl ?_
            refine Pv.aload rfl rfl ?_
            refine Pv.iload rfl rfl ?_
            refine Pv.callV (as := [.ref u, .ref 3, .int (Int32.ofNat (K i).k.toNat)]) (rest := []) rfl rfl rfl (zc_shore hs (by omega) (by omega) (by omega)) (fun r G q => ?_)
            obtain ⟨z, rfl⟩ := q.i
            refine (show Pv (ab_T (L_X5_readOne Z_X9_fail xB Z_X9_step xO Z_X5_addOp Z_X5_readOnShore Z_X5_readCompared)) N 156 [some (.ref u), some (.ref 3), some (.int (Int32.ofNat n)), some (.int 0), some (.int 1), some (.int (Int32.ofNat (K i).k.toNat))] [.int z] G Q from ?_)
            refine Pv.goto rfl ?_
            exact Pv.zret rfl (by rw [hQ, ez]; exact q.tr x1)
        · replace c3 : decide (Int32.ofNat (K i).k.toNat = 79) = true := by simpa using c3
          have q3 := (i_eq (a := (K i).k.toNat) (b := 79) (by omega) (by omega)).mp (of_decide_eq_true c3)
          have k79 : (K i).k = 79 := by omega
          rw [if_pos k79] at ez
          refine Pv.aload rfl rfl ?_
          refine Pv.callV (as := [.ref 3]) (rest := []) rfl rfl rfl (z_step hs (by omega) (by omega)) (fun r G p => ?_)
          obtain ⟨rfl, hs1, x2⟩ := p
          refine (show Pv (ab_T (L_X5_readOne Z_X9_fail xB Z_X9_step xO Z_X5_addOp Z_X5_readOnShore Z_X5_readCompared)) N 114 [some (.ref u), some (.ref 3), some (.int (Int32.ofNat n)), some (.int 0), some (.int 1), some (.int (Int32.ofNat (K i).k.toNat))] [] G Q from ?_)
          refine Pv.aload rfl rfl ?_
          refine Pv.aload rfl rfl ?_
          refine Pv.iload rfl rfl ?_
          refine Pv.lit rfl ?_
          refine Pv.bin (z := Int32.ofNat (n + 1)) rfl (i_add n 1) ?_
          refine Pv.callV (as := [.ref u, .ref 3, .int (Int32.ofNat (n + 1))]) (rest := []) rfl rfl rfl (hO G (i + 1) (o + 1) l hs1 (by omega) (by omega)) (fun r2 G2 q => ?_)
          obtain ⟨x3, q⟩ := q
          cases ef : z_one K d (i + 1) (o + 1) l with
          | inr e =>
            rw [ef] at q ez
            obtain ⟨rfl, q1, q2⟩ := q
            refine (show Pv (ab_T (L_X5_readOne Z_X9_fail xB Z_X9_step xO Z_X5_addOp Z_X5_readOnShore Z_X5_readCompared)) N 122 [some (.ref u), some (.ref 3), some (.int (Int32.ofNat n)), some (.int 0), some (.int 1), some (.int (Int32.ofNat (K i).k.toNat))] [.int 0] G2 Q from ?_)
            refine Pv.if0 rfl (fun _ => ?_) (fun c => absurd c (by decide))
            refine Pv.lit rfl ?_
            exact Pv.zret rfl (by rw [hQ]; exact ⟨(x1.tr x2).tr x3, by rw [ez]; exact ⟨rfl, q1, q2⟩⟩)
          | inl y =>
            rw [ef] at q ez
            obtain ⟨rfl, hs2⟩ := q
            have g2 := zg_one (K := K) d _ _ _ _ (by omega) ef
            refine (show Pv (ab_T (L_X5_readOne Z_X9_fail xB Z_X9_step xO Z_X5_addOp Z_X5_readOnShore Z_X5_readCompared)) N 122 [some (.ref u), some (.ref 3), some (.int (Int32.ofNat n)), some (.int 0), some (.int 1), some (.int (Int32.ofNat (K i).k.toNat))] [.int 1] G2 Q from ?_)
            refine Pv.if0 rfl (fun c => absurd c (by decide)) (fun _ => ?_)
            refine Pv.aload rfl rfl ?_
            refine Pv.lit rfl ?_
            refine Pv.lit rfl ?_
            refine Pv.lit rfl ?_
            refine Pv.callV (as := [.ref u, .int (Int32.ofNat 79), .int (Int32.ofNat 0), .int (Int32.ofNat 0)]) (rest := []) rfl rfl rfl (z_addq hs2 (by omega) 79 0 0) (fun r3 G3 p => ?_)
            obtain ⟨rfl, hs3, x4⟩ := p
            refine (show Pv (ab_T (L_X5_readOne Z_X9_fail xB Z_X9_step xO Z_X5_addOp Z_X5_readOnShore Z_X5_readCompared)) N 133 [some (.ref u), some (.ref 3), some (.int (Int32.ofNat n)), some (.int 0), some (.int 1), some (.int (Int32.ofNat (K i).k.toNat))] [.int 1] G3 Q from ?_)
            refine Pv.if0 rfl (fun c => absurd c (by decide)) (fun _ => ?_)
            refine Pv.lit rfl ?_
            refine Pv.goto rfl ?_
            exact Pv.zret rfl (by rw [hQ]; exact ⟨((x1.tr x2).tr x3).tr x4, by rw [ez]; exact ⟨rfl, hs3⟩⟩)
    · have q := mt (i_le (a := n) (b := 8) (by omega) (by omega)).mpr (of_decide_eq_false c2)
      omega
  have no : ¬ z_is K i → Pv (ab_T (L_X5_readOne Z_X9_fail xB Z_X9_step xO Z_X5_addOp Z_X5_readOnShore Z_X5_readCompared)) N 44 [some (.ref u), some (.ref 3), some (.int (Int32.ofNat n)), some (.int 0), some (.int 0), none] [] F Q := fun ci => by
    have ez : z_one K (d + 1) i o l = zn 1 i := by
      show (if z_is K i then _ else _) = _
      rw [if_neg ci]
    refine Pv.iload rfl rfl ?_
    refine Pv.if0 rfl (fun c => absurd c (by decide)) (fun _ => ?_)
    refine Pv.aload rfl rfl ?_
    refine Pv.lit rfl ?_
    refine Pv.callV (as := [.ref 3, .int 1]) (rest := []) rfl rfl rfl (c_fail (c := 1)) (fun r2 G2 p => ?_)
    obtain ⟨rfl, e2⟩ := p
    refine (show Pv (ab_T (L_X5_readOne Z_X9_fail xB Z_X9_step xO Z_X5_addOp Z_X5_readOnShore Z_X5_readCompared)) N 54 [some (.ref u), some (.ref 3), some (.int (Int32.ofNat n)), some (.int 0), some (.int 0), none] [.int 0] G2 Q from ?_)
    exact Pv.zret rfl (by rw [hQ, ez]; exact z_bad h e2)
  refine (show Pv (ab_T (L_X5_readOne Z_X9_fail xB Z_X9_step xO Z_X5_addOp Z_X5_readOnShore Z_X5_readCompared)) N 0 [some (.ref u), some (.ref 3), some (.int (Int32.ofNat n)), none, none, none] [] F Q from ?_)
  refine Pv.aload rfl rfl ?_
  refine Pv.getI (z := F.1 3 5) rfl rfl rfl ?_
  refine Pv.lit rfl ?_
  refine Pv.icmp rfl (fun c1 => ?_) (fun c1 => ?_)
  · replace c1 : decide (F.1 3 5 = 40) = false := by simpa using c1
    have k40 : ¬ (K i).k = 40 := fun e => of_decide_eq_false c1 (Int32.toInt_inj.mp (hk.trans (e.trans e40.symm)))
    refine Pv.lit rfl ?_
    refine Pv.istore (lo' := [some (.ref u), some (.ref 3), some (.int (Int32.ofNat n)), some (.int 0), none, none]) rfl rfl ?_
    refine Pv.iload rfl rfl ?_
    refine Pv.if0 rfl (fun c => absurd c (by decide)) (fun _ => ?_)
    refine Pv.aload rfl rfl ?_
    refine Pv.getI (z := F.1 3 5) rfl rfl rfl ?_
    refine Pv.lit rfl ?_
    refine Pv.icmp rfl (fun c2 => ?_) (fun c2 => ?_)
    · have q2 := Int32.lt_iff_toInt_lt.mp (of_decide_eq_true c2)
      rw [hk, e79] at q2
      refine Pv.lit rfl ?_
      refine Pv.istore (lo' := [some (.ref u), some (.ref 3), some (.int (Int32.ofNat n)), some (.int 0), some (.int 0), none]) rfl rfl ?_
      exact no (by omega)
    · have q2 := mt Int32.lt_iff_toInt_lt.mpr (of_decide_eq_false c2)
      rw [hk, e79] at q2
      refine Pv.aload rfl rfl ?_
      refine Pv.getI (z := F.1 3 5) rfl rfl rfl ?_
      refine Pv.lit rfl ?_
      refine Pv.icmp rfl (fun c3 => ?_) (fun c3 => ?_)
      · have q3 := Int32.lt_iff_toInt_lt.mp (of_decide_eq_true c3)
        rw [hk, e88] at q3
        refine Pv.lit rfl ?_
        refine Pv.istore (lo' := [some (.ref u), some (.ref 3), some (.int (Int32.ofNat n)), some (.int 0), some (.int 0), none]) rfl rfl ?_
        exact no (by omega)
      · have q3 := mt Int32.lt_iff_toInt_lt.mpr (of_decide_eq_false c3)
        rw [hk, e88] at q3
        refine Pv.lit rfl ?_
        refine Pv.goto rfl ?_
        refine Pv.istore (lo' := [some (.ref u), some (.ref 3), some (.int (Int32.ofNat n)), some (.int 0), some (.int 1), none]) rfl rfl ?_
        refine Pv.iload rfl rfl ?_
        refine Pv.if0 rfl (fun _ => ?_) (fun c => absurd c (by decide))
        exact go (by omega) 0 (Or.inr ⟨rfl, k40⟩)
  · replace c1 : decide (F.1 3 5 = 40) = true := by simpa using c1
    have k40 : (K i).k = 40 := hk.symm.trans ((congrArg Int32.toInt (of_decide_eq_true c1)).trans e40)
    refine Pv.lit rfl ?_
    refine Pv.goto rfl ?_
    refine Pv.istore (lo' := [some (.ref u), some (.ref 3), some (.int (Int32.ofNat n)), some (.int 1), none, none]) rfl rfl ?_
    refine Pv.iload rfl rfl ?_
    refine Pv.if0 rfl (fun _ => ?_) (fun c => absurd c (by decide))
    refine Pv.lit rfl ?_
    refine Pv.goto rfl ?_
    refine Pv.istore (lo' := [some (.ref u), some (.ref 3), some (.int (Int32.ofNat n)), some (.int 1), some (.int 1), none]) rfl rfl ?_
    refine Pv.iload rfl rfl ?_
    refine Pv.if0 rfl (fun _ => ?_) (fun c => absurd c (by decide))
    exact go (Or.inl k40) 1 (Or.inl ⟨rfl, k40⟩)
theorem zc_one9 {xB xO : List Value → ab_H → Option ab_O} {u m n : Nat} {K : Nat → TT} (hn : n = 9) : ZRD (ab_X (ab_T (L_X5_readOne Z_X9_fail xB Z_X9_step xO Z_X5_addOp Z_X5_readOnShore Z_X5_readCompared)) 6) u K m (Int32.ofNat n) (z_one K 0) := fun F i o l h ho hl => by
  refine Pm.of fun N => ?_
  obtain ⟨Q, hQ⟩ : ∃ Q : Option Value → FW → Prop, Q = (fun r F' => ZQ u K m F F' r (z_one K 0 i o l)) := ⟨_, rfl⟩
  rw [← hQ]
  have e40 : (40 : Int32).toInt = 40 := rfl
  have e79 : (79 : Int32).toInt = 79 := rfl
  have e88 : (88 : Int32).toInt = 88 := rfl
  have e84 : (84 : Int32).toInt = 84 := rfl
  have hk := h.k
  have many : z_is K i → (20 ≤ o ∨ 9 ≤ n) → ∀ b : Int32, Pv (ab_T (L_X5_readOne Z_X9_fail xB Z_X9_step xO Z_X5_addOp Z_X5_readOnShore Z_X5_readCompared)) N 70 [some (.ref u), some (.ref 3), some (.int (Int32.ofNat n)), some (.int b), some (.int 1), none] [] F Q := fun ci cm b => by
    have ez : z_one K 0 i o l = zn 4 i := by
      show (if z_is K i then zn 4 i else zn 1 i) = _
      rw [if_pos ci]
    refine Pv.aload rfl rfl ?_
    refine Pv.lit rfl ?_
    refine Pv.callV (as := [.ref 3, .int 4]) (rest := []) rfl rfl rfl (c_fail (c := 4)) (fun r2 G2 p => ?_)
    obtain ⟨rfl, e2⟩ := p
    refine (show Pv (ab_T (L_X5_readOne Z_X9_fail xB Z_X9_step xO Z_X5_addOp Z_X5_readOnShore Z_X5_readCompared)) N 75 [some (.ref u), some (.ref 3), some (.int (Int32.ofNat n)), some (.int b), some (.int 1), none] [.int 0] G2 Q from ?_)
    exact Pv.zret rfl (by rw [hQ, ez]; exact z_bad h e2)
  have go : z_is K i → ∀ b : Int32, ((b = 1 ∧ (K i).k = 40) ∨ (b = 0 ∧ ¬ (K i).k = 40)) → Pv (ab_T (L_X5_readOne Z_X9_fail xB Z_X9_step xO Z_X5_addOp Z_X5_readOnShore Z_X5_readCompared)) N 55 [some (.ref u), some (.ref 3), some (.int (Int32.ofNat n)), some (.int b), some (.int 1), none] [] F Q := fun ci b hb => by
    refine Pv.aload rfl rfl ?_
    refine Pv.getI (z := Int32.ofNat o) rfl rfl h.2.2.1.2.2.1 ?_
    refine Pv.lit rfl ?_
    refine Pv.icmp rfl (fun c1 => ?_) (fun c1 => ?_)
    · exact many ci (Or.inl ((i_le (a := 20) (b := o) (by omega) (by omega)).mp (of_decide_eq_true c1))) b
    replace c1 := mt (i_le (a := 20) (b := o) (by omega) (by omega)).mpr (of_decide_eq_false c1)
    refine Pv.iload rfl rfl ?_
    refine Pv.lit rfl ?_
    refine Pv.icmp rfl (fun c2 => ?_) (fun c2 => ?_)
    · have q := (i_le (a := n) (b := 8) (by omega) (by omega)).mp (of_decide_eq_true c2)
      omega
    · exact many ci (Or.inr (by omega)) b
  have no : ¬ z_is K i → Pv (ab_T (L_X5_readOne Z_X9_fail xB Z_X9_step xO Z_X5_addOp Z_X5_readOnShore Z_X5_readCompared)) N 44 [some (.ref u), some (.ref 3), some (.int (Int32.ofNat n)), some (.int 0), some (.int 0), none] [] F Q := fun ci => by
    have ez : z_one K 0 i o l = zn 1 i := by
      show (if z_is K i then _ else _) = _
      rw [if_neg ci]
    refine Pv.iload rfl rfl ?_
    refine Pv.if0 rfl (fun c => absurd c (by decide)) (fun _ => ?_)
    refine Pv.aload rfl rfl ?_
    refine Pv.lit rfl ?_
    refine Pv.callV (as := [.ref 3, .int 1]) (rest := []) rfl rfl rfl (c_fail (c := 1)) (fun r2 G2 p => ?_)
    obtain ⟨rfl, e2⟩ := p
    refine (show Pv (ab_T (L_X5_readOne Z_X9_fail xB Z_X9_step xO Z_X5_addOp Z_X5_readOnShore Z_X5_readCompared)) N 54 [some (.ref u), some (.ref 3), some (.int (Int32.ofNat n)), some (.int 0), some (.int 0), none] [.int 0] G2 Q from ?_)
    exact Pv.zret rfl (by rw [hQ, ez]; exact z_bad h e2)
  refine (show Pv (ab_T (L_X5_readOne Z_X9_fail xB Z_X9_step xO Z_X5_addOp Z_X5_readOnShore Z_X5_readCompared)) N 0 [some (.ref u), some (.ref 3), some (.int (Int32.ofNat n)), none, none, none] [] F Q from ?_)
  refine Pv.aload rfl rfl ?_
  refine Pv.getI (z := F.1 3 5) rfl rfl rfl ?_
  refine Pv.lit rfl ?_
  refine Pv.icmp rfl (fun c1 => ?_) (fun c1 => ?_)
  · replace c1 : decide (F.1 3 5 = 40) = false := by simpa using c1
    have k40 : ¬ (K i).k = 40 := fun e => of_decide_eq_false c1 (Int32.toInt_inj.mp (hk.trans (e.trans e40.symm)))
    refine Pv.lit rfl ?_
    refine Pv.istore (lo' := [some (.ref u), some (.ref 3), some (.int (Int32.ofNat n)), some (.int 0), none, none]) rfl rfl ?_
    refine Pv.iload rfl rfl ?_
    refine Pv.if0 rfl (fun c => absurd c (by decide)) (fun _ => ?_)
    refine Pv.aload rfl rfl ?_
    refine Pv.getI (z := F.1 3 5) rfl rfl rfl ?_
    refine Pv.lit rfl ?_
    refine Pv.icmp rfl (fun c2 => ?_) (fun c2 => ?_)
    · have q2 := Int32.lt_iff_toInt_lt.mp (of_decide_eq_true c2)
      rw [hk, e79] at q2
      refine Pv.lit rfl ?_
      refine Pv.istore (lo' := [some (.ref u), some (.ref 3), some (.int (Int32.ofNat n)), some (.int 0), some (.int 0), none]) rfl rfl ?_
      exact no (by omega)
    · have q2 := mt Int32.lt_iff_toInt_lt.mpr (of_decide_eq_false c2)
      rw [hk, e79] at q2
      refine Pv.aload rfl rfl ?_
      refine Pv.getI (z := F.1 3 5) rfl rfl rfl ?_
      refine Pv.lit rfl ?_
      refine Pv.icmp rfl (fun c3 => ?_) (fun c3 => ?_)
      · have q3 := Int32.lt_iff_toInt_lt.mp (of_decide_eq_true c3)
        rw [hk, e88] at q3
        refine Pv.lit rfl ?_
        refine Pv.istore (lo' := [some (.ref u), some (.ref 3), some (.int (Int32.ofNat n)), some (.int 0), some (.int 0), none]) rfl rfl ?_
        exact no (by omega)
      · have q3 := mt Int32.lt_iff_toInt_lt.mpr (of_decide_eq_false c3)
        rw [hk, e88] at q3
        refine Pv.lit rfl ?_
        refine Pv.goto rfl ?_
        refine Pv.istore (lo' := [some (.ref u), some (.ref 3), some (.int (Int32.ofNat n)), some (.int 0), some (.int 1), none]) rfl rfl ?_
        refine Pv.iload rfl rfl ?_
        refine Pv.if0 rfl (fun _ => ?_) (fun c => absurd c (by decide))
        exact go (by omega) 0 (Or.inr ⟨rfl, k40⟩)
  · replace c1 : decide (F.1 3 5 = 40) = true := by simpa using c1
    have k40 : (K i).k = 40 := hk.symm.trans ((congrArg Int32.toInt (of_decide_eq_true c1)).trans e40)
    refine Pv.lit rfl ?_
    refine Pv.goto rfl ?_
    refine Pv.istore (lo' := [some (.ref u), some (.ref 3), some (.int (Int32.ofNat n)), some (.int 1), none, none]) rfl rfl ?_
    refine Pv.iload rfl rfl ?_
    refine Pv.if0 rfl (fun _ => ?_) (fun c => absurd c (by decide))
    refine Pv.lit rfl ?_
    refine Pv.goto rfl ?_
    refine Pv.istore (lo' := [some (.ref u), some (.ref 3), some (.int (Int32.ofNat n)), some (.int 1), some (.int 1), none]) rfl rfl ?_
    refine Pv.iload rfl rfl ?_
    refine Pv.if0 rfl (fun _ => ?_) (fun c => absurd c (by decide))
    exact go (Or.inl k40) 1 (Or.inl ⟨rfl, k40⟩)
section ZLV
variable {u m : Nat} {K : Nat → TT}
theorem zv_one_9 : ZRD Z_X5_readOne_9 u K m (Int32.ofNat 9) (z_one K 0) := zc_one9 rfl
theorem zv_all_9 : ZRD Z_X5_readAll_9 u K m (Int32.ofNat 9) (z_all K (z_one K 0)) := zc_all zv_one_9 (zg_one _)
theorem zv_cond_9 : ZRD Z_X5_readCond_9 u K m (Int32.ofNat 9) (z_cond K (z_one K 0)) := zc_cond0 zv_all_9 (zg_all (zg_one _))
theorem zv_brack_8 : ZRB Z_X5_readBracket_8 u K m (Int32.ofNat 8) 0 := zc_brack (n := 8) zv_cond_9
theorem zv_one_8 : ZRD Z_X5_readOne_8 u K m (Int32.ofNat 8) (z_one K 1) := zc_one (n := 8) (d := 0) rfl zv_brack_8 zv_one_9
theorem zv_all_8 : ZRD Z_X5_readAll_8 u K m (Int32.ofNat 8) (z_all K (z_one K 1)) := zc_all zv_one_8 (zg_one _)
theorem zv_cond_8 : ZRD Z_X5_readCond_8 u K m (Int32.ofNat 8) (z_cond K (z_one K 1)) := zc_cond0 zv_all_8 (zg_all (zg_one _))
theorem zv_brack_7 : ZRB Z_X5_readBracket_7 u K m (Int32.ofNat 7) 1 := zc_brack (n := 7) zv_cond_8
theorem zv_one_7 : ZRD Z_X5_readOne_7 u K m (Int32.ofNat 7) (z_one K 2) := zc_one (n := 7) (d := 1) rfl zv_brack_7 zv_one_8
theorem zv_all_7 : ZRD Z_X5_readAll_7 u K m (Int32.ofNat 7) (z_all K (z_one K 2)) := zc_all zv_one_7 (zg_one _)
theorem zv_cond_7 : ZRD Z_X5_readCond_7 u K m (Int32.ofNat 7) (z_cond K (z_one K 2)) := zc_cond0 zv_all_7 (zg_all (zg_one _))
theorem zv_brack_6 : ZRB Z_X5_readBracket_6 u K m (Int32.ofNat 6) 2 := zc_brack (n := 6) zv_cond_7
theorem zv_one_6 : ZRD Z_X5_readOne_6 u K m (Int32.ofNat 6) (z_one K 3) := zc_one (n := 6) (d := 2) rfl zv_brack_6 zv_one_7
theorem zv_all_6 : ZRD Z_X5_readAll_6 u K m (Int32.ofNat 6) (z_all K (z_one K 3)) := zc_all zv_one_6 (zg_one _)
theorem zv_cond_6 : ZRD Z_X5_readCond_6 u K m (Int32.ofNat 6) (z_cond K (z_one K 3)) := zc_cond0 zv_all_6 (zg_all (zg_one _))
theorem zv_brack_5 : ZRB Z_X5_readBracket_5 u K m (Int32.ofNat 5) 3 := zc_brack (n := 5) zv_cond_6
theorem zv_one_5 : ZRD Z_X5_readOne_5 u K m (Int32.ofNat 5) (z_one K 4) := zc_one (n := 5) (d := 3) rfl zv_brack_5 zv_one_6
theorem zv_all_5 : ZRD Z_X5_readAll_5 u K m (Int32.ofNat 5) (z_all K (z_one K 4)) := zc_all zv_one_5 (zg_one _)
theorem zv_cond_5 : ZRD Z_X5_readCond_5 u K m (Int32.ofNat 5) (z_cond K (z_one K 4)) := zc_cond0 zv_all_5 (zg_all (zg_one _))
theorem zv_brack_4 : ZRB Z_X5_readBracket_4 u K m (Int32.ofNat 4) 4 := zc_brack (n := 4) zv_cond_5
theorem zv_one_4 : ZRD Z_X5_readOne_4 u K m (Int32.ofNat 4) (z_one K 5) := zc_one (n := 4) (d := 4) rfl zv_brack_4 zv_one_5
theorem zv_all_4 : ZRD Z_X5_readAll_4 u K m (Int32.ofNat 4) (z_all K (z_one K 5)) := zc_all zv_one_4 (zg_one _)
theorem zv_cond_4 : ZRD Z_X5_readCond_4 u K m (Int32.ofNat 4) (z_cond K (z_one K 5)) := zc_cond0 zv_all_4 (zg_all (zg_one _))
theorem zv_brack_3 : ZRB Z_X5_readBracket_3 u K m (Int32.ofNat 3) 5 := zc_brack (n := 3) zv_cond_4
theorem zv_one_3 : ZRD Z_X5_readOne_3 u K m (Int32.ofNat 3) (z_one K 6) := zc_one (n := 3) (d := 5) rfl zv_brack_3 zv_one_4
theorem zv_all_3 : ZRD Z_X5_readAll_3 u K m (Int32.ofNat 3) (z_all K (z_one K 6)) := zc_all zv_one_3 (zg_one _)
theorem zv_cond_3 : ZRD Z_X5_readCond_3 u K m (Int32.ofNat 3) (z_cond K (z_one K 6)) := zc_cond0 zv_all_3 (zg_all (zg_one _))
theorem zv_brack_2 : ZRB Z_X5_readBracket_2 u K m (Int32.ofNat 2) 6 := zc_brack (n := 2) zv_cond_3
theorem zv_one_2 : ZRD Z_X5_readOne_2 u K m (Int32.ofNat 2) (z_one K 7) := zc_one (n := 2) (d := 6) rfl zv_brack_2 zv_one_3
theorem zv_all_2 : ZRD Z_X5_readAll_2 u K m (Int32.ofNat 2) (z_all K (z_one K 7)) := zc_all zv_one_2 (zg_one _)
theorem zv_cond_2 : ZRD Z_X5_readCond_2 u K m (Int32.ofNat 2) (z_cond K (z_one K 7)) := zc_cond0 zv_all_2 (zg_all (zg_one _))
theorem zv_brack_1 : ZRB Z_X5_readBracket_1 u K m (Int32.ofNat 1) 7 := zc_brack (n := 1) zv_cond_2
theorem zv_one_1 : ZRD Z_X5_readOne_1 u K m (Int32.ofNat 1) (z_one K 8) := zc_one (n := 1) (d := 7) rfl zv_brack_1 zv_one_2
theorem zv_all_1 : ZRD Z_X5_readAll_1 u K m (Int32.ofNat 1) (z_all K (z_one K 8)) := zc_all zv_one_1 (zg_one _)
theorem zv_cond_1 : ZRD Z_X5_readCond_1 u K m (Int32.ofNat 1) (z_cond K (z_one K 8)) := zc_cond0 zv_all_1 (zg_all (zg_one _))
end ZLV
