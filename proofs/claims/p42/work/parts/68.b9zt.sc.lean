/-! ===== the class reads a SENTENCE ===== -/
theorem zj_inr {K : Nat → TT} {w : Nat} {f : Nat → Nat → List ZO → ZR} {e : Int32 × Nat} : ∀ n, z_join K w f n (.inr e) = .inr e
  | 0 => rfl
  | _ + 1 => rfl
/-- ONES are counted up; what is said grows no faster -/
def ZGr (f : Nat → Nat → List ZO → ZR) : Prop := ∀ (i o : Nat) (l : List ZO) (y : Nat × Nat × List ZO), o ≤ 20 → f i o l = .inl y → o < y.2.1 ∧ y.2.1 ≤ 20 ∧ y.2.2.length + 1 + 2 * o ≤ l.length + 2 * y.2.1
theorem zg_join {K : Nat → TT} {w : Nat} {f : Nat → Nat → List ZO → ZR} (hf : ZGr f) {o0 L0 : Nat} : ∀ (n : Nat) (r : ZR), (∀ y, r = .inl y → o0 < y.2.1 ∧ y.2.1 ≤ 20 ∧ y.2.2.length + 1 + 2 * o0 ≤ L0 + 2 * y.2.1) → ∀ y, z_join K w f n r = .inl y → o0 < y.2.1 ∧ y.2.1 ≤ 20 ∧ y.2.2.length + 1 + 2 * o0 ≤ L0 + 2 * y.2.1
  | 0, r, h, y, e => h y e
  | n + 1, .inr e0, h, y, e => by cases e
  | n + 1, .inl y0, h, y, e => by
    have h0 := h y0 rfl
    by_cases c : (K y0.1).k = (w : Int)
    · have q : z_join K w f (n + 1) (.inl y0) = z_join K w f n (z_op w (f (y0.1 + 1) y0.2.1 y0.2.2)) := if_pos c
      rw [q] at e
      refine zg_join hf n _ (fun y2 e2 => ?_) y e
      cases ef : f (y0.1 + 1) y0.2.1 y0.2.2 with
      | inl y3 =>
        rw [ef] at e2
        have g := hf _ _ _ _ h0.2.1 ef
        obtain rfl := Sum.inl.inj e2
        show o0 < y3.2.1 ∧ y3.2.1 ≤ 20 ∧ (y3.2.2 ++ [(w, 0, 0)]).length + 1 + 2 * o0 ≤ L0 + 2 * y3.2.1
        rw [List.length_append, List.length_singleton]
        omega
      | inr e3 =>
        rw [ef] at e2
        cases e2
    · have q : z_join K w f (n + 1) (.inl y0) = .inl y0 := if_neg c
      rw [q] at e
      obtain rfl := Sum.inl.inj e
      exact h0
theorem zg_all {K : Nat → TT} {f : Nat → Nat → List ZO → ZR} (hf : ZGr f) : ZGr (z_all K f) := fun i o l y ho e => zg_join hf 20 _ (fun y2 e2 => hf i o l y2 ho e2) y e
theorem zg_cond {K : Nat → TT} {f : Nat → Nat → List ZO → ZR} (hf : ZGr f) : ZGr (z_cond K f) := fun i o l y ho e => zg_join (zg_all hf) 20 _ (fun y2 e2 => zg_all hf i o l y2 ho e2) y e
theorem z_leaf_g {K : Nat → TT} {i o : Nat} {l : List ZO} {y : Nat × Nat × List ZO} (h : z_leaf K i o l = .inl y) : y.2.1 = o ∧ y.2.2.length = l.length + 1 := by
  unfold z_leaf at h
  split at h
  · split at h
    · obtain rfl := Sum.inl.inj h
      exact ⟨rfl, List.length_append⟩
    · cases h
  · split at h
    · split at h
      · obtain rfl := Sum.inl.inj h
        exact ⟨rfl, List.length_append⟩
      · cases h
    · cases h
theorem zg_one {K : Nat → TT} : ∀ d, ZGr (z_one K d)
  | 0 => fun i o l y ho e => by
    have e : (if z_is K i then zn 4 i else zn 1 i) = Sum.inl y := e
    split at e <;> (cases e)
  | d + 1 => fun i o l y ho e => by
    have e : (if z_is K i then (if 20 ≤ o then zn 4 i else if (K i).k = 40 then z_close K (z_cond K (z_one K d) (i + 1) (o + 1) l) else if (K i).k = 79 then z_op 79 (z_one K d (i + 1) (o + 1) l) else z_leaf K i (o + 1) l) else zn 1 i) = Sum.inl y := e
    split at e
    · split at e
      · cases e
      · split at e
        · cases ec : z_cond K (z_one K d) (i + 1) (o + 1) l with
          | inl y2 =>
            rw [ec] at e
            have g := zg_cond (K := K) (zg_one d) _ _ _ _ (by omega) ec
            have e : (if (K y2.1).k = 41 then zy (y2.1 + 1) y2.2.1 y2.2.2 else zn 1 y2.1) = Sum.inl y := e
            split at e
            · obtain rfl := Sum.inl.inj e
              show o < y2.2.1 ∧ y2.2.1 ≤ 20 ∧ y2.2.2.length + 1 + 2 * o ≤ l.length + 2 * y2.2.1
              omega
            · cases e
          | inr e2 =>
            rw [ec] at e
            cases e
        · split at e
          · cases ec : z_one K d (i + 1) (o + 1) l with
            | inl y2 =>
              rw [ec] at e
              have g := zg_one d _ _ _ _ (by omega) ec
              obtain rfl := Sum.inl.inj e
              show o < y2.2.1 ∧ y2.2.1 ≤ 20 ∧ (y2.2.2 ++ [(79, 0, 0)]).length + 1 + 2 * o ≤ l.length + 2 * y2.2.1
              rw [List.length_append, List.length_singleton]
              omega
            | inr e2 =>
              rw [ec] at e
              cases e
          · have g := z_leaf_g e
            omega
    · cases e
/-- a Sentence at u: o ONES so far, l said so far -/
def ZL (F : FW) (u o : Nat) (l : List ZO) : Prop := O3 F u ∧ F.1 u 3 = Int32.ofNat l.length ∧ F.1 u 4 = Int32.ofNat o ∧ ∀ (j : Nat) (x : ZO), l[j]? = some x → F.1 (u + 1) j = Int32.ofNat x.1 ∧ F.1 (u + 2) j = Int32.ofNat x.2.1 ∧ F.1 (u + 3) j = Int32.ofNat x.2.2
/-- token i is the one read; nothing wrong so far -/
def ZKC (F : FW) (K : Nat → TT) (m i : Nat) : Prop := TKF F K m ∧ i < m ∧ F.1 3 4 = Int32.ofNat (i + 1) ∧ CURF F (K i) ∧ F.1 3 9 = 0
def ZS (F : FW) (u : Nat) (K : Nat → TT) (m i o : Nat) (l : List ZO) : Prop := GW F ∧ ZKC F K m i ∧ ZL F u o l ∧ (u = 61 ∨ u = 65)
def ZQ (u : Nat) (K : Nat → TT) (m : Nat) (F F' : FW) (r : Option Value) (x : ZR) : Prop := FSX u F F' ∧ match x with
  | .inl y => r = some (.int 1) ∧ ZS F' u K m y.1 y.2.1 y.2.2
  | .inr e => r = some (.int 0) ∧ F'.1 3 9 = e.1 ∧ (F'.1 3 6).toInt = (K e.2).pl
theorem ZQ.tr {u m : Nat} {K : Nat → TT} {F G F' : FW} {r : Option Value} {x : ZR} (a : FSX u F G) (q : ZQ u K m G F' r x) : ZQ u K m F F' r x := ⟨a.tr q.1, q.2⟩
section ZSS
variable {F G : FW} {u m i o : Nat} {K : Nat → TT} {l : List ZO}
theorem ZL.fx3 (h : ZL F u o l) (x : FX (fun q => q = 3) F G) (hu : u = 61 ∨ u = 65) : ZL G u o l :=
  ⟨FX.O3 x h.1, (x.1 u 3 (show ¬ u = 3 by omega)).trans h.2.1, (x.1 u 4 (show ¬ u = 3 by omega)).trans h.2.2.1, fun j y hj => ⟨(x.1 (u + 1) j (show ¬ u + 1 = 3 by omega)).trans (h.2.2.2 j y hj).1, (x.1 (u + 2) j (show ¬ u + 2 = 3 by omega)).trans (h.2.2.2 j y hj).2.1, (x.1 (u + 3) j (show ¬ u + 3 = 3 by omega)).trans (h.2.2.2 j y hj).2.2⟩⟩
theorem ZS.rd (h : ZS F u K m i o l) {j : Nat} (hj : j < m) (hd : RDC F G (K j) j 0) : ZS G u K m j o l ∧ FSX u F G :=
  ⟨⟨hd.1.G h.1, ⟨hd.1.TK h.2.1.1, hj, hd.2.1, hd.2.2.1, hd.2.2.2.trans ((if_pos rfl).trans h.2.1.2.2.2.2)⟩, h.2.2.1.fx3 hd.1.1 h.2.2.2, h.2.2.2⟩, FSX.of hd.1.1⟩
theorem ZS.up (h : ZS F u K m i o l) (k0 : (K i).k ≠ 0) (k1 : (K i).k ≠ 1) : i + 1 < m := h.2.1.1.up h.2.1.2.1 k0 k1
/-- the kind of the token that is read -/
theorem ZS.k (h : ZS F u K m i o l) : (F.1 3 5).toInt = (K i).k := h.2.1.2.2.2.1.1
theorem z_step (h : ZS F u K m i o l) (k0 : (K i).k ≠ 0) (k1 : (K i).k ≠ 1) : Pm Z_X9_step [.ref 3] F (fun r F' => r = none ∧ ZS F' u K m (i + 1) o l ∧ FSX u F F') :=
  (c_step h.1 h.2.1.1 h.2.1.2.2.1 (h.up k0 k1)).imp fun r F' q => ⟨q.1, h.rd (h.up k0 k1) q.2⟩
theorem z_num (h : ZS F u K m i o l) (k0 : (K i).k ≠ 0) (k1 : (K i).k ≠ 1) (lo hi : Int32) : Pm Z_X9_takeNumber [.ref 3, .int lo, .int hi] F (fun r F' => r = some (.int (b2i (decide (tnN (K (i + 1)) lo.toInt hi.toInt = 0)))) ∧ FSX u F F' ∧ (tnN (K (i + 1)) lo.toInt hi.toInt = 0 → ZS F' u K m (i + 1) o l) ∧ (¬ tnN (K (i + 1)) lo.toInt hi.toInt = 0 → F'.1 3 9 = tnN (K (i + 1)) lo.toInt hi.toInt ∧ (F'.1 3 6).toInt = (K (i + 1)).pl)) :=
  (c_takeNumber h.1 h.2.1.1 h.2.1.2.2.1 (h.up k0 k1) lo hi).imp fun r F' q => ⟨q.1, FSX.of q.2.1.1, fun e => (h.rd (h.up k0 k1) (by have q2 := q.2; rw [e] at q2; exact q2)).1, fun e => ⟨q.2.bad9 e, q.2.2.2.1.2.1⟩⟩
theorem z_bad (h : ZS F u K m i o l) {c : Int32} {F' : FW} (e : F' = fp F 3 9 c) : ZQ u K m F F' (some (.int 0)) (.inr (c, i)) := by
  subst e
  exact ⟨FSX.rf.p3, rfl, fp_eq, h.2.1.2.2.2.1.p9.2.1⟩
theorem ZL.add (h : ZL F u o l) (a b c : Nat) : ZL (fp (fp (fp (fp F (u + 1) l.length (Int32.ofNat a)) (u + 2) l.length (Int32.ofNat b)) (u + 3) l.length (Int32.ofNat c)) u 3 (Int32.ofNat (l.length + 1))) u o (l ++ [(a, b, c)]) := by
  have x : FX (fun q => u ≤ q ∧ q ≤ u + 3) F (fp (fp (fp (fp F (u + 1) l.length (Int32.ofNat a)) (u + 2) l.length (Int32.ofNat b)) (u + 3) l.length (Int32.ofNat c)) u 3 (Int32.ofNat (l.length + 1))) := FX.fp (FX.fp (FX.fp (FX.fp FX.rf (show u ≤ u + 1 ∧ u + 1 ≤ u + 3 by omega)) (show u ≤ u + 2 ∧ u + 2 ≤ u + 3 by omega)) (show u ≤ u + 3 ∧ u + 3 ≤ u + 3 by omega)) (show u ≤ u ∧ u ≤ u + 3 by omega)
  refine ⟨FX.O3 x h.1, fp_eq.trans (by rw [List.length_append, List.length_singleton]), ((fp_ne (Or.inr (by decide))).trans ((fp_ne (Or.inl (by omega))).trans ((fp_ne (Or.inl (by omega))).trans (fp_ne (Or.inl (by omega)))))).trans h.2.2.1, fun j y hj => ?_⟩
  have hlen := (List.getElem?_eq_some_iff.mp hj).1
  rw [List.length_append, List.length_singleton] at hlen
  by_cases e : j < l.length
  · rw [List.getElem?_append_left e] at hj
    obtain ⟨h1, h2, h3⟩ := h.2.2.2 j y hj
    exact ⟨((fp_ne (Or.inl (by omega))).trans ((fp_ne (Or.inl (by omega))).trans ((fp_ne (Or.inl (by omega))).trans (fp_ne (Or.inr (by omega)))))).trans h1, ((fp_ne (Or.inl (by omega))).trans ((fp_ne (Or.inl (by omega))).trans ((fp_ne (Or.inr (by omega))).trans (fp_ne (Or.inl (by omega)))))).trans h2, ((fp_ne (Or.inl (by omega))).trans ((fp_ne (Or.inr (by omega))).trans ((fp_ne (Or.inl (by omega))).trans (fp_ne (Or.inl (by omega)))))).trans h3⟩
  · obtain rfl : j = l.length := by omega
    rw [List.getElem?_append_right (Nat.le_refl _), Nat.sub_self] at hj
    obtain rfl := Option.some.inj hj
    exact ⟨(fp_ne (Or.inl (by omega))).trans ((fp_ne (Or.inl (by omega))).trans ((fp_ne (Or.inl (by omega))).trans fp_eq)), (fp_ne (Or.inl (by omega))).trans ((fp_ne (Or.inl (by omega))).trans fp_eq), (fp_ne (Or.inl (by omega))).trans fp_eq⟩
theorem ZKC.fx (h : ZKC F K m i) (x : FX (fun q => u ≤ q ∧ q ≤ u + 3) F G) (hu : u = 61 ∨ u = 65) : ZKC G K m i := by
  have n3 : ¬ (u ≤ 3 ∧ 3 ≤ u + 3) := by omega
  have n4 : ¬ (u ≤ 4 ∧ 4 ≤ u + 3) := by omega
  have n5 : ¬ (u ≤ 5 ∧ 5 ≤ u + 3) := by omega
  have n6 : ¬ (u ≤ 6 ∧ 6 ≤ u + 3) := by omega
  refine ⟨⟨h.1.1, h.1.2.1, (x.1 3 3 n3).trans h.1.2.2.1, fun j hj => ?_, h.1.2.2.2.2⟩, h.2.1, (x.1 3 4 n3).trans h.2.2.1, ?_, (x.1 3 9 n3).trans h.2.2.2.2⟩
  · rw [x.1 4 j n4, x.1 5 j n5, x.2.1 6 j n6]
    exact h.1.2.2.2.1 j hj
  · unfold CURF
    rw [x.1 3 5 n3, x.1 3 6 n3, x.1 3 7 n3, x.2.1 3 8 n3]
    exact h.2.2.2.1
theorem z_addq (h : ZS F u K m i o l) (h40 : l.length < 40) (a b c : Nat) : Pm Z_X5_addOp [.ref u, .int (Int32.ofNat a), .int (Int32.ofNat b), .int (Int32.ofNat c)] F (fun r F' => r = some (.int 1) ∧ ZS F' u K m i o (l ++ [(a, b, c)]) ∧ FSX u F F') :=
  (z_add h.2.2.1.1 h.2.2.1.2.1 h40 _ _ _).imp fun r F' q => by
    obtain ⟨e, rfl⟩ := q
    have x : FX (fun q => u ≤ q ∧ q ≤ u + 3) F (fp (fp (fp (fp F (u + 1) l.length (Int32.ofNat a)) (u + 2) l.length (Int32.ofNat b)) (u + 3) l.length (Int32.ofNat c)) u 3 (Int32.ofNat (l.length + 1))) := FX.fp (FX.fp (FX.fp (FX.fp FX.rf (show u ≤ u + 1 ∧ u + 1 ≤ u + 3 by omega)) (show u ≤ u + 2 ∧ u + 2 ≤ u + 3 by omega)) (show u ≤ u + 3 ∧ u + 3 ≤ u + 3 by omega)) (show u ≤ u ∧ u ≤ u + 3 by omega)
    exact ⟨e, ⟨h.1.fx x, h.2.1.fx x h.2.2.2, h.2.2.1.add a b c, h.2.2.2⟩, FSX.ou x⟩
end ZSS
/-- a reader does what f says -/
def ZRD (X : List Value → ab_H → Option ab_O) (u : Nat) (K : Nat → TT) (m : Nat) (w : Int32) (f : Nat → Nat → List ZO → ZR) : Prop := ∀ (F : FW) (i o : Nat) (l : List ZO), ZS F u K m i o l → o ≤ 20 → l.length ≤ 2 * o → Pm X [.ref u, .ref 3, .int w] F (fun r F' => ZQ u K m F F' r (f i o l))
theorem zc_all {xO : List Value → ab_H → Option ab_O} {u m : Nat} {K : Nat → TT} {w : Int32} {f : Nat → Nat → List ZO → ZR} (hf : ZRD xO u K m w f) (gf : ZGr f) : ZRD (ab_X (ab_T (L_X5_readAll xO Z_X9_step Z_X5_addOp)) 4) u K m w (z_all K f) := fun F i o l h ho hl => by
  refine Pm.of fun N => ?_
  obtain ⟨Q, hQ⟩ : ∃ Q : Option Value → FW → Prop, Q = (fun r F' => ZQ u K m F F' r (z_all K f i o l)) := ⟨_, rfl⟩
  rw [← hQ]
  refine (show Pv (ab_T (L_X5_readAll xO Z_X9_step Z_X5_addOp)) N 0 [some (.ref u), some (.ref 3), some (.int w), none] [] F Q from ?_)
  refine Pv.aload rfl rfl ?_
  refine Pv.aload rfl rfl ?_
  refine Pv.iload rfl rfl ?_
  refine Pv.callV (as := [.ref u, .ref 3, .int w]) (rest := []) rfl rfl rfl (hf F i o l h ho hl) (fun r G q => ?_)
  obtain ⟨x, q⟩ := q
  cases ef : f i o l with
  | inr e =>
    rw [ef] at q
    obtain ⟨rfl, q1, q2⟩ := q
    refine (show Pv (ab_T (L_X5_readAll xO Z_X9_step Z_X5_addOp)) N 6 [some (.ref u), some (.ref 3), some (.int w), none] [.int 0] G Q from ?_)
    refine Pv.if0 rfl (fun c => absurd c (by decide)) (fun _ => ?_)
    refine Pv.lit rfl ?_
    have ep : z_all K f i o l = .inr e := (congrArg (z_join K 78 (f) 20) ef).trans (zj_inr 20)
    exact Pv.zret rfl (by rw [hQ]; exact ⟨x, by rw [ep]; exact ⟨rfl, q1, q2⟩⟩)
  | inl y0 =>
    rw [ef] at q
    obtain ⟨rfl, hs0⟩ := q
    have g0 := gf i o l y0 ho ef
    refine (show Pv (ab_T (L_X5_readAll xO Z_X9_step Z_X5_addOp)) N 6 [some (.ref u), some (.ref 3), some (.int w), none] [.int 1] G Q from ?_)
    refine Pv.if0 rfl (fun _ => ?_) (fun c => absurd c (by decide))
    refine Pv.lit rfl ?_
    refine Pv.istore (lo' := [some (.ref u), some (.ref 3), some (.int w), some (.int 0)]) rfl rfl ?_
    refine Pv.lp (ι := Nat × FW × (Nat × Nat × List ZO)) (lof := fun ⟨k, G, y⟩ => [some (.ref u), some (.ref 3), some (.int w), some (.int (Int32.ofNat k))]) (Ff := fun ⟨k, G, y⟩ => G) (P := fun ⟨k, G, y⟩ => k ≤ 20 ∧ FSX u F G ∧ ZS G u K m y.1 y.2.1 y.2.2 ∧ 21 ≤ y.2.1 + (20 - k) ∧ y.2.1 ≤ 20 ∧ y.2.2.length + 1 ≤ 2 * y.2.1 ∧ z_join K 78 (f) (20 - k) (.inl y) = z_all K f i o l) ?_ (0, G, y0) ⟨by omega, x, hs0, by omega, g0.2.1, by omega, congrArg (z_join K 78 (f) 20) ef.symm⟩
    rintro N1 hN1 ⟨k, G1, y⟩ ⟨hk, hx, hs, h21, h20, hlen, hj⟩ ih
    refine (show Pv (ab_T (L_X5_readAll xO Z_X9_step Z_X5_addOp)) (N1 + 1) 13 [some (.ref u), some (.ref 3), some (.int w), some (.int (Int32.ofNat k))] [] G1 Q from ?_)
    refine Pv.iloadS rfl rfl ?_
    refine Pv.lit rfl ?_
    refine Pv.icmp rfl (fun c1 => ?_) (fun c1 => ?_)
    · replace c1 := (i_le (a := 20) (b := k) (by omega) (by omega)).mp (of_decide_eq_true c1)
      omega
    · replace c1 := mt (i_le (a := 20) (b := k) (by omega) (by omega)).mpr (of_decide_eq_false c1)
      obtain ⟨n, hn⟩ : ∃ n, 20 - k = n + 1 := ⟨19 - k, by omega⟩
      rw [hn] at hj
      refine Pv.aload rfl rfl ?_
      refine Pv.getI (z := G1.1 3 5) rfl rfl rfl ?_
      refine Pv.lit rfl ?_
      refine Pv.icmp rfl (fun c2 => ?_) (fun c2 => ?_)
      · replace c2 : decide (G1.1 3 5 = 78) = false := by simpa using c2
        replace c2 := of_decide_eq_false c2
        have ck : ¬ (K y.1).k = 78 := fun e => c2 (Int32.toInt_inj.mp (hs.k.trans e))
        have ep : z_join K 78 (f) (n + 1) (.inl y) = .inl y := if_neg ck
        refine Pv.lit rfl ?_
        exact Pv.zret rfl (by rw [hQ]; exact ⟨hx, by rw [← hj, ep]; exact ⟨rfl, hs⟩⟩)
      · replace c2 : decide (G1.1 3 5 = 78) = true := by simpa using c2
        replace c2 := of_decide_eq_true c2
        have ck : (K y.1).k = 78 := hs.k.symm.trans (congrArg Int32.toInt c2)
        have ep : z_join K 78 (f) (n + 1) (.inl y) = z_join K 78 (f) n (z_op 78 (f (y.1 + 1) y.2.1 y.2.2)) := if_pos ck
        refine Pv.aload rfl rfl ?_
        refine Pv.callV (as := [.ref 3]) (rest := []) rfl rfl rfl (z_step hs (by rw [ck]; decide) (by rw [ck]; decide)) (fun r1 G2 q1 => ?_)
        obtain ⟨rfl, hs2, x2⟩ := q1
        refine (show Pv (ab_T (L_X5_readAll xO Z_X9_step Z_X5_addOp)) N1 32 [some (.ref u), some (.ref 3), some (.int w), some (.int (Int32.ofNat k))] [] G2 Q from ?_)
        refine Pv.aload rfl rfl ?_
        refine Pv.aload rfl rfl ?_
        refine Pv.iload rfl rfl ?_
        refine Pv.callV (as := [.ref u, .ref 3, .int w]) (rest := []) rfl rfl rfl (hf G2 (y.1 + 1) y.2.1 y.2.2 hs2 h20 (by omega)) (fun r2 G3 q2 => ?_)
        obtain ⟨x3, q2⟩ := q2
        cases ef2 : f (y.1 + 1) y.2.1 y.2.2 with
        | inr e =>
          rw [ef2] at q2 ep
          obtain ⟨rfl, q3, q4⟩ := q2
          refine (show Pv (ab_T (L_X5_readAll xO Z_X9_step Z_X5_addOp)) N1 38 [some (.ref u), some (.ref 3), some (.int w), some (.int (Int32.ofNat k))] [.int 0] G3 Q from ?_)
          refine Pv.if0 rfl (fun _ => ?_) (fun c => absurd c (by decide))
          refine Pv.lit rfl ?_
          exact Pv.zret rfl (by rw [hQ]; exact ⟨(hx.tr x2).tr x3, by rw [← hj, ep, show z_join K 78 (f) n (z_op 78 (.inr e)) = .inr e from zj_inr n]; exact ⟨rfl, q3, q4⟩⟩)
        | inl y2 =>
          rw [ef2] at q2 ep
          obtain ⟨rfl, hs3⟩ := q2
          have g2 := gf _ _ _ _ h20 ef2
          refine (show Pv (ab_T (L_X5_readAll xO Z_X9_step Z_X5_addOp)) N1 38 [some (.ref u), some (.ref 3), some (.int w), some (.int (Int32.ofNat k))] [.int 1] G3 Q from ?_)
          refine Pv.if0 rfl (fun c => absurd c (by decide)) (fun _ => ?_)
          refine Pv.aload rfl rfl ?_
          refine Pv.lit rfl ?_
          refine Pv.lit rfl ?_
          refine Pv.lit rfl ?_
          refine Pv.callV (as := [.ref u, .int (Int32.ofNat 78), .int (Int32.ofNat 0), .int (Int32.ofNat 0)]) (rest := []) rfl rfl rfl (z_addq hs3 (by omega) 78 0 0) (fun r3 G4 q3 => ?_)
          obtain ⟨rfl, hs4, x4⟩ := q3
          refine (show Pv (ab_T (L_X5_readAll xO Z_X9_step Z_X5_addOp)) N1 49 [some (.ref u), some (.ref 3), some (.int w), some (.int (Int32.ofNat k))] [.int 1] G4 Q from ?_)
          refine Pv.if0 rfl (fun _ => ?_) (fun c => absurd c (by decide))
          refine Pv.iinc (y := Int32.ofNat (k + 1)) (lo' := [some (.ref u), some (.ref 3), some (.int w), some (.int (Int32.ofNat (k + 1)))]) rfl rfl (i_add k 1) rfl ?_
          refine Pv.goto rfl ?_
          refine ih (k + 1, G4, (y2.1, y2.2.1, y2.2.2 ++ [(78, 0, 0)])) ⟨by omega, ((hx.tr x2).tr x3).tr x4, hs4, (show 21 ≤ y2.2.1 + (20 - (k + 1)) by omega), g2.2.1, ?_, ?_⟩
          · show (y2.2.2 ++ [(78, 0, 0)]).length + 1 ≤ 2 * y2.2.1
            rw [List.length_append, List.length_singleton]
            omega
          · rw [show 20 - (k + 1) = n by omega]
            exact ep.symm.trans hj
/-- ALL joined by or -/
def zz_77 (K : Nat → TT) (f : Nat → Nat → List ZO → ZR) (i o : Nat) (l : List ZO) : ZR := z_join K 77 f 20 (f i o l)
theorem zc_cond0 {xO : List Value → ab_H → Option ab_O} {u m : Nat} {K : Nat → TT} {w : Int32} {f : Nat → Nat → List ZO → ZR} (hf : ZRD xO u K m w f) (gf : ZGr f) : ZRD (ab_X (ab_T (L_X5_readCond xO Z_X9_step Z_X5_addOp)) 4) u K m w (zz_77 K f) := fun F i o l h ho hl => by
  refine Pm.of fun N => ?_
  obtain ⟨Q, hQ⟩ : ∃ Q : Option Value → FW → Prop, Q = (fun r F' => ZQ u K m F F' r (zz_77 K f i o l)) := ⟨_, rfl⟩
  rw [← hQ]
  refine (show Pv (ab_T (L_X5_readCond xO Z_X9_step Z_X5_addOp)) N 0 [some (.ref u), some (.ref 3), some (.int w), none] [] F Q from ?_)
  refine Pv.aload rfl rfl ?_
  refine Pv.aload rfl rfl ?_
  refine Pv.iload rfl rfl ?_
  refine Pv.callV (as := [.ref u, .ref 3, .int w]) (rest := []) rfl rfl rfl (hf F i o l h ho hl) (fun r G q => ?_)
  obtain ⟨x, q⟩ := q
  cases ef : f i o l with
  | inr e =>
    rw [ef] at q
    obtain ⟨rfl, q1, q2⟩ := q
    refine (show Pv (ab_T (L_X5_readCond xO Z_X9_step Z_X5_addOp)) N 6 [some (.ref u), some (.ref 3), some (.int w), none] [.int 0] G Q from ?_)
    refine Pv.if0 rfl (fun c => absurd c (by decide)) (fun _ => ?_)
    refine Pv.lit rfl ?_
    have ep : zz_77 K f i o l = .inr e := (congrArg (z_join K 77 (f) 20) ef).trans (zj_inr 20)
    exact Pv.zret rfl (by rw [hQ]; exact ⟨x, by rw [ep]; exact ⟨rfl, q1, q2⟩⟩)
  | inl y0 =>
    rw [ef] at q
    obtain ⟨rfl, hs0⟩ := q
    have g0 := gf i o l y0 ho ef
    refine (show Pv (ab_T (L_X5_readCond xO Z_X9_step Z_X5_addOp)) N 6 [some (.ref u), some (.ref 3), some (.int w), none] [.int 1] G Q from ?_)
    refine Pv.if0 rfl (fun _ => ?_) (fun c => absurd c (by decide))
    refine Pv.lit rfl ?_
    refine Pv.istore (lo' := [some (.ref u), some (.ref 3), some (.int w), some (.int 0)]) rfl rfl ?_
    refine Pv.lp (ι := Nat × FW × (Nat × Nat × List ZO)) (lof := fun ⟨k, G, y⟩ => [some (.ref u), some (.ref 3), some (.int w), some (.int (Int32.ofNat k))]) (Ff := fun ⟨k, G, y⟩ => G) (P := fun ⟨k, G, y⟩ => k ≤ 20 ∧ FSX u F G ∧ ZS G u K m y.1 y.2.1 y.2.2 ∧ 21 ≤ y.2.1 + (20 - k) ∧ y.2.1 ≤ 20 ∧ y.2.2.length + 1 ≤ 2 * y.2.1 ∧ z_join K 77 (f) (20 - k) (.inl y) = zz_77 K f i o l) ?_ (0, G, y0) ⟨by omega, x, hs0, by omega, g0.2.1, by omega, congrArg (z_join K 77 (f) 20) ef.symm⟩
    rintro N1 hN1 ⟨k, G1, y⟩ ⟨hk, hx, hs, h21, h20, hlen, hj⟩ ih
    refine (show Pv (ab_T (L_X5_readCond xO Z_X9_step Z_X5_addOp)) (N1 + 1) 13 [some (.ref u), some (.ref 3), some (.int w), some (.int (Int32.ofNat k))] [] G1 Q from ?_)
    refine Pv.iloadS rfl rfl ?_
    refine Pv.lit rfl ?_
    refine Pv.icmp rfl (fun c1 => ?_) (fun c1 => ?_)
    · replace c1 := (i_le (a := 20) (b := k) (by omega) (by omega)).mp (of_decide_eq_true c1)
      omega
    · replace c1 := mt (i_le (a := 20) (b := k) (by omega) (by omega)).mpr (of_decide_eq_false c1)
      obtain ⟨n, hn⟩ : ∃ n, 20 - k = n + 1 := ⟨19 - k, by omega⟩
      rw [hn] at hj
      refine Pv.aload rfl rfl ?_
      refine Pv.getI (z := G1.1 3 5) rfl rfl rfl ?_
      refine Pv.lit rfl ?_
      refine Pv.icmp rfl (fun c2 => ?_) (fun c2 => ?_)
      · replace c2 : decide (G1.1 3 5 = 77) = false := by simpa using c2
        replace c2 := of_decide_eq_false c2
        have ck : ¬ (K y.1).k = 77 := fun e => c2 (Int32.toInt_inj.mp (hs.k.trans e))
        have ep : z_join K 77 (f) (n + 1) (.inl y) = .inl y := if_neg ck
        refine Pv.lit rfl ?_
        exact Pv.zret rfl (by rw [hQ]; exact ⟨hx, by rw [← hj, ep]; exact ⟨rfl, hs⟩⟩)
      · replace c2 : decide (G1.1 3 5 = 77) = true := by simpa using c2
        replace c2 := of_decide_eq_true c2
        have ck : (K y.1).k = 77 := hs.k.symm.trans (congrArg Int32.toInt c2)
        have ep : z_join K 77 (f) (n + 1) (.inl y) = z_join K 77 (f) n (z_op 77 (f (y.1 + 1) y.2.1 y.2.2)) := if_pos ck
        refine Pv.aload rfl rfl ?_
        refine Pv.callV (as := [.ref 3]) (rest := []) rfl rfl rfl (z_step hs (by rw [ck]; decide) (by rw [ck]; decide)) (fun r1 G2 q1 => ?_)
        obtain ⟨rfl, hs2, x2⟩ := q1
        refine (show Pv (ab_T (L_X5_readCond xO Z_X9_step Z_X5_addOp)) N1 32 [some (.ref u), some (.ref 3), some (.int w), some (.int (Int32.ofNat k))] [] G2 Q from ?_)
        refine Pv.aload rfl rfl ?_
        refine Pv.aload rfl rfl ?_
        refine Pv.iload rfl rfl ?_
        refine Pv.callV (as := [.ref u, .ref 3, .int w]) (rest := []) rfl rfl rfl (hf G2 (y.1 + 1) y.2.1 y.2.2 hs2 h20 (by omega)) (fun r2 G3 q2 => ?_)
        obtain ⟨x3, q2⟩ := q2
        cases ef2 : f (y.1 + 1) y.2.1 y.2.2 with
        | inr e =>
          rw [ef2] at q2 ep
          obtain ⟨rfl, q3, q4⟩ := q2
          refine (show Pv (ab_T (L_X5_readCond xO Z_X9_step Z_X5_addOp)) N1 38 [some (.ref u), some (.ref 3), some (.int w), some (.int (Int32.ofNat k))] [.int 0] G3 Q from ?_)
          refine Pv.if0 rfl (fun _ => ?_) (fun c => absurd c (by decide))
          refine Pv.lit rfl ?_
          exact Pv.zret rfl (by rw [hQ]; exact ⟨(hx.tr x2).tr x3, by rw [← hj, ep, show z_join K 77 (f) n (z_op 77 (.inr e)) = .inr e from zj_inr n]; exact ⟨rfl, q3, q4⟩⟩)
        | inl y2 =>
          rw [ef2] at q2 ep
          obtain ⟨rfl, hs3⟩ := q2
          have g2 := gf _ _ _ _ h20 ef2
          refine (show Pv (ab_T (L_X5_readCond xO Z_X9_step Z_X5_addOp)) N1 38 [some (.ref u), some (.ref 3), some (.int w), some (.int (Int32.ofNat k))] [.int 1] G3 Q from ?_)
          refine Pv.if0 rfl (fun c => absurd c (by decide)) (fun _ => ?_)
          refine Pv.aload rfl rfl ?_
          refine Pv.lit rfl ?_
          refine Pv.lit rfl ?_
          refine Pv.lit rfl ?_
          refine Pv.callV (as := [.ref u, .int (Int32.ofNat 77), .int (Int32.ofNat 0), .int (Int32.ofNat 0)]) (rest := []) rfl rfl rfl (z_addq hs3 (by omega) 77 0 0) (fun r3 G4 q3 => ?_)
          obtain ⟨rfl, hs4, x4⟩ := q3
          refine (show Pv (ab_T (L_X5_readCond xO Z_X9_step Z_X5_addOp)) N1 49 [some (.ref u), some (.ref 3), some (.int w), some (.int (Int32.ofNat k))] [.int 1] G4 Q from ?_)
          refine Pv.if0 rfl (fun _ => ?_) (fun c => absurd c (by decide))
          refine Pv.iinc (y := Int32.ofNat (k + 1)) (lo' := [some (.ref u), some (.ref 3), some (.int w), some (.int (Int32.ofNat (k + 1)))]) rfl rfl (i_add k 1) rfl ?_
          refine Pv.goto rfl ?_
          refine ih (k + 1, G4, (y2.1, y2.2.1, y2.2.2 ++ [(77, 0, 0)])) ⟨by omega, ((hx.tr x2).tr x3).tr x4, hs4, (show 21 ≤ y2.2.1 + (20 - (k + 1)) by omega), g2.2.1, ?_, ?_⟩
          · show (y2.2.2 ++ [(77, 0, 0)]).length + 1 ≤ 2 * y2.2.1
            rw [List.length_append, List.length_singleton]
            omega
          · rw [show 20 - (k + 1) = n by omega]
            exact ep.symm.trans hj
