/-! ===== by hand: more ===== -/
theorem bs_andF {T : Nat → Option ab_A} {i j : Nat} {lo : List (Option Value)} {st : List Value} {u : Nat × Nat} {hp : ab_H} {Q : ab_O → Prop} {x y : Int32} (hT : T i = some (ab_nx j (ab_bin (fun x y => x &&& y)))) (hy : 0 ≤ y.toInt) (h : ∀ z : Int32, z = x &&& y → 0 ≤ z.toInt → z.toInt ≤ y.toInt → Ev T j (lo, .int z :: st, u, hp) Q) : Ev T i (lo, .int y :: .int x :: st, u, hp) Q := Ev.step hT rfl (h _ rfl (n_and hy).1 (n_and hy).2)
theorem and_same {x y z x' y' z' : Int32} (h : z = x &&& y) (h' : z' = x' &&& y') (e1 : x.toInt = x'.toInt) (e2 : y.toInt = y'.toInt) : z.toInt = z'.toInt := by
  rw [h, h', Int32.toInt_inj.mp e1, Int32.toInt_inj.mp e2]
/-- the two arrays of a Sentence -/
theorem bs_I1 {t : Nat → Nat} {hp : ab_H} {a : Nat} (H : sf_h t hp) (hR : bs_R t hp a 5) : sf_rr hp a 0 = some (a + 1) ∧ sf_rr hp a 1 = some (a + 2) ∧ ∀ i, i < 40 → ∀ x, sf_rd hp (a + 1) i = some x → x ≤ 84 → ∃ y, sf_rd hp (a + 2) i = some y ∧ 0 ≤ y ∧ y ≤ 1 := by
  obtain ⟨-, -, -, h1, h2, h3⟩ := H.2.2.2.1 a hR.1 hR.2
  exact ⟨h1, h2, h3⟩
theorem bs_I1' {t : Nat → Nat} {hp : ab_H} {a b c i : Nat} {x w : Int} (H : sf_h t hp) (hR : bs_R t hp a 5) (hb : sf_rr hp a 0 = some b) (hc : sf_rr hp a 1 = some c) (hi : i < 40) (hx : sf_rd hp b i = some x) (hx4 : x ≤ 84) (hw : sf_rd hp c i = some w) : 0 ≤ w ∧ w ≤ 1 := by
  obtain ⟨h1, h2, h3⟩ := bs_I1 H hR
  obtain rfl := Option.some.inj (hb.symm.trans h1)
  obtain rfl := Option.some.inj (hc.symm.trans h2)
  obtain ⟨y, e1, e2, e3⟩ := h3 i hi x hx hx4
  obtain rfl := Option.some.inj (hw.symm.trans e1)
  exact ⟨e2, e3⟩
theorem bs_I2 {t : Nat → Nat} {hp : ab_H} {i : Nat} {x w : Int} (H : sf_h t hp) (hi : i < 40) (hx : sf_rd hp 37 i = some x) (h3 : x = 3) (hw : sf_rd hp 38 i = some w) : w ≤ 7 := by
  subst h3
  obtain ⟨y, e1, e2⟩ := H.2.2.2.2.1 i hi hx
  obtain rfl := Option.some.inj (hw.symm.trans e1)
  exact e2
/-- v and one less of it -/
theorem n_bits {v w z : Int32} (h0 : 0 < v.toInt) (hw : w.toInt = v.toInt - 1) (hz : z = v &&& w) : 0 ≤ z.toInt ∧ z.toInt < v.toInt := by
  subst hz
  have := n_and (x := v) (y := w) (by omega)
  omega
