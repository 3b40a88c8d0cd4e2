/-! ===== by hand: a step at a time, with what is known as hypotheses ===== -/
def bs_R (t : Nat → Nat) (hp : ab_H) (a g : Nat) : Prop := a < hp.1 ∧ t a = g
theorem bs_R.fr {W : List (Nat × Nat × Nat)} {t t' : Nat → Nat} {hp hp' : ab_H} {a g : Nat} (h : bs_R t hp a g) (hf : sf_fr W t hp t' hp') : bs_R t' hp' a g := ⟨Nat.lt_of_lt_of_le h.1 hf.1, (hf.2.1 a h.1).trans h.2⟩
theorem bs_R.uq {t : Nat → Nat} {hp : ab_H} {g p : Nat} (H : sf_h t hp) (hP : sf_P g = some p) : bs_R t hp p g := H.2.2.1 g p hP
theorem bs_R.eq {t : Nat → Nat} {hp : ab_H} {a g p : Nat} (h : bs_R t hp a g) (H : sf_h t hp) (hP : sf_P g = some p) : a = p := H.2.1 a p h.1 (by rw [h.2]; exact hP)
/-- an entry of W is found -/
theorem bs_in {W : List (Nat × Nat × Nat)} {g i : Nat} (w : Nat × Nat × Nat) (h : w ∈ W) (e : w.1 = g) (h1 : w.2.1 ≤ i) (h2 : i ≤ w.2.2) : sf_inW W g i = true :=
  List.any_eq_true.mpr ⟨w, h, by rw [decide_eq_true e, decide_eq_true h1, decide_eq_true h2]; rfl⟩
section BS
variable {T : Nat → Option ab_A} {i j : Nat} {lo : List (Option Value)} {st : List Value} {u : Nat × Nat} {hp : ab_H} {Q : ab_O → Prop} {t : Nat → Nat} {x y : Int32}
theorem bs_lit {c : Int32} {k : Int} (hT : T i = some (ab_nx j (ab_lit (.int c)))) (hk : c.toInt = k) (h : ∀ z : Int32, z.toInt = k → Ev T j (lo, .int z :: st, u, hp) Q) : Ev T i (lo, st, u, hp) Q := Ev.step hT rfl (h c hk)
theorem bs_any {g : Int32 → Int32 → Int32} (hT : T i = some (ab_nx j (ab_bin g))) (h : ∀ z : Int32, Ev T j (lo, .int z :: st, u, hp) Q) : Ev T i (lo, .int y :: .int x :: st, u, hp) Q := Ev.step hT rfl (h _)
theorem bs_add (hT : T i = some (ab_nx j (ab_bin (fun x y => x + y)))) (h1 : -2147483648 ≤ x.toInt + y.toInt) (h2 : x.toInt + y.toInt ≤ 2147483647) (h : ∀ z : Int32, z.toInt = x.toInt + y.toInt → Ev T j (lo, .int z :: st, u, hp) Q) : Ev T i (lo, .int y :: .int x :: st, u, hp) Q := Ev.step hT rfl (h _ (n_add h1 h2))
theorem bs_sub (hT : T i = some (ab_nx j (ab_bin (fun x y => x - y)))) (h1 : -2147483648 ≤ x.toInt - y.toInt) (h2 : x.toInt - y.toInt ≤ 2147483647) (h : ∀ z : Int32, z.toInt = x.toInt - y.toInt → Ev T j (lo, .int z :: st, u, hp) Q) : Ev T i (lo, .int y :: .int x :: st, u, hp) Q := Ev.step hT rfl (h _ (n_sub h1 h2))
theorem bs_mul (c : Int) (hT : T i = some (ab_nx j (ab_bin (fun x y => x * y)))) (hc : x.toInt = c ∨ y.toInt = c) (h1 : -2147483648 ≤ x.toInt * y.toInt) (h2 : x.toInt * y.toInt ≤ 2147483647) (h : ∀ z : Int32, z.toInt = x.toInt * y.toInt → Ev T j (lo, .int z :: st, u, hp) Q) : Ev T i (lo, .int y :: .int x :: st, u, hp) Q := Ev.step hT rfl (h _ (n_mul h1 h2))
theorem bs_neg (hT : T i = some (ab_nx j (ab_un (fun x => -x)))) (h1 : x.toInt ≠ -2147483648) (h : ∀ z : Int32, z.toInt = -x.toInt → Ev T j (lo, .int z :: st, u, hp) Q) : Ev T i (lo, .int x :: st, u, hp) Q := Ev.step hT rfl (h _ (n_neg h1))
/-- comparisons with 0 -/
theorem bs_ifeq {k : Nat} (hT : T i = some (ab_if j k (fun x => decide (x = 0)))) (h1 : x.toInt = 0 → Ev T k (lo, st, u, hp) Q) (h2 : x.toInt ≠ 0 → Ev T j (lo, st, u, hp) Q) : Ev T i (lo, .int x :: st, u, hp) Q := by
  refine Ev.step hT rfl (Ev.br (fun h => h1 ?_) (fun h => h2 ?_))
  · rw [of_decide_eq_true h]; rfl
  · exact fun e => of_decide_eq_false h (Int32.toInt_inj.mp e)
theorem bs_ifne {k : Nat} (hT : T i = some (ab_if j k (fun x => !decide (x = 0)))) (h1 : x.toInt ≠ 0 → Ev T k (lo, st, u, hp) Q) (h2 : x.toInt = 0 → Ev T j (lo, st, u, hp) Q) : Ev T i (lo, .int x :: st, u, hp) Q := by
  refine Ev.step hT rfl (Ev.br (fun h => h1 ?_) (fun h => h2 ?_))
  · exact fun e => of_decide_eq_false (by simpa using h) (Int32.toInt_inj.mp (e.trans (show (0 : Int) = (0 : Int32).toInt from rfl)))
  · have h' : x = 0 := by simpa using h
    rw [h']; rfl
theorem bs_iflt {k : Nat} (hT : T i = some (ab_if j k (fun x => decide (x < 0)))) (h1 : x.toInt < 0 → Ev T k (lo, st, u, hp) Q) (h2 : 0 ≤ x.toInt → Ev T j (lo, st, u, hp) Q) : Ev T i (lo, .int x :: st, u, hp) Q := by
  refine Ev.step hT rfl (Ev.br (fun h => h1 ?_) (fun h => h2 ?_))
  · exact Int32.lt_iff_toInt_lt.mp (of_decide_eq_true h)
  · exact Int.not_lt.mp fun e => of_decide_eq_false h (Int32.lt_iff_toInt_lt.mpr e)
theorem bs_ifge {k : Nat} (hT : T i = some (ab_if j k (fun x => decide (0 ≤ x)))) (h1 : 0 ≤ x.toInt → Ev T k (lo, st, u, hp) Q) (h2 : x.toInt < 0 → Ev T j (lo, st, u, hp) Q) : Ev T i (lo, .int x :: st, u, hp) Q := by
  refine Ev.step hT rfl (Ev.br (fun h => h1 ?_) (fun h => h2 ?_))
  · exact Int32.le_iff_toInt_le.mp (of_decide_eq_true h)
  · exact Int.not_le.mp fun e => of_decide_eq_false h (Int32.le_iff_toInt_le.mpr e)
theorem bs_ifgt {k : Nat} (hT : T i = some (ab_if j k (fun x => decide (0 < x)))) (h1 : 0 < x.toInt → Ev T k (lo, st, u, hp) Q) (h2 : x.toInt ≤ 0 → Ev T j (lo, st, u, hp) Q) : Ev T i (lo, .int x :: st, u, hp) Q := by
  refine Ev.step hT rfl (Ev.br (fun h => h1 ?_) (fun h => h2 ?_))
  · exact Int32.lt_iff_toInt_lt.mp (of_decide_eq_true h)
  · exact Int.not_lt.mp fun e => of_decide_eq_false h (Int32.lt_iff_toInt_lt.mpr e)
theorem bs_ifle {k : Nat} (hT : T i = some (ab_if j k (fun x => decide (x ≤ 0)))) (h1 : x.toInt ≤ 0 → Ev T k (lo, st, u, hp) Q) (h2 : 0 < x.toInt → Ev T j (lo, st, u, hp) Q) : Ev T i (lo, .int x :: st, u, hp) Q := by
  refine Ev.step hT rfl (Ev.br (fun h => h1 ?_) (fun h => h2 ?_))
  · exact Int32.le_iff_toInt_le.mp (of_decide_eq_true h)
  · exact Int.not_le.mp fun e => of_decide_eq_false h (Int32.le_iff_toInt_le.mpr e)
/-- comparisons of two -/
theorem bs_eq {k : Nat} (hT : T i = some (ab_icmp j k (fun x y => decide (x = y)))) (h1 : x.toInt = y.toInt → Ev T k (lo, st, u, hp) Q) (h2 : x.toInt ≠ y.toInt → Ev T j (lo, st, u, hp) Q) : Ev T i (lo, .int y :: .int x :: st, u, hp) Q := by
  refine Ev.step hT rfl (Ev.br (fun h => h1 ?_) (fun h => h2 ?_))
  · rw [of_decide_eq_true h]
  · exact fun e => of_decide_eq_false h (Int32.toInt_inj.mp e)
theorem bs_ne {k : Nat} (hT : T i = some (ab_icmp j k (fun x y => !decide (x = y)))) (h1 : x.toInt ≠ y.toInt → Ev T k (lo, st, u, hp) Q) (h2 : x.toInt = y.toInt → Ev T j (lo, st, u, hp) Q) : Ev T i (lo, .int y :: .int x :: st, u, hp) Q := by
  refine Ev.step hT rfl (Ev.br (fun h => h1 ?_) (fun h => h2 ?_))
  · exact fun e => of_decide_eq_false (by simpa using h) (Int32.toInt_inj.mp e)
  · have h' : x = y := by simpa using h
    rw [h']
theorem bs_lt {k : Nat} (hT : T i = some (ab_icmp j k (fun x y => decide (x < y)))) (h1 : x.toInt < y.toInt → Ev T k (lo, st, u, hp) Q) (h2 : y.toInt ≤ x.toInt → Ev T j (lo, st, u, hp) Q) : Ev T i (lo, .int y :: .int x :: st, u, hp) Q := by
  refine Ev.step hT rfl (Ev.br (fun h => h1 ?_) (fun h => h2 ?_))
  · exact Int32.lt_iff_toInt_lt.mp (of_decide_eq_true h)
  · exact Int.not_lt.mp fun e => of_decide_eq_false h (Int32.lt_iff_toInt_lt.mpr e)
theorem bs_le {k : Nat} (hT : T i = some (ab_icmp j k (fun x y => decide (x ≤ y)))) (h1 : x.toInt ≤ y.toInt → Ev T k (lo, st, u, hp) Q) (h2 : y.toInt < x.toInt → Ev T j (lo, st, u, hp) Q) : Ev T i (lo, .int y :: .int x :: st, u, hp) Q := by
  refine Ev.step hT rfl (Ev.br (fun h => h1 ?_) (fun h => h2 ?_))
  · exact Int32.le_iff_toInt_le.mp (of_decide_eq_true h)
  · exact Int.not_le.mp fun e => of_decide_eq_false h (Int32.le_iff_toInt_le.mpr e)
theorem bs_gt {k : Nat} (hT : T i = some (ab_icmp j k (fun x y => decide (y < x)))) (h1 : y.toInt < x.toInt → Ev T k (lo, st, u, hp) Q) (h2 : x.toInt ≤ y.toInt → Ev T j (lo, st, u, hp) Q) : Ev T i (lo, .int y :: .int x :: st, u, hp) Q := by
  refine Ev.step hT rfl (Ev.br (fun h => h1 ?_) (fun h => h2 ?_))
  · exact Int32.lt_iff_toInt_lt.mp (of_decide_eq_true h)
  · exact Int.not_lt.mp fun e => of_decide_eq_false h (Int32.lt_iff_toInt_lt.mpr e)
theorem bs_ge {k : Nat} (hT : T i = some (ab_icmp j k (fun x y => decide (y ≤ x)))) (h1 : y.toInt ≤ x.toInt → Ev T k (lo, st, u, hp) Q) (h2 : x.toInt < y.toInt → Ev T j (lo, st, u, hp) Q) : Ev T i (lo, .int y :: .int x :: st, u, hp) Q := by
  refine Ev.step hT rfl (Ev.br (fun h => h1 ?_) (fun h => h2 ?_))
  · exact Int32.le_iff_toInt_le.mp (of_decide_eq_true h)
  · exact Int.not_le.mp fun e => of_decide_eq_false h (Int32.le_iff_toInt_le.mpr e)
/-- reads -/
theorem bs_getI {a g k : Nat} {l0 h0 : Int} (g' : Nat) (hg' : g' = g) {ci : Nat} (hT : T i = some (ab_nx j (ab_getf ci k))) (hci : ci = sf_o g) (H : sf_h t hp) (hR : bs_R t hp a g) (hg : g < 100) (hk : (sf_C g)[k]? = some (0, l0, h0)) (h : ∀ z : Int32, sf_rd hp a k = some z.toInt → l0 ≤ z.toInt → z.toInt ≤ h0 → Ev T j (lo, .int z :: st, u, hp) Q) : Ev T i (lo, .ref a :: st, u, hp) Q := by
  subst hci
  obtain ⟨fs, v, e1, e2, e3⟩ := sf_get H hR.1 hR.2 hg hk
  cases v with
  | int z => exact Ev.getf hT hR.1 e1 e2 (h z (by unfold sf_rd; rw [e1]; show sf_iv fs[k]? = _; rw [e2]; rfl) e3.2.1 e3.2.2)
  | ref b => exact absurd e3.1 (by show (0 : Nat) ≠ 1; decide)
  | null => exact absurd e3.1 (by show (0 : Nat) ≠ 1; decide)
  | long b => exact absurd e3 (by show (0 : Nat) ≠ 2; decide)
  | _ => exact e3.elim
theorem bs_getR {a g k g1 : Nat} {ci : Nat} (hT : T i = some (ab_nx j (ab_getf ci k))) (hci : ci = sf_o g) (H : sf_h t hp) (hR : bs_R t hp a g) (hg : g < 100) (hk : (sf_C g)[k]? = some (1, (g1 : Int), 0)) (h : ∀ b, sf_rr hp a k = some b → bs_R t hp b g1 → Ev T j (lo, .ref b :: st, u, hp) Q) : Ev T i (lo, .ref a :: st, u, hp) Q := by
  subst hci
  obtain ⟨fs, v, e1, e2, e3⟩ := sf_get H hR.1 hR.2 hg hk
  cases v with
  | int z => exact absurd e3.1 (by show (1 : Nat) ≠ 0; decide)
  | ref b => exact Ev.getf hT hR.1 e1 e2 (h b (by unfold sf_rr; rw [e1]; dsimp only; rw [e2]) ⟨e3.2.1, by have : (t b : Int) = (g1 : Int) := e3.2.2; omega⟩)
  | null => exact absurd e3.2 (by show (0 : Int) ≠ 1; decide)
  | long b => exact absurd e3 (by show (1 : Nat) ≠ 2; decide)
  | _ => exact e3.elim
theorem bs_getU {a g k g1 p : Nat} {ci : Nat} (hT : T i = some (ab_nx j (ab_getf ci k))) (hci : ci = sf_o g) (H : sf_h t hp) (hR : bs_R t hp a g) (hg : g < 100) (hk : (sf_C g)[k]? = some (1, (g1 : Int), 0)) (hP : sf_P g1 = some p) (h : Ev T j (lo, .ref p :: st, u, hp) Q) : Ev T i (lo, .ref a :: st, u, hp) Q :=
  bs_getR hT hci H hR hg hk fun b _ hb => by rw [hb.eq H hP]; exact h
theorem bs_getL {a g k : Nat} {ci : Nat} {l0 h0 : Int} (hT : T i = some (ab_nx j (ab_getf ci k))) (hci : ci = sf_o g) (H : sf_h t hp) (hR : bs_R t hp a g) (hg : g < 100) (hk : (sf_C g)[k]? = some (2, l0, h0)) (h : ∀ z : Int64, Ev T j (lo, .long z :: st, u, hp) Q) : Ev T i (lo, .ref a :: st, u, hp) Q := by
  subst hci
  obtain ⟨fs, v, e1, e2, e3⟩ := sf_get H hR.1 hR.2 hg hk
  cases v with
  | int z => exact absurd e3.1 (by show (2 : Nat) ≠ 0; decide)
  | ref b => exact absurd e3.1 (by show (2 : Nat) ≠ 1; decide)
  | null => exact absurd e3.1 (by show (2 : Nat) ≠ 1; decide)
  | long b => exact Ev.getf hT hR.1 e1 e2 (h b)
  | _ => exact e3.elim
theorem bs_ld {a g kd : Nat} (i0 i1 : Nat) (r : Int × Int) (hT : T i = some (ab_nx j (ab_ald kd))) (H : sf_h t hp) (hR : bs_R t hp a g) (hg : 100 ≤ g) (hk : (sf_A g).1 = kd) (hk4 : kd < 4) (hk2 : kd ≠ 2) (hr : sf_hu (sf_A g).2.2 i0 i1 = r) (hl : i1 < (sf_A g).2.1) (x0 : (i0 : Int) ≤ x.toInt) (x1 : x.toInt ≤ (i1 : Int))
    (h : ∀ z : Int32, sf_rd hp a x.toInt.toNat = some z.toInt → r.1 ≤ z.toInt → z.toInt ≤ r.2 → Ev T j (lo, .int z :: st, u, hp) Q) : Ev T i (lo, .int x :: .ref a :: st, u, hp) Q := by
  subst hk hr
  obtain ⟨f, e1, e2⟩ := sf_arr H hR.1 hR.2 hg hk4 hk2
  have x0' : 0 ≤ x.toInt := by omega
  have x1' : x.toInt < ((sf_A g).2.1 : Int) := by omega
  have hidx := n_idx x0'
  have en : x.toNatClampNeg = x.toInt.toNat := by omega
  have hj : x.toInt.toNat < (sf_A g).2.1 := by omega
  have hh := sf_hu_ok (lo := i0) (hi := i1) (by omega) (by omega) (e2 _ hj)
  refine Ev.ald hT hR.1 e1 (n_in x0' x1') ?_
  rw [en]
  refine h _ ?_ hh.1 hh.2
  unfold sf_rd
  rw [e1]
  dsimp only
  rw [decide_eq_true hj]
  rfl
theorem bs_lald {a g : Nat} (hT : T i = some (ab_nx j ab_lald)) (H : sf_h t hp) (hR : bs_R t hp a g) (hg : 100 ≤ g) (hk : (sf_A g).1 = 2) (x0 : 0 ≤ x.toInt) (x1 : x.toInt < ((sf_A g).2.1 : Int)) (h : ∀ z : Int64, Ev T j (lo, .long z :: st, u, hp) Q) : Ev T i (lo, .int x :: .ref a :: st, u, hp) Q := by
  obtain ⟨f, e1⟩ := sf_larr H hR.1 hR.2 hg hk
  exact Ev.lald hT hR.1 e1 (n_in x0 x1) (h _)
end BS
