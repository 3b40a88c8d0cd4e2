/-! ===== copies of numbers between arrays whose kinds are the same ===== -/
theorem sg_138 : ∀ k, k < 1064 → sf_e (sf_A 138).2.2 k = sf_e (sf_A 132).2.2 (120 + k % 133) := by decide +kernel
theorem sg_139 : ∀ k, k < 133 → sf_e (sf_A 139).2.2 k = sf_e (sf_A 132).2.2 (120 + k % 133) := by decide +kernel
theorem sg_132 : ∀ k, k < 133 → sf_e (sf_A 132).2.2 (120 + k) = sf_e (sf_A 132).2.2 (120 + k % 133) := by decide +kernel
section BS
variable {T : Nat → Option ab_A} {i j : Nat} {lo : List (Option Value)} {st : List Value} {u : Nat × Nat} {hp : ab_H} {Q : ab_O → Prop} {t : Nat → Nat} {x y : Int32}
theorem bs_ldK {a g : Nat} (hT : T i = some (ab_nx j (ab_ald 1))) (H : sf_h t hp) (hR : bs_R t hp a g) (hg : 100 ≤ g) (hk : (sf_A g).1 = 1) (x0 : 0 ≤ x.toInt) (x1 : x.toInt < ((sf_A g).2.1 : Int))
    (h : ∀ z : Int32, sf_rd hp a x.toInt.toNat = some z.toInt → (∀ n, sf_v t n (sf_e (sf_A g).2.2 x.toInt.toNat) (.int z)) → Ev T j (lo, .int z :: st, u, hp) Q) : Ev T i (lo, .int x :: .ref a :: st, u, hp) Q := by
  obtain ⟨f, e1, e2⟩ := sf_arr H hR.1 hR.2 hg (by rw [hk]; decide) (by rw [hk]; decide)
  have hidx := n_idx x0
  have en : x.toNatClampNeg = x.toInt.toNat := by omega
  have hj : x.toInt.toNat < (sf_A g).2.1 := by omega
  rw [hk] at e1
  refine Ev.ald hT hR.1 e1 (n_in x0 x1) ?_
  rw [en]
  refine h _ ?_ (fun n => e2 _ hj)
  unfold sf_rd
  rw [e1]
  dsimp only
  rw [decide_eq_true hj]
  rfl
theorem bs_stK {W : List (Nat × Nat × Nat)} {a g : Nat} (i0 i1 : Nat) (hT : T i = some (ab_nx j (ab_ast 1))) (H : sf_h t hp) (hR : bs_R t hp a g) (hg : 100 ≤ g) (hk : (sf_A g).1 = 1) (hl : i1 < (sf_A g).2.1) (hW : sf_cv W g i0 i1 = true) (hsp : sf_sp g i1 = false)
    (x0 : (i0 : Int) ≤ x.toInt) (x1 : x.toInt ≤ (i1 : Int)) (hv : sf_v t hp.1 (sf_e (sf_A g).2.2 x.toInt.toNat) (.int y)) (h : ∀ hp', sf_h t hp' → sf_fr W t hp t hp' → sf_rd hp' a x.toInt.toNat = some y.toInt → (∀ b q, b ≠ a ∨ q ≠ x.toInt.toNat → sf_rd hp' b q = sf_rd hp b q) → (∀ b q, sf_rr hp' b q = sf_rr hp b q) → hp'.1 = hp.1 → Ev T j (lo, st, u, hp') Q) : Ev T i (lo, .int y :: .int x :: .ref a :: st, u, hp) Q := by
  obtain ⟨f, e1, e2⟩ := sf_arr H hR.1 hR.2 hg (by rw [hk]; decide) (by rw [hk]; decide)
  obtain ⟨cv1, cv2⟩ := sf_cv_ok hW
  have x0' : 0 ≤ x.toInt := by omega
  have x1' : x.toInt < ((sf_A g).2.1 : Int) := by omega
  have hidx := n_idx x0'
  have en : x.toNatClampNeg = x.toInt.toNat := by omega
  have hj : x.toInt.toNat < (sf_A g).2.1 := by omega
  rw [hk] at e1
  have hr : ∀ b q, b ≠ a ∨ q ≠ x.toInt.toNat → sf_rd (ab_up hp a (.inl (1, (sf_A g).2.1, .inl (upd f x.toInt.toNat y)))) b q = sf_rd hp b q := by
    intro b q hq
    by_cases e : b = a
    · subst e
      rw [sf_rd_up_arr]
      unfold sf_rd
      rw [e1]
      show cond (decide (q < (sf_A g).2.1)) (some (if q = x.toInt.toNat then y else f q).toInt) none = cond (decide (q < (sf_A g).2.1)) (some (f q).toInt) none
      rw [if_neg (by rcases hq with h | h; exact absurd rfl h; exact h)]
    · exact sf_rd_up_ne e
  have hrr : ∀ b q, sf_rr (ab_up hp a (.inl (1, (sf_A g).2.1, .inl (upd f x.toInt.toNat y)))) b q = sf_rr hp b q := by
    intro b q
    by_cases e : b = a
    · subst e
      unfold sf_rr
      rw [ab_up_eq, e1]
    · exact sf_rr_up_ne e
  have hI := sf_I_up H (i0 := i0) (i1 := i1) (c := .inl (1, (sf_A g).2.1, .inl (upd f x.toInt.toNat y))) (by rw [hR.2]; exact hsp) (fun q hq => hr a q (Or.inr (by omega))) (fun h5 => absurd (hR.2.symm.trans h5) (by omega))
  have H' : sf_h t (ab_up hp a (.inl (1, (sf_A g).2.1, .inl (upd f x.toInt.toNat y)))) := by
    have := sf_arr_put H hR.1 hR.2 hg (by rw [hk]; decide) (by rw [hk]; decide) (f := upd f x.toInt.toNat y) (fun q hq => by
      show sf_v t hp.1 _ (.int (if q = x.toInt.toNat then y else f q))
      by_cases e : q = x.toInt.toNat
      · rw [if_pos e, e]
        exact hv
      · rw [if_neg e]
        exact e2 q hq) (by rw [hk]; exact hI)
    rw [hk] at this
    exact this
  refine Ev.ast hT hR.1 e1 (n_in x0' x1') ?_
  rw [en]
  refine h _ H' (sf_fr_up (by rw [hR.2]; exact cv1) cv2 (fun q hq => hr a q (Or.inr (by omega))) (Or.inr (Or.inl (sf_n69 H hR.2 hg)))) ?_ hr hrr rfl
  rw [sf_rd_up_arr, decide_eq_true hj]
  show some (if x.toInt.toNat = x.toInt.toNat then y else f _).toInt = _
  rw [if_pos rfl]
end BS
