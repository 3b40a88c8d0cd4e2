/-! ===== what goes over: no more than there is, no more than is lacking ===== -/
def fr_ok (hp : ab_H) (b fr q : Nat) : Prop := ∃ f x y : Int, sf_rd hp 8 q = some f ∧ sf_rd hp b (2 * q + fr) = some x ∧ sf_rd hp b (2 * q + 1 - fr) = some y ∧ 0 ≤ f ∧ f ≤ x ∧ (f = 0 ∨ f + y ≤ 250)
theorem fr_ok_same {hp hp' : ab_H} {b fr q : Nat} (h : fr_ok hp b fr q) (e1 : sf_rd hp' 8 q = sf_rd hp 8 q) (e2 : sf_rd hp' b (2 * q + fr) = sf_rd hp b (2 * q + fr)) (e3 : sf_rd hp' b (2 * q + 1 - fr) = sf_rd hp b (2 * q + 1 - fr)) : fr_ok hp' b fr q := by
  obtain ⟨f, x, y, h1, h2, h3, h4⟩ := h
  exact ⟨f, x, y, e1.trans h1, e2.trans h2, e3.trans h3, h4⟩
theorem bs_at {hp : ab_H} {a i j : Nat} {v : Int} (h : sf_rd hp a i = some v) (e : i = j) : sf_rd hp a j = some v := e ▸ h
