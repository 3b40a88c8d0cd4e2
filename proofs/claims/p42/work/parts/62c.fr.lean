/-! ===== what goes over: no more than there is, no more than is lacking ===== -/
def fr_ok (hp : ab_H) (b fr q : Nat) : Prop := ∃ f x y : Int, sf_rd hp 8 q = some f ∧ sf_rd hp b (2 * q + fr) = some x ∧ sf_rd hp b (2 * q + 1 - fr) = some y ∧ 0 ≤ f ∧ f ≤ x ∧ (f = 0 ∨ f + y ≤ 250)
theorem fr_ok_same {hp hp' : ab_H} {b fr q : Nat} (h : fr_ok hp b fr q) (e1 : sf_rd hp' 8 q = sf_rd hp 8 q) (e2 : sf_rd hp' b (2 * q + fr) = sf_rd hp b (2 * q + fr)) (e3 : sf_rd hp' b (2 * q + 1 - fr) = sf_rd hp b (2 * q + 1 - fr)) : fr_ok hp' b fr q := by
  obtain ⟨f, x, y, h1, h2, h3, h4⟩ := h
  exact ⟨f, x, y, e1.trans h1, e2.trans h2, e3.trans h3, h4⟩
theorem bs_at {hp : ab_H} {a i j : Nat} {v : Int} (h : sf_rd hp a i = some v) (e : i = j) : sf_rd hp a j = some v := e ▸ h
theorem bs_pure {T : Nat → Option ab_A} {i j : Nat} {lo : List (Option Value)} {st : List Value} {u : Nat × Nat} {hp : ab_H} {Q : ab_O → Prop} {X : List Value → ab_H → Option ab_O} {nA mc ms MC MS : Nat} {P : Int32 → Prop} (as rest : List Value) (hT : T i = some (ab_nx j (ab_call nA X mc ms MC MS))) (hst : st = as.reverse ++ rest) (hn : as.length = nA) (hcat : (decide (ab_cats rest ≤ 8) && decide (u.1 + mc ≤ MC) && decide (u.2 + ms ≤ MS)) = true)
    (hX : ∃ z : Int32, X as hp = some (some (.int z), hp) ∧ P z) (h : ∀ z : Int32, P z → Ev T j (lo, .int z :: rest, (u.1 + mc, u.2 + ms), hp) Q) : Ev T i (lo, st, u, hp) Q := by
  subst hst
  obtain ⟨z, h1, h2⟩ := hX
  have e1 : ((as.reverse ++ rest).take nA).reverse = as := by rw [List.take_left' (by rw [List.length_reverse]; exact hn), List.reverse_reverse]
  have e2 : (as.reverse ++ rest).drop nA = rest := List.drop_left' (by rw [List.length_reverse]; exact hn)
  refine Ev.call hT ?_ (by rw [e1]; exact h1) (by rw [e2]; exact h z h2)
  rw [e2, decide_eq_true (show nA ≤ (as.reverse ++ rest).length by rw [List.length_append, List.length_reverse, hn]; exact Nat.le_add_right _ _), Bool.true_and]
  exact hcat
theorem px_lesser {x y : Int32} {hp : ab_H} : ∃ z : Int32, Z_X11_lesser [.int x, .int y] hp = some (some (.int z), hp) ∧ z.toInt = min x.toInt y.toInt := by
  have h : ∃ o, ab_X (ab_T L_X11_lesser) 2 [.int x, .int y] hp = some o ∧ ∃ z : Int32, o = (some (.int z), hp) ∧ z.toInt = min x.toInt y.toInt := by
    refine ab_X_ev (Nat.le_of_ble_eq_true rfl) ?_
    refine Ev.step (j := 1) (s' := ([some (.int x), some (.int y)], [.int x], (0, 0), hp)) rfl rfl ?_
    refine Ev.step (j := 2) (s' := ([some (.int x), some (.int y)], [.int y, .int x], (0, 0), hp)) rfl rfl ?_
    refine bs_ge rfl (fun c => ?_) (fun c => ?_)
    · refine Ev.step (j := 10) (s' := ([some (.int x), some (.int y)], [.int y], (0, 0), hp)) rfl rfl ?_
      exact Ev.ret rfl rfl ⟨y, rfl, by omega⟩
    · refine Ev.step (j := 6) (s' := ([some (.int x), some (.int y)], [.int x], (0, 0), hp)) rfl rfl ?_
      refine Ev.step (j := 10) (s' := ([some (.int x), some (.int y)], [.int x], (0, 0), hp)) rfl rfl ?_
      exact Ev.ret rfl rfl ⟨x, rfl, by omega⟩
  obtain ⟨o, h1, z, rfl, h2⟩ := h
  exact ⟨z, h1, h2⟩
