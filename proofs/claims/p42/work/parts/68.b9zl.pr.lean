/-! ===== prices that were found: kept beside the days ===== -/
theorem gi_cl {hp hp' : ab_H} {a k : Nat} (e : hp'.2 a = hp.2 a) : (fl hp').1 a k = (fl hp).1 a k := by
  show gi hp' a k = gi hp a k
  unfold gi
  rw [e]
/-- an array that stands alone and isn't written -/
theorem ga_fr {W : List (Nat × Nat × Nat)} {t t' : Nat → Nat} {hp hp' : ab_H} {g p k : Nat} (H : sf_h t hp) (f : sf_fr W t hp t' hp') (hP : sf_P g = some p) (hW : W.all (fun w => decide (w.1 ≠ g)) = true) : (fl hp').1 p k = (fl hp).1 p k := by
  obtain ⟨a1, a2⟩ := H.2.2.1 g p hP
  exact gi_cl (f.2.2.2.1 p a1 (by rw [a2]; exact hW))
theorem pE {Z : List Value → ab_H → Option ab_O} {as : List Value} {t : Nat → Nat} {hp hp' : ab_H} {r : Option Value} {Q : Option Value → FW → Prop} (H : sf_h t hp) (p : Pm Z as (fl hp) Q) (e : sf_eqn Z as hp r hp') : Q r (fl hp') := (p hp _ (wt_of H) rfl e).2
/-- p GOODS have prices f, on both sides -/
def PRQ (p : Nat) (f : Nat → Int32) (F : FW) : Prop := p ≤ 6 ∧ F.1 0 17 = Int32.ofNat p ∧ AR F 42 12 f ∧ (F.1 69 28 = Int32.ofNat p ∨ (p = 0 ∧ F.1 69 28 = -1)) ∧ AR F 80 12 f
theorem PRQ_fr {W : List (Nat × Nat × Nat)} {t t' : Nat → Nat} {hp hp' : ab_H} {p : Nat} {f : Nat → Int32} (H : sf_h t hp) (x : sf_fr W t hp t' hp') (h1 : sf_inW W 10 17 = false) (h2 : sf_inW W 11 28 = false) (h3 : W.all (fun w => decide (w.1 ≠ 128)) = true) (h4 : W.all (fun w => decide (w.1 ≠ 141)) = true) (h : PRQ p f (fl hp)) : PRQ p f (fl hp') := by
  obtain ⟨a, b, c, d, e⟩ := h
  have e1 := gi_fr H x (g := 10) rfl (by decide) rfl h1
  have e2 := gi_fr H x (g := 11) rfl (by decide) rfl h2
  exact ⟨a, e1.trans b, fun j hj => (ga_fr H x (g := 128) rfl h3).trans (c j hj), by rw [e2]; exact d, fun j hj => (ga_fr H x (g := 141) rfl h4).trans (e j hj)⟩
theorem d_price {F : FW} {D : DD} {p : Nat} {f : Nat → Int32} (h : CR F D) (q : PRQ p f F) (x y : Int32) : Pm Z_X10_price [.ref 0, .int x, .int y] F (fun r F' => r = some (.int (a_price p f x y)) ∧ CR F' D ∧ KX F F') :=
  CO1 h (o_price h.G q.2.1 q.1 q.2.2.1 x y)
theorem e_price {F : FW} {D : DD} {p : Nat} {f : Nat → Int32} (h : XR F D) (q : PRQ p f F) (x y : Int32) : Pm Z_X11_price [.ref 69, .int x, .int y] F (fun r F' => r = some (.int (a_price p f x y)) ∧ XR F' D ∧ KC F F') :=
  QO3 h (q_price h.G rfl q.1 q.2.2.2.1 q.2.2.2.2 x y)
theorem lw_prices {W : List (Nat × Nat × Nat)} {t t1 t2 : Nat → Nat} {hp hp1 hp2 : ab_H} {r1 r2 : Option Value} {D : DD} (H : sf_h t hp) (H1 : sf_h t1 hp1) (hD : DOK D) (hC : CR (fl hp) D) (hX1 : XR (fl hp1) D) (x : sf_fr W t1 hp1 t2 hp2) (h1 : sf_inW W 10 17 = false) (h3 : W.all (fun w => decide (w.1 ≠ 128)) = true) (x1 : sf_eqn Z_X10_prices [.ref 0] hp r1 hp1) (x2 : sf_eqn Z_X11_prices [.ref 69] hp1 r2 hp2) : PRQ (t_g (dT D)) (m_row (dT D) (dS D) (m_rounds (dT D) (dS D))) (fl hp2) := by
  obtain ⟨t0, ht, hT, j0, -⟩ := hC.t
  obtain ⟨-, -, -, a1, a2⟩ := pE H (o_prices hC.G ht hT hC.s j0) x1
  obtain ⟨-, -, b1, b2⟩ := pE H1 (q_prices hX1.T hX1.s hX1.G hD.1 hD.2.1) x2
  exact ⟨hT.gb, (gi_fr H1 x (g := 10) rfl (by decide) rfl h1).trans a1, fun j hj => (ga_fr H1 x (g := 128) rfl h3).trans (a2 j hj), Or.inl b1, b2⟩
