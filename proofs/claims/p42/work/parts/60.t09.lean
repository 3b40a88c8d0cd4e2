theorem and_same {x y z x' y' z' : Int32} (h : z = x &&& y) (h' : z' = x' &&& y') (e1 : x.toInt = x'.toInt) (e2 : y.toInt = y'.toInt) : z.toInt = z'.toInt := by
  rw [h, h', Int32.toInt_inj.mp e1, Int32.toInt_inj.mp e2]
def pkR (hp : ab_H) (z : Int32) : Prop := ∃ p l : Int, sf_rd hp 69 4 = some p ∧ sf_rd hp 69 3 = some l ∧ ((l ≤ p ∧ z.toInt = -1) ∨ (p < l ∧ ∃ b c : Int32, sf_rd hp 70 p.toNat = some b.toInt ∧ c.toInt = 255 ∧ z = b &&& c))
theorem pkR.same {hp : ab_H} {z z' : Int32} (h : pkR hp z) (h' : pkR hp z') : z.toInt = z'.toInt := by
  obtain ⟨p, l, h1, h2, h3⟩ := h
  obtain ⟨p', l', h1', h2', h3'⟩ := h'
  have e1 : p = p' := Option.some.inj (h1.symm.trans h1')
  have e2 : l = l' := Option.some.inj (h2.symm.trans h2')
  subst e1 e2
  rcases h3 with ⟨a, b⟩ | ⟨a, b, c, d1, d2, d3⟩
  · rcases h3' with ⟨a', b'⟩ | ⟨a', -⟩
    · omega
    · omega
  · rcases h3' with ⟨a', -⟩ | ⟨a', b', c', d1', d2', d3'⟩
    · omega
    · exact and_same d3 d3' (Option.some.inj (d1.symm.trans d1')) (by omega)
