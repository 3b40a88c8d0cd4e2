/-! ===== the reference tries a LOG ===== -/
def RTL (F G : FW) : Prop := FX (fun q => q = 69 ∨ q = 71 ∨ q = 78 ∨ q = 81) F G ∧ (∀ k, k < 133 → G.1 78 k = F.1 71 (120 + k)) ∧ (∀ k, k < 120 ∨ 253 ≤ k → G.1 71 k = F.1 71 k) ∧ ∀ k, k ≠ 0 → k ≠ 22 → k ≠ 29 → k ≠ 32 → G.1 69 k = F.1 69 k
/-- laid back -/
def RTB (F G : FW) : Prop := FX (fun q => q = 69 ∨ q = 71 ∨ q = 78 ∨ q = 81) F G ∧ (∀ k, G.1 71 k = F.1 71 k) ∧ ∀ k, k ≠ 0 → k ≠ 22 → k ≠ 29 → k ≠ 32 → G.1 69 k = F.1 69 k
theorem RTL.of {F G : FW} (x : FX (fun q => q = 78) F G) (a : ∀ k, k < 133 → G.1 78 k = F.1 71 (120 + k)) : RTL F G :=
  ⟨x.wd fun q (c : q = 78) => Or.inr (Or.inr (Or.inl c)), a, fun k _ => x.1 71 k (by decide), fun k _ _ _ _ => x.1 69 k (by decide)⟩
theorem RTL.sx {F G K : FW} (h : RTL F G) (x : RXS G K) : RTL F K :=
  ⟨h.1.tr (x.1.wd fun q (c : q = 69 ∨ q = 71) => c.elim Or.inl (fun e => Or.inr (Or.inl e))), fun k hk => (x.1.1 78 k (by decide)).trans (h.2.1 k hk), fun k hk => (x.2.2 k hk).trans (h.2.2.1 k hk), fun k h1 h2 h3 h4 => (x.2.1 k h2 h3).trans (h.2.2.2 k h1 h2 h3 h4)⟩
theorem RTL.st {F G : FW} {k : Nat} {v : Int32} (h : RTL F G) : RTL F (fp G 81 k v) :=
  ⟨h.1.fp (Or.inr (Or.inr (Or.inr rfl))), fun j hj => (fp_ne (Or.inl (by decide))).trans (h.2.1 j hj), fun j hj => (fp_ne (Or.inl (by decide))).trans (h.2.2.1 j hj), fun j h1 h2 h3 h4 => (fp_ne (Or.inl (by decide))).trans (h.2.2.2 j h1 h2 h3 h4)⟩
theorem RTL.sd {F G : FW} {k : Nat} {v : Int32} (h : RTL F G) (c : k = 0 ∨ k = 22 ∨ k = 29 ∨ k = 32) : RTL F (fp G 69 k v) :=
  ⟨h.1.fp (Or.inl rfl), fun j hj => (fp_ne (Or.inl (by decide))).trans (h.2.1 j hj), fun j hj => (fp_ne (Or.inl (by decide))).trans (h.2.2.1 j hj), fun j h1 h2 h3 h4 => (fp_ne (Or.inr (by omega))).trans (h.2.2.2 j h1 h2 h3 h4)⟩
theorem RTL.T {F G : FW} {T : St} (h : RTL F G) (t : XT F T) : XT G T := t.of fun k hk => h.2.2.1 k (Or.inl hk)
theorem RTL.G {F G : FW} (h : RTL F G) (g : GW F) : GW G := g.fx h.1
theorem RTL.bk {F G K : FW} (h : RTL F G) (x : FX (fun q => q = 71) G K) (a : ∀ k, k < 133 → K.1 71 (120 + k) = G.1 78 k) (b : ∀ k, k < 120 ∨ 253 ≤ k → K.1 71 k = G.1 71 k) : RTB F K :=
  ⟨h.1.tr (x.wd fun q (c : q = 71) => Or.inr (Or.inl c)), fun k => by
    rcases Classical.em (k < 120 ∨ 253 ≤ k) with c | c
    · exact (b k c).trans (h.2.2.1 k c)
    · have e := (a (k - 120) (by omega)).trans (h.2.1 (k - 120) (by omega))
      rw [show 120 + (k - 120) = k by omega] at e
      exact e, fun k h1 h2 h3 h4 => (x.1 69 k (by decide)).trans (h.2.2.2 k h1 h2 h3 h4)⟩
