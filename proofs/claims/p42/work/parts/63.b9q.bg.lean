theorem CTQ.bad {F G : FW} {K : Nat → TT} {p : Nat} {v : Option Value} (h : CTQ F G K p v) (c : ¬ G.1 3 9 = 0) : ∃ l i s f j, lns K l = some (s, i) ∧ stp K l s i = some (-1 - (K j).pl, f) ∧ f ≠ 0 ∧ (G.1 3 9).toInt = f ∧ CURF G (K j) := by
  obtain ⟨-, l, i, s, hl, h | ⟨f, j, z, -, h1, h2, h3, h4⟩⟩ := h
  · exact absurd h.2.2.2 c
  · exact ⟨l, i, s, f, j, hl, h1, h2, h3, h4⟩
theorem CTQ.ok {F G : FW} {K : Nat → TT} {p : Nat} {z : Int32} (h : CTQ F G K p (some (.int z))) (c : G.1 3 9 = 0) : ∃ l i s, lns K l = some (s, i) ∧ stp K l s i = some ((l : Int), 0) ∧ z = Int32.ofNat l ∧ SCF G p s := by
  obtain ⟨-, l, i, s, hl, h | ⟨f, j, z', -, h1, h2, h3, h4⟩⟩ := h
  · exact ⟨l, i, s, hl, h.1, Value.int.inj (Option.some.inj h.2.1), h.2.2.1⟩
  · rw [c] at h3
    exact absurd h3.symm h2
theorem wires_n : ∀ y ∈ wires, ¬ (y.1 = 0 ∧ (y.2.1 = 13 ∨ y.2.1 = 14)) := by decide
/-- what a Strait that stands has changed -/
def CSF (p u : Nat) (F G : FW) : Prop := (∀ a k, ¬ (a = 0 ∧ (k = 13 ∨ k = 14)) → G.2.1 a k = F.2.1 a k) ∧ G.2.2.2 = F.2.2.2 ∧ (∀ a k, ¬ ((a = 0 ∧ k = 18) ∨ a = 3 ∨ (p ≤ a ∧ a ≤ p + 7) ∨ (12 ≤ a ∧ a ≤ 19) ∨ (a = u ∧ k = 5) ∨ (a = 10 ∧ k = 1)) → G.1 a k = F.1 a k) ∧ ∀ a k, ¬ (a = 3 ∨ (p ≤ a ∧ a ≤ p + 7) ∨ (12 ≤ a ∧ a ≤ 19)) → G.2.2.1 a k = F.2.2.1 a k
theorem CSF.fx {p u : Nat} {F G : FW} (x : FX (fun q => q = 3 ∨ (p ≤ q ∧ q ≤ p + 7)) F G) : CSF p u F G := ⟨fun a k _ => by rw [x.2.2.1], x.2.2.2, fun a k c => x.1 a k (fun h => c (h.elim (fun e => Or.inr (Or.inl e)) (fun e => Or.inr (Or.inr (Or.inl e))))), fun a k c => x.2.1 a k (fun h => c (h.elim Or.inl (fun e => Or.inr (Or.inl e))))⟩
theorem CSF.tr {p u : Nat} {F G K : FW} (a : CSF p u F G) (b : CSF p u G K) : CSF p u F K := ⟨fun q k c => (b.1 q k c).trans (a.1 q k c), b.2.1.trans a.2.1, fun q k c => (b.2.2.1 q k c).trans (a.2.2.1 q k c), fun q k c => (b.2.2.2 q k c).trans (a.2.2.2 q k c)⟩
theorem CSF.rf {p u : Nat} {F : FW} : CSF p u F F := ⟨fun _ _ _ => rfl, rfl, fun _ _ _ => rfl, fun _ _ _ => rfl⟩
theorem CSF.p {p u a k : Nat} {v : Int32} {F G : FW} (h : CSF p u F G) (c : (a = 0 ∧ k = 18) ∨ (a = u ∧ k = 5) ∨ (a = 10 ∧ k = 1)) : CSF p u F (fp G a k v) := ⟨h.1, h.2.1, fun b j c2 => (fp_ne (by omega)).trans (h.2.2.1 b j c2), h.2.2.2⟩
theorem CSF.r {p u k : Nat} {v : Value} {F G : FW} (h : CSF p u F G) (c : k = 13 ∨ k = 14) : CSF p u F (fpr G 0 k v) := ⟨fun b j c2 => (fpr_ne (by omega)).trans (h.1 b j c2), h.2.1, h.2.2.1, h.2.2.2⟩
theorem CSF.b {p u : Nat} {F G K : FW} (h : CSF p u F G) (x : FX (fun q => 12 ≤ q ∧ q ≤ 19) G K) : CSF p u F K := ⟨fun b j c => by rw [x.2.2.1]; exact h.1 b j c, x.2.2.2.trans h.2.1, fun b j c => (x.1 b j (fun e => c (Or.inr (Or.inr (Or.inr (Or.inl e)))))).trans (h.2.2.1 b j c), fun b j c => (x.2.1 b j (fun e => c (Or.inr (Or.inr e)))).trans (h.2.2.2 b j c)⟩
theorem CSF.O7 {p u q : Nat} {F G : FW} (h : CSF p u F G) (hq : q ≠ 0) (o : O7 F q) : O7 G q := fun j hj => (h.1 q j (fun c => hq c.1)).trans (o j hj)
theorem CSF.G {p u : Nat} {F G : FW} (h : CSF p u F G) (g : GW F) : GW G := fun y my => (h.1 y.1 y.2.1 (wires_n y my)).trans (g y my)
def BGV (F : FW) (p : Nat) : Prop := (∀ j, j < 12 → F.1 13 j = F.1 (p + 4) (0 * 12 + j) ∧ F.1 14 j = 0 ∧ F.1 15 j = 0 ∧ F.1 16 j = 0) ∧ (∀ j, j < 8 → F.1 17 j = F.1 (p + 3) j ∧ F.1 18 j = 0) ∧ (∀ j, j < 64 → F.1 19 j = 0) ∧ F.1 12 7 = 0 ∧ F.1 12 8 = 0 ∧ F.1 12 9 = 0
theorem BGF.v {F G : FW} {p : Nat} (h : BGF F G p) (hp : 40 ≤ p) : BGV G p := ⟨fun j hj => ⟨(h.2.1 j hj).1.trans (h.1.1 (p + 4) _ (by omega)).symm, (h.2.1 j hj).2⟩, fun j hj => ⟨(h.2.2.1 j hj).1.trans (h.1.1 (p + 3) _ (by omega)).symm, (h.2.2.1 j hj).2⟩, h.2.2.2⟩
theorem BGV.o {F G : FW} {p : Nat} (h : BGV F p) (e : ∀ a k, (12 ≤ a ∧ a ≤ 19) ∨ (p ≤ a ∧ a ≤ p + 7) → G.1 a k = F.1 a k) : BGV G p := by
  refine ⟨fun j hj => ?_, fun j hj => ?_, fun j hj => ?_, ?_, ?_, ?_⟩
  · rw [e 13 j (by omega), e 14 j (by omega), e 15 j (by omega), e 16 j (by omega), e (p + 4) _ (by omega)]
    exact h.1 j hj
  · rw [e 17 j (by omega), e 18 j (by omega), e (p + 3) _ (by omega)]
    exact h.2.1 j hj
  · rw [e 19 j (by omega)]
    exact h.2.2.1 j hj
  · exact (e 12 7 (by omega)).trans h.2.2.2.1
  · exact (e 12 8 (by omega)).trans h.2.2.2.2.1
  · exact (e 12 9 (by omega)).trans h.2.2.2.2.2
def CSW (F F' : FW) (K : Nat → TT) (t p u : Nat) (v : Option Value) : Prop := ∃ l i s, lns K l = some (s, i) ∧
  ((stp K l s i = some ((l : Int), 0) ∧ v = some (.int (Int32.ofNat l)) ∧ SCF F' p s ∧ BGV F' p ∧ F'.2.1 0 13 = .ref p ∧ F'.2.1 0 14 = .ref t ∧ F'.1 0 18 = 0 ∧ F'.1 u 5 = 0 ∧ F'.1 10 1 = 0 ∧ CSF p u F F') ∨
  (∃ f j w, stp K l s i = some (-1 - (K j).pl, f) ∧ f ≠ 0 ∧ v = some (.int (-1 - w)) ∧ w.toInt = (K j).pl ∧ (F'.1 0 18).toInt = f ∧ FX (fun q => q = 0 ∨ q = 3 ∨ (p ≤ q ∧ q ≤ p + 7)) F F' ∧ ∀ k, k ≠ 18 → F'.1 0 k = F.1 0 k))
