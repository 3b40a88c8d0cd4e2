/-! ===== it begins ===== -/
def BGF (F G : FW) (p : Nat) : Prop := FX (fun q => 12 ≤ q ∧ q ≤ 19) F G ∧ (∀ j, j < 12 → G.1 13 j = F.1 (p + 4) (0 * 12 + j) ∧ G.1 14 j = 0 ∧ G.1 15 j = 0 ∧ G.1 16 j = 0) ∧ (∀ j, j < 8 → G.1 17 j = F.1 (p + 3) j ∧ G.1 18 j = 0) ∧ (∀ j, j < 64 → G.1 19 j = 0) ∧ G.1 12 7 = 0 ∧ G.1 12 8 = 0 ∧ G.1 12 9 = 0
