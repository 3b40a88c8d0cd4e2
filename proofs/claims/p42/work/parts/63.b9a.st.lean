/-! ===== the reference: a Strait was read ===== -/
def STE (F G : FW) : Prop := FX (fun q => q = 69 ∨ q = 71 ∨ q = 74) F G ∧ (∀ k, k ≠ 25 → G.1 69 k = F.1 69 k) ∧ G.1 69 25 = 0 ∧ (∀ k, G.2.2.1 69 k = F.2.2.1 69 k) ∧ (∀ j, j < 14 → G.2.2.1 74 j = F.2.2.1 74 (14 + j)) ∧ (∀ k, k < 120 → G.1 71 k = F.1 72 k) ∧ (∀ k, k < 12 → G.1 71 (124 + k) = F.1 72 (4 + k)) ∧ (∀ k, k < 8 → G.1 71 (172 + k) = F.1 72 (52 + k)) ∧ ∀ k, 120 ≤ k → k < 434 → (k < 124 ∨ 136 ≤ k) → (k < 172 ∨ 180 ≤ k) → G.1 71 k = 0
theorem STE.mk {F A C D E : FW} (xa : FX (fun q => q = 71) F A) (ha : ∀ j, j < 434 → A.1 71 j = (if j < 120 then F.1 72 j else 0)) (xc : FX (fun q => q = 74) A C) (hc : ∀ j, j < 14 → C.2.2.1 74 j = A.2.2.1 74 (14 + j)) (xd : FX (fun q => q = 71) C D) (hd : ∀ j, j < 12 → D.1 71 (124 + j) = C.1 71 (4 + j)) (hd2 : ∀ j, (j < 124 ∨ 136 ≤ j) → D.1 71 j = C.1 71 j) (xe : FX (fun q => q = 71) D E) (he : ∀ j, j < 8 → E.1 71 (172 + j) = D.1 71 (52 + j)) (he2 : ∀ j, (j < 172 ∨ 180 ≤ j) → E.1 71 j = D.1 71 j) : STE F (fp E 69 25 0) := by
  have c71 : ∀ j, C.1 71 j = A.1 71 j := fun j => xc.1 71 j (by decide)
  have e9 : ∀ j, E.1 69 j = F.1 69 j := fun j => (xe.1 69 j (by decide)).trans ((xd.1 69 j (by decide)).trans ((xc.1 69 j (by decide)).trans (xa.1 69 j (by decide))))
  have l : ∀ a j, a ≠ 71 → a ≠ 74 → E.2.2.1 a j = F.2.2.1 a j := fun a j h1 h2 => (xe.2.1 a j h1).trans ((xd.2.1 a j h1).trans ((xc.2.1 a j h2).trans (xa.2.1 a j h1)))
  have p7 : ∀ k, (fp E 69 25 0).1 71 k = E.1 71 k := fun k => fp_ne (Or.inl (by decide))
  refine ⟨(((xa.wd fun q h => Or.inr (Or.inl h)).tr (xc.wd fun q h => Or.inr (Or.inr h))).tr ((xd.wd fun q h => Or.inr (Or.inl h)).tr (xe.wd fun q h => Or.inr (Or.inl h)))).fp (Or.inl rfl), fun k h => (fp_ne (Or.inr h)).trans (e9 k), fp_eq, fun k => l 69 k (by decide) (by decide), fun j hj => (xe.2.1 74 j (by decide)).trans ((xd.2.1 74 j (by decide)).trans ((hc j hj).trans (xa.2.1 74 _ (by decide)))), fun k hk => ?_, fun k hk => ?_, fun k hk => ?_, fun k h1 h2 h3 h4 => ?_⟩
  · rw [p7, he2 k (Or.inl (by omega)), hd2 k (Or.inl (by omega)), c71, ha k (by omega), if_pos hk]
  · rw [p7, he2 _ (Or.inl (by omega)), hd k hk, c71, ha _ (by omega), if_pos (by omega)]
  · rw [p7, he k hk, hd2 _ (Or.inl (by omega)), c71, ha _ (by omega), if_pos (by omega)]
  · rw [p7, he2 k h4, hd2 k h3, c71, ha k h2, if_neg (by omega)]
