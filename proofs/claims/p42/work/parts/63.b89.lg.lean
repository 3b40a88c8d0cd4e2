theorem HSX.cg {F : FW} {m n : Nat} {H H' : Nat → Sh} (h : HSX F m n H) (e : ∀ j, j < n → H' j = H j) : HSX F m n H' := ⟨h.1, h.2.1, fun j hj => by
  rw [e j hj]
  exact h.2.2 j hj⟩
theorem m_kn_p (n : Nat) : m_kn n = (m_kn n - 1) + 1 := by
  unfold m_kn
  split <;> omega
theorem m_kH_r {n : Nat} {H : Nat → Sh} {S S' : Sh} {j : Nat} (h8 : n ≤ 8) (hj : j < m_kn n) : m_kH n H S j = if j < m_kn n - 1 then m_kH n H S' j else S := by
  unfold m_kH
  unfold m_kn at hj ⊢
  by_cases c : n < 8
  · rw [if_pos c] at hj ⊢
    rw [if_pos c, if_pos c, Nat.add_sub_cancel]
    by_cases d : j < n
    · rw [if_pos d, if_pos d, if_pos d]
    · rw [if_neg d, if_neg d]
  · rw [if_neg c] at hj ⊢
    rw [if_neg c, if_neg c]
    by_cases d : j < 7
    · rw [if_pos d, if_pos (show j < 8 - 1 by omega), if_pos d]
    · rw [if_neg d, if_neg (show ¬ j < 8 - 1 by omega)]
def KPL (F G : FW) : Prop := FX (fun q => q = 77 ∨ q = 69) F G ∧ (∀ j, G.1 71 j = F.1 71 j) ∧ ∀ j, j ≠ 25 → G.1 69 j = F.1 69 j
