theorem fsc_c {s : PS} {X : TT} {g m : Nat} (hg : s.h 0 = (g : Int)) (hm : s.h 1 = (m : Int)) (bg : g ≤ 6) (bm : m ≤ 8) (k2 : X.k = 2) : fsc s X = (if oN (m_fst (gP s.nm X.v) g) = -1 ∧ oN (m_fst (mP s.nm X.v) m) = -1 then 0 else 3) := by
  unfold fsc
  rw [if_pos k2, hg, hm, ← fnd_oN (nm := s.nm) (o := 0) (v := X.v) (by omega), ← fnd_oN (nm := s.nm) (o := 6) (v := X.v) (by omega), fP_0, fP_6]
  have z : ∀ {P : Nat → Bool} {n : Nat}, n ≤ 8 → (0 ≤ (oN (m_fst P n)).toInt ↔ ¬ oN (m_fst P n) = -1) := fun {P n} hn => by
    refine ⟨fun h e => ?_, fun h => ?_⟩
    · rw [e] at h
      exact absurd h (by decide)
    · have q := mt (oN_neg (P := P) hn).mp h
      have q2 := mt Int32.lt_iff_toInt_lt.mpr q
      have z0 : (0 : Int32).toInt = 0 := rfl
      omega
  have z1 := z (P := gP s.nm X.v) (n := g) (by omega)
  have z2 := z (P := mP s.nm X.v) (n := m) (by omega)
  by_cases c1 : oN (m_fst (gP s.nm X.v) g) = -1
  · by_cases c2 : oN (m_fst (mP s.nm X.v) m) = -1
    · rw [if_neg (fun h => h.elim (fun e => z1.mp e c1) (fun e => z2.mp e c2)), if_pos ⟨c1, c2⟩]
    · rw [if_pos (Or.inr (z2.mpr c2)), if_neg (fun h => c2 h.2)]
  · rw [if_pos (Or.inl (z1.mpr c1)), if_neg (fun h => c1 h.1)]
/-- the number of a name that stands, else -1 -/
def tmz (nm : Nat → Int) (o q : Nat) (X : TT) : Int32 := if X.k = 2 then oN (m_fst (fP nm o X.v) q) else -1
theorem tmz_n {nm : Nat → Int} {o q : Nat} {X : TT} (hq : q ≤ 8) : tmz nm o q X = -1 ↔ ¬ lkc nm o q X = 0 := by
  unfold tmz lkc
  by_cases c : X.k = 2
  · rw [if_pos c, if_pos c]
    by_cases d : oN (m_fst (fP nm o X.v) q) = -1
    · rw [if_pos d]
      exact ⟨fun _ => by decide, fun _ => d⟩
    · rw [if_neg d]
      exact ⟨fun e => absurd e d, fun e => absurd rfl e⟩
  · rw [if_neg c, if_neg c]
    exact ⟨fun _ => by decide, fun _ => rfl⟩
theorem tmz_y {nm : Nat → Int} {o q w : Nat} {X : TT} (k2 : X.k = 2) (h : m_fst (fP nm o X.v) q = some w) : tmz nm o q X = Int32.ofNat w := by
  unfold tmz
  rw [if_pos k2, h]
  rfl
theorem tnW_0 {X : TT} (h : X.k = 2) : tnW X = 0 := if_pos h
theorem tnW_1 {X : TT} (h : ¬ tnW X = 0) : tnW X = 1 ∧ ¬ X.k = 2 := by
  unfold tnW at h ⊢
  by_cases c : X.k = 2
  · rw [if_pos c] at h
    exact absurd rfl h
  · rw [if_neg c]
    exact ⟨rfl, c⟩
theorem SCF.w {F : FW} {X : TT} (h : CURF F X) (k2 : X.k = 2) : (F.2.2.1 3 8).toInt = c32 7 X.v := h.2.2.2 k2
