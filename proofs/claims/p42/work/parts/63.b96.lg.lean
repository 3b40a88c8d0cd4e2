/-! ===== the class: LOG, whole ===== -/
theorem KF.wd {P P' : Nat → Prop} {F G : FW} (h : KF P F G) (w : ∀ a, P a → P' a) : KF P' F G := ⟨h.1, h.2.1, fun a ha h1 h2 h3 => ⟨fun k c => (h.2.2.1 a ha h1 h2 h3).1 k (fun p => c (w a p)), (h.2.2.1 a ha h1 h2 h3).2.1, fun k c => (h.2.2.1 a ha h1 h2 h3).2.2 k (fun p => c (w a p))⟩, h.2.2.2⟩
theorem LNS.e {F G : FW} {L : LN} {n : Nat} (h : LNS F L n) (e : ∀ a k, 37 ≤ a → a ≤ 39 → G.1 a k = F.1 a k) : LNS G L n := fun l hl => ⟨(e _ _ (by decide) (by decide)).trans (h l hl).1, (e _ _ (by decide) (by decide)).trans (h l hl).2.1, (e _ _ (by decide) (by decide)).trans (h l hl).2.2⟩
/-- lines that a text says are lines -/
theorem lgs_ok {K : Nat → TT} {nm : Nat → Int} {T : St} (hg : t_g T ≤ 6) : ∀ {n i : Nat} {L : LN}, lgs K nm (t_g T) (t_m T) n = some (L, i) → ∀ l, l < n → LYK T (L l)
  | 0, _, _, _ => fun l hl => absurd hl (Nat.not_lt_zero l)
  | n + 1, i, L, h => by
    have h' : lgn K nm (t_g T) (t_m T) n (lgs K nm (t_g T) (t_m T) n) = some (L, i) := h
    cases e : lgs K nm (t_g T) (t_m T) n with
    | none =>
      rw [e] at h'
      cases h'
    | some y =>
      obtain ⟨L', i'⟩ := y
      rw [e] at h'
      have ih := lgs_ok hg e
      have h2 : (if (K i').k = 0 then none else lgj K L' n (ll K nm (t_g T) (t_m T) n i')) = some (L, i) := h'
      by_cases k0 : (K i').k = 0
      · rw [if_pos k0] at h2
        cases h2
      · rw [if_neg k0] at h2
        cases el : ll K nm (t_g T) (t_m T) n i' with
        | inr z =>
          rw [el] at h2
          cases h2
        | inl y =>
          obtain ⟨d, w, x, j⟩ := y
          rw [el] at h2
          have h3 : (if tnS (K j) 59 = 0 then some (upn L' n (d, w, x), j + 1) else none) = some (L, i) := h2
          by_cases s0 : tnS (K j) 59 = 0
          · rw [if_pos s0] at h3
            obtain ⟨rfl, -⟩ := Prod.mk.inj (Option.some.inj h3)
            exact LYK.s ih (ll_ok hg (show ll K nm (t_g T) (t_m T) n i' = ll_y d w x j from el))
          · rw [if_neg s0] at h3
            cases h3
theorem LGA.ok {K : Nat → TT} {nm : Nat → Int} {T : St} {n j : Nat} {L : LN} {c : Int32} (hg : t_g T ≤ 6) (h : LGA K nm (t_g T) (t_m T) n L c j) : ∀ l, l < n → LYK T (L l) := by
  obtain ⟨i, h1, -⟩ := h
  exact lgs_ok hg h1
def LCF (G : FW) (c : Int32) (kk : Nat) (S S2 : Sh) : Prop := G.1 44 0 = c ∧ G.1 44 1 = Int32.ofNat kk ∧ G.1 44 2 = Int32.ofNat (h_d S2) ∧ G.1 44 3 = m_sum (h_u S2) 12 - m_sum (h_u S) 12
theorem LCF.of {F G : FW} {c : Int32} {kk : Nat} {S S2 : Sh} (f : LCF F c kk S S2) (e : ∀ k, G.1 44 k = F.1 44 k) : LCF G c kk S S2 := ⟨(e 0).trans f.1, (e 1).trans f.2.1, (e 2).trans f.2.2.1, (e 3).trans f.2.2.2⟩
/-- where a LOG may write, the tape's cutting aside -/
def LCP (q : Nat) : Prop := q = 0 ∨ q = 3 ∨ (36 ≤ q ∧ q ≤ 39) ∨ (12 ≤ q ∧ q ≤ 27) ∨ (7 ≤ q ∧ q ≤ 9) ∨ q = 44
def LCW (F F' : FW) (K : Nat → TT) (T : St) (S : Sh) (nm : Nat → Int) (n : Nat) (H : Nat → Sh) (l : Int32) (r : Option Value) : Prop :=
  KF LCP F F' ∧ (∀ k, k ≠ 18 → F'.1 0 k = F.1 0 k) ∧
  ((∃ nl L j, LGA K nm (t_g T) (t_m T) nl L 0 j ∧ r = some (.int (oN (m_fst (jP T L S) nl))) ∧ F'.1 0 18 = 0 ∧ HK (decide (l = 1) && decide (0 < jn nl (m_fst (jP T L S) nl))) F' (t_m T) n H S ∧ SHR F' 12 (t_m T) (if l = 1 then jr T L S (jn nl (m_fst (jP T L S) nl)) else S) ∧ LCF F' (jc T L S (m_fst (jP T L S) nl)) (jn nl (m_fst (jP T L S) nl)) S (jr T L S (jn nl (m_fst (jP T L S) nl)))) ∨
  (∃ v, r = some (.int (-2 - v)) ∧ HST F' (t_m T) n H ∧ SHR F' 12 (t_m T) S ∧ (∀ k, F'.1 44 k = F.1 44 k) ∧ ∃ nl L c j, LGA K nm (t_g T) (t_m T) nl L c j ∧ ¬ c = 0 ∧ F'.1 0 18 = c ∧ v.toInt = (K j).pl))
