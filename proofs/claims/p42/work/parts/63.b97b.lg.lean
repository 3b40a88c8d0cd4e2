theorem o_lg121 {F : FW} {m n kk : Nat} {S S2 : Sh} {H : Nat → Sh} {a l : Int32} (hG : GW F) (hm : m ≤ 8) (hS : SHR F 12 m S) (hS2 : SHR F 20 m S2) (hH : HST F m n H) (h88 : 88 ≤ F.2.2.2.1) (h44 : F.1 44 1 = Int32.ofNat kk) (hkk : kk ≤ 40) (hz : kk = 0 → S2 = S) (hl : l = 0 ∨ l = 1) (N : Nat) : Pv (ab_T (L_X10_log Z_X8_moveInto Z_X4_readText Z_X6_copyFrom Z_X10_judgeLog Z_X6_hungerInAll Z_X2_keep)) N 121 [some (.ref 0), some (.int l), some (.int a)] [] F (fun r F' => r = some (.int a) ∧ KF (fun q => 12 ≤ q ∧ q ≤ 19) F F' ∧ HK (decide (l = 1) && decide (0 < kk)) F' m n H S ∧ SHR F' 12 m (if l = 1 then S2 else S)) := by
  rcases hl with rfl | rfl
  · refine Pv.imp (o_lg121z N) ?_
    rintro r F' ⟨e, rfl⟩
    refine ⟨e, KF.rf, HK.f hH ?_, ?_⟩
    · rw [decide_eq_false (show ¬ (0 : Int32) = 1 by decide)]
      rfl
    · rw [if_neg (show ¬ (0 : Int32) = 1 by decide)]
      exact hS
  · refine Pv.imp (o_lg121y hG hm hS hS2 hH h88 h44 hkk hz N) ?_
    rintro r F' ⟨e, k1, k2, k3⟩
    refine ⟨e, k1, ?_, ?_⟩
    · rw [decide_eq_true (show (1 : Int32) = 1 from rfl), Bool.true_and]
      exact k2
    · rw [if_pos rfl]
      exact k3
theorem lcp_b {q : Nat} (c : (20 ≤ q ∧ q ≤ 27) ∨ (7 ≤ q ∧ q ≤ 9) ∨ q = 44) : LCP q := by
  unfold LCP
  omega
theorem lcp_s {q : Nat} (c : 12 ≤ q ∧ q ≤ 19) : LCP q := by
  unfold LCP
  omega
theorem lcp_r {q : Nat} (c : q = 0 ∨ q = 3 ∨ (36 ≤ q ∧ q ≤ 39)) : LCP q := by
  unfold LCP
  omega
