/-! ===== the two tapes hold the same bytes ===== -/
def TB (hp : ab_H) : Prop := ∃ v : Int, sf_rd hp 1 1 = some v ∧ sf_rd hp 69 2 = some v ∧ 0 ≤ v ∧ v ≤ 940 ∧ ∀ q : Nat, (q : Int) < v → sf_rd hp 2 q = sf_rd hp 70 q
theorem TB_feed {as bs : List Value} {hp hp1 hp2 : ab_H} {v : Int} (v0 : 0 ≤ v) (v1 : v ≤ 940) (T : ∀ q : Nat, (q : Int) < v → sf_rd hp 2 q = sf_rd hp 70 q) (hc : sf_rd hp2 1 1 = some (fd_n v)) (hr : sf_rd hp2 69 2 = some (fd_n v)) (c2 : ∀ q, sf_rd hp2 2 q = sf_rd hp1 2 q) (r1 : ∀ q, sf_rd hp1 70 q = sf_rd hp 70 q)
    (CA : ∀ q : Nat, (q : Int) < v → sf_rd hp1 2 q = sf_rd hp 2 q) (RA : ∀ q : Nat, (q : Int) < v → sf_rd hp2 70 q = sf_rd hp1 70 q) (CB : v + 20 ≤ 940 → ∀ (i : Nat) (x : Int32), i < 5 → as[i + 1]? = some (Value.int x) → ∀ j : Nat, j < 4 → sf_rd hp1 2 (v.toNat + 4 * i + j) = some (bt x j)) (RB : v + 20 ≤ 940 → ∀ (i : Nat) (x : Int32), i < 5 → bs[i + 1]? = some (Value.int x) → ∀ j : Nat, j < 4 → sf_rd hp2 70 (v.toNat + 4 * i + j) = some (bt x j))
    (hab : ∀ i, i < 5 → ∃ x : Int32, as[i + 1]? = some (Value.int x) ∧ bs[i + 1]? = some (Value.int x)) : TB hp2 := by
  refine ⟨fd_n v, hc, hr, by unfold fd_n; split <;> omega, by unfold fd_n; split <;> omega, fun q hq => ?_⟩
  by_cases h : (q : Int) < v
  · rw [c2, CA q h, RA q h, r1, T q h]
  · unfold fd_n at hq
    split at hq
    · exact absurd hq h
    · have hv : v + 20 ≤ 940 := by omega
      obtain ⟨x, hx, hy⟩ := hab ((q - v.toNat) / 4) (by omega)
      have e : q = v.toNat + 4 * ((q - v.toNat) / 4) + (q - v.toNat) % 4 := by omega
      have h1 := CB hv _ x (by omega) hx ((q - v.toNat) % 4) (by omega)
      have h2 := RB hv _ x (by omega) hy ((q - v.toNat) % 4) (by omega)
      rw [← e] at h1 h2
      rw [c2, h1, h2]
theorem TB_end {hp hp2 : ab_H} {v x : Int} (v0 : 0 ≤ v) (v1 : v ≤ 940) (T : ∀ q : Nat, (q : Int) < v → sf_rd hp 2 q = sf_rd hp 70 q) (hc : sf_rd hp2 1 1 = some (en_n v x)) (hr : sf_rd hp2 69 2 = some (en_n v x)) (c2 : ∀ q, sf_rd hp2 2 q = sf_rd hp 2 q) (r2 : ∀ q, sf_rd hp2 70 q = sf_rd hp 70 q) : TB hp2 := by
  refine ⟨en_n v x, hc, hr, by unfold en_n; split <;> omega, by unfold en_n; split <;> omega, fun q hq => ?_⟩
  rw [c2, r2]
  refine T q ?_
  unfold en_n at hq
  split at hq <;> omega
theorem TB_zero {hp : ab_H} (hc : sf_rd hp 1 1 = some 0) (hr : sf_rd hp 69 2 = some 0) : TB hp := ⟨0, hc, hr, by omega, by omega, fun q hq => absurd hq (by omega)⟩
theorem TB_bv {hp : ab_H} {v : Int} (T : ∀ q : Nat, (q : Int) < v → sf_rd hp 2 q = sf_rd hp 70 q) : bv hp 70 v.toNat = bv hp 2 v.toNat := funext fun q => by
  unfold bv
  split
  · rw [T q (by omega)]
  · rfl
