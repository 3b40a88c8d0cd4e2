def rwd : List Int := [1819238756, 1735356260, 495874696043, 512735736947, 1700885619, 469785863539, 7168366, 120299675936115, 114827585545331, 422541682035, 131260432541043, 1684628851, 6578553, 28530, 6385252, 7237492, 119165535610212, 29395861899601252, 1835099237, 435426714990, 439721161573, 1852137842, 6709618, 27991845698233700, 121450625394034]
def WOK (T : TT) : Prop := (T.k = 2 ∨ 64 ≤ T.k) → LW 7 T.v ∧ ∀ k, k < 25 → (T.v = rwd.getD k 0 ↔ T.k = 64 + (k : Int))
theorem rkk_1 {k : Int} (h : rkk k = 1) : k = 2 ∨ 64 ≤ k := by
  unfold rkk at h
  split at h
  · omega
  · split at h
    · omega
    · split at h
      · omega
      · split at h
        · assumption
        · omega
theorem rkk_w {k : Int} (h : 64 ≤ k) : rkk k = 1 := by
  unfold rkk
  rw [if_neg (by omega), if_neg (by omega), if_neg (by omega), if_pos (by omega)]
