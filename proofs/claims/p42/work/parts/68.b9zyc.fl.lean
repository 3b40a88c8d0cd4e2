/-! ===== the latest FAULT: kept beside the days ===== -/
theorem FLQ_fr {W : List (Nat × Nat × Nat)} {t t' : Nat → Nat} {hp hp' : ab_H} (H : sf_h t hp) (x : sf_fr W t hp t' hp') (h1 : sf_inW W 10 18 = false) (h2 : sf_inW W 11 15 = false) (h : (fl hp).1 0 18 = (fl hp).1 69 15) : (fl hp').1 0 18 = (fl hp').1 69 15 :=
  (gi_fr H x (g := 10) rfl (by decide) rfl h1).trans (h.trans (gi_fr H x (g := 11) rfl (by decide) rfl h2).symm)
