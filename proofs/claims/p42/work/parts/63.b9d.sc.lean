theorem SCF.miss {F : FW} {r q w1 w2 : Nat} {s : PS} {a : Int} {d : Int32} (h : SCF F r s) (hq : s.h 3 = (q : Int)) (h20 : q < 20) (b1 : w1 < 8) (b2 : w2 < 8) (hd : d.toInt = a) : SCF (fp (fp (fp (fp F (r + 5) q (Int32.ofNat w1)) (r + 6) q (Int32.ofNat w2)) (r + 7) q d) r 10 (Int32.ofNat (q + 1))) r (ups (ups (ups (ups s.h (60 + q) (w1 : Int)) (80 + q) (w2 : Int)) (100 + q) a) 3 (s.h 3 + 1), s.2) := by
  obtain ⟨H, hH⟩ : ∃ H : Nat → Int, H = ups (ups (ups (ups s.h (60 + q) (w1 : Int)) (80 + q) (w2 : Int)) (100 + q) a) 3 (s.h 3 + 1) := ⟨_, rfl⟩
  rw [← hH]
  have e : ∀ j, j ≠ 3 → j ≠ 60 + q → j ≠ 80 + q → j ≠ 100 + q → H j = s.h j := fun j h1 h2 h3 h4 => by
    rw [hH, ups_ne h1, ups_ne h4, ups_ne h3, ups_ne h2]
  have e3 : H 3 = s.h 3 + 1 := by rw [hH, ups_eq]
  have e6 : H (60 + q) = (w1 : Int) := by rw [hH, ups_ne (by omega), ups_ne (by omega), ups_ne (by omega), ups_eq]
  have e8 : H (80 + q) = (w2 : Int) := by rw [hH, ups_ne (by omega), ups_ne (by omega), ups_eq]
  have e10 : H (100 + q) = a := by rw [hH, ups_ne (by omega), ups_eq]
  have p : ∀ b k, (b ≠ r ∨ k ≠ 10) → (b ≠ r + 5 ∧ b ≠ r + 6 ∧ b ≠ r + 7 ∨ k ≠ q) → (fp (fp (fp (fp F (r + 5) q (Int32.ofNat w1)) (r + 6) q (Int32.ofNat w2)) (r + 7) q d) r 10 (Int32.ofNat (q + 1))).1 b k = F.1 b k := fun b k c1 c2 => (fp_ne c1).trans ((fp_ne (by omega)).trans ((fp_ne (by omega)).trans (fp_ne (by omega))))
  have b := h.b
  unfold PSB at b
  refine ⟨h.o, ⟨?_, ?_, ?_, ?_, ?_, fun i hi => h.tl hi⟩, ⟨fun j hj => h.gn (by have : (j : Int) < H 0 := hj; rwa [e 0 (by decide) (by omega) (by omega) (by omega)] at this), fun j hj => h.mn (by have : (j : Int) < H 1 := hj; rwa [e 1 (by decide) (by omega) (by omega) (by omega)] at this)⟩, ⟨fun j hj => ?_, fun i hi => ?_, fun k hk => ?_⟩, ?_⟩
  · show _ = H 2
    rw [e 2 (by decide) (by omega) (by omega) (by omega), p r 7 (Or.inr (by decide)) (Or.inl (by omega))]
    exact h.l
  · show _ = H 0
    rw [e 0 (by decide) (by omega) (by omega) (by omega), p r 8 (Or.inr (by decide)) (Or.inl (by omega))]
    exact h.n0
  · show _ = H 1
    rw [e 1 (by decide) (by omega) (by omega) (by omega), p r 9 (Or.inr (by decide)) (Or.inl (by omega))]
    exact h.n1
  · show _ = H 3
    rw [e3, fp_eq, i_toInt (by omega)]
    omega
  · exact (p r 11 (Or.inr (by decide)) (Or.inl (by omega))).trans h.ld
  · show _ = H (52 + j)
    have hj' : (j : Int) < H 1 := hj
    rw [e 1 (by decide) (by omega) (by omega) (by omega)] at hj'
    rw [e _ (by omega) (by omega) (by omega) (by omega), p _ _ (Or.inl (by omega)) (Or.inl (by omega))]
    exact h.fs hj'
  · show _ = H (4 + i)
    rw [e _ (by omega) (by omega) (by omega) (by omega), p _ _ (Or.inl (by omega)) (Or.inl (by omega))]
    exact h.am hi
  · show _ = H (60 + k) ∧ _ = H (80 + k) ∧ _ = H (100 + k)
    have hk' : (k : Int) < H 3 := hk
    rw [e3] at hk'
    by_cases c : k = q
    · rw [c, e6, e8, e10]
      refine ⟨?_, ?_, ?_⟩
      · rw [fp_ne (Or.inl (by omega)), fp_ne (Or.inl (by omega)), fp_ne (Or.inl (by omega)), fp_eq]
        exact i_toInt (by omega)
      · rw [fp_ne (Or.inl (by omega)), fp_ne (Or.inl (by omega)), fp_eq]
        exact i_toInt (by omega)
      · rw [fp_ne (Or.inl (by omega)), fp_eq]
        exact hd
    · rw [e _ (by omega) (by omega) (by omega) (by omega), e _ (by omega) (by omega) (by omega) (by omega), e _ (by omega) (by omega) (by omega) (by omega), p _ _ (Or.inl (by omega)) (Or.inr c), p _ _ (Or.inl (by omega)) (Or.inr c), p _ _ (Or.inl (by omega)) (Or.inr c)]
      exact h.ms (by omega)
  · show 0 ≤ H 0 ∧ H 0 ≤ 6 ∧ 0 ≤ H 1 ∧ H 1 ≤ 8 ∧ 0 ≤ H 3 ∧ H 3 ≤ 20
    rw [e3, e 0 (by decide) (by omega) (by omega) (by omega), e 1 (by decide) (by omega) (by omega) (by omega)]
    omega
theorem SCF.amt {F : FW} {r x : Nat} {s : PS} {a : Int} {v : Int32} {A : Int64} (h : SCF F r s) (hx : x < 48) (hA : ∀ i, i < 48 → lb A i = (lb (F.2.2.1 r 12) i || decide (i = x))) (hv : v.toInt = a) : SCF (fp (fpl F r 12 A) (r + 4) x v) r (ups s.h (4 + x) a, s.nm, s.ld, ups s.tl x true) := by
  obtain ⟨H, hH⟩ : ∃ H : Nat → Int, H = ups s.h (4 + x) a := ⟨_, rfl⟩
  rw [← hH]
  have e : ∀ j, j ≠ 4 + x → H j = s.h j := fun j h1 => by rw [hH, ups_ne h1]
  have p : ∀ b k, (b ≠ r + 4 ∨ k ≠ x) → (fp (fpl F r 12 A) (r + 4) x v).1 b k = F.1 b k := fun b k c => fp_ne c
  refine ⟨h.o, ⟨?_, ?_, ?_, ?_, ?_, fun i hi => ?_⟩, ⟨fun j hj => ?_, fun j hj => ?_⟩, ⟨fun j hj => ?_, fun i hi => ?_, fun k hk => ?_⟩, ?_⟩
  · show _ = H 2
    rw [e 2 (by omega), p r 7 (Or.inl (by omega))]
    exact h.l
  · show _ = H 0
    rw [e 0 (by omega), p r 8 (Or.inl (by omega))]
    exact h.n0
  · show _ = H 1
    rw [e 1 (by omega), p r 9 (Or.inl (by omega))]
    exact h.n1
  · show _ = H 3
    rw [e 3 (by omega), p r 10 (Or.inl (by omega))]
    exact h.n3
  · exact (p r 11 (Or.inl (by omega))).trans h.ld
  · show lb ((fpl F r 12 A).2.2.1 r 12) i = ups s.tl x true i
    rw [fpl_eq, hA i hi, h.tl hi]
    by_cases c : i = x
    · rw [c, ups_eq, decide_eq_true rfl, Bool.or_true]
    · rw [ups_ne c, decide_eq_false c, Bool.or_false]
  · have hj' : (j : Int) < H 0 := hj
    rw [e 0 (by omega)] at hj'
    show ((fpl F r 12 A).2.2.1 (r + 1) j).toInt = _ ∧ _
    rw [fpl_ne (Or.inl (by omega))]
    exact h.gn hj'
  · have hj' : (j : Int) < H 1 := hj
    rw [e 1 (by omega)] at hj'
    show ((fpl F r 12 A).2.2.1 (r + 2) j).toInt = _ ∧ _
    rw [fpl_ne (Or.inl (by omega))]
    exact h.mn hj'
  · show _ = H (52 + j)
    have hj' : (j : Int) < H 1 := hj
    rw [e 1 (by omega)] at hj'
    have b := h.b
    unfold PSB at b
    rw [e _ (by omega), p _ _ (Or.inl (by omega))]
    exact h.fs hj'
  · show _ = H (4 + i)
    by_cases c : i = x
    · rw [c, hH, ups_eq, fp_eq]
      exact hv
    · rw [e _ (by omega), p _ _ (Or.inr c)]
      exact h.am hi
  · show _ = H (60 + k) ∧ _ = H (80 + k) ∧ _ = H (100 + k)
    have hk' : (k : Int) < H 3 := hk
    rw [e 3 (by omega)] at hk'
    rw [e _ (by omega), e _ (by omega), e _ (by omega), p _ _ (Or.inl (by omega)), p _ _ (Or.inl (by omega)), p _ _ (Or.inl (by omega))]
    exact h.ms hk'
  · show 0 ≤ H 0 ∧ H 0 ≤ 6 ∧ 0 ≤ H 1 ∧ H 1 ≤ 8 ∧ 0 ≤ H 3 ∧ H 3 ≤ 20
    rw [e 0 (by omega), e 1 (by omega), e 3 (by omega)]
    exact h.b
theorem SCF.s0 {F : FW} {r : Nat} (o : O7 F r) (h7 : F.1 r 7 = 10) (h8 : F.1 r 8 = 0) (h9 : F.1 r 9 = 0) (h10 : F.1 r 10 = 0) (h11 : F.1 r 11 = 0) (h12 : F.2.2.1 r 12 = 0) (ha : ∀ i, i < 48 → F.1 (r + 4) i = 0) : SCF F r s0 := by
  refine ⟨o, ⟨by rw [h7]; rfl, by rw [h8]; rfl, by rw [h9]; rfl, by rw [h10]; rfl, h11, fun i hi => ?_⟩, ⟨fun g hg => absurd (show (g : Int) < 0 from hg) (by omega), fun g hg => absurd (show (g : Int) < 0 from hg) (by omega)⟩, ⟨fun g hg => absurd (show (g : Int) < 0 from hg) (by omega), fun i hi => ?_, fun k hk => absurd (show (k : Int) < 0 from hk) (by omega)⟩, show (0 : Int) ≤ 0 ∧ (0 : Int) ≤ 6 ∧ (0 : Int) ≤ 0 ∧ (0 : Int) ≤ 8 ∧ (0 : Int) ≤ 0 ∧ (0 : Int) ≤ 20 by decide⟩
  · rw [h12]
    show lb 0 i = false
    unfold lb
    exact BitVec.getLsbD_zero
  · rw [ha i hi]
    show _ = (if 4 + i = 2 then (10 : Int) else 0)
    rw [if_neg (by omega)]
    rfl
