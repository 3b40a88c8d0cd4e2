def RK (hp : ab_H) (B : Nat → Int) (n lim i : Nat) : Prop := NT hp (tok B n lim i) ∧ sf_rd hp 69 3 = some (n : Int) ∧ sf_rd hp 69 5 = some (lim : Int) ∧ bv hp 70 n = B
theorem RK_next {W : List (Nat × Nat × Nat)} {t t' : Nat → Nat} {hp hp' : ab_H} {B : Nat → Int} {n lim i : Nat} (H : sf_h t hp) (f : sf_fr W t hp t' hp') (h3 : sf_inW W 11 3 = false) (h5 : sf_inW W 11 5 = false) (h7 : W.all (fun w => decide (w.1 ≠ 131)) = true) (x : ∀ p n l : Int, sf_rd hp 69 4 = some p → sf_rd hp 69 3 = some n → sf_rd hp 69 5 = some l → sf_psi hp' ≤ 2 * (940 - p) ∧ (p ≤ n → NT hp' (tkt (bv hp 70 n.toNat) n.toNat l.toNat p.toNat))) (h : RK hp B n lim i) : RK hp' B n lim (i + 1) ∧ sf_psi hp' ≤ 2 * (940 - (tps B n lim (i + 1) : Int)) := by
  obtain ⟨a, b, c, d⟩ := h
  obtain ⟨y1, y2⟩ := x _ _ _ a.2.1 b c
  have r11 : bs_R t hp 69 11 := bs_R.uq H rfl
  have r70 : bs_R t hp 70 131 := bs_R.uq H rfl
  have tn : tps B n lim (i + 1) ≤ n := tps_n (i + 1)
  have y3 := y2 (by show ((tps B n lim (i + 1) : Nat) : Int) ≤ (n : Int); omega)
  rw [show ((n : Int)).toNat = n from rfl, show ((lim : Int)).toNat = lim from rfl, d] at y3
  exact ⟨⟨y3, (f.2.2.1 _ r11.1 _ (by rw [r11.2]; exact h3)).trans b, (f.2.2.1 _ r11.1 _ (by rw [r11.2]; exact h5)).trans c, (bv_same fun q => sf_rd_cell (f.2.2.2.1 _ r70.1 (by rw [r70.2]; exact h7))).trans d⟩, y1⟩
theorem RK_keep {W : List (Nat × Nat × Nat)} {t t' : Nat → Nat} {hp hp' : ab_H} {B : Nat → Int} {n lim i : Nat} (H : sf_h t hp) (f : sf_fr W t hp t' hp') (h7 : W.all (fun w => decide (w.1 ≠ 131)) = true) (hW : (List.range 18).all (fun k => (decide (k ≠ 3) && decide (k ≠ 4) && decide (k ≠ 5) && decide (k ≠ 11) && decide (k ≠ 12) && decide (k ≠ 14)) || !(sf_inW W 11 k)) = true) (hl : sf_rl hp' 69 17 = sf_rl hp 69 17) (h : RK hp B n lim i) : RK hp' B n lim i := by
  obtain ⟨a, b, c, d⟩ := h
  have r11 : bs_R t hp 69 11 := bs_R.uq H rfl
  have r70 : bs_R t hp 70 131 := bs_R.uq H rfl
  have K : ∀ k, k < 18 → (k = 3 ∨ k = 4 ∨ k = 5 ∨ k = 11 ∨ k = 12 ∨ k = 14) → sf_rd hp' 69 k = sf_rd hp 69 k := by
    intro k hk hc
    refine f.2.2.1 _ r11.1 _ ?_
    rw [r11.2]
    have h1 := List.all_eq_true.mp hW k (List.mem_range.mpr hk)
    simp only [Bool.or_eq_true, Bool.and_eq_true, decide_eq_true_eq, Bool.not_eq_true'] at h1
    rcases h1 with h1 | h1
    · omega
    · exact h1
  obtain ⟨a1, a2, a3, a4, a5, a6⟩ := a
  refine ⟨⟨(K 12 (by omega) (by omega)).trans a1, (K 4 (by omega) (by omega)).trans a2, (K 11 (by omega) (by omega)).trans a3, fun e => (K 14 (by omega) (by omega)).trans (a4 e), fun e => (K 14 (by omega) (by omega)).trans (a5 e), fun e => ?_⟩, (K 3 (by omega) (by omega)).trans b, (K 5 (by omega) (by omega)).trans c, (bv_same fun q => sf_rd_cell (f.2.2.2.1 _ r70.1 (by rw [r70.2]; exact h7))).trans d⟩
  obtain ⟨w, g1, g2⟩ := a6 e
  exact ⟨w, hl.trans g1, g2⟩
def RES (hp : ab_H) : Prop := ∀ k, k < 25 → ∃ w, sf_rl hp 75 k = some w ∧ w.toInt = rwd.getD k 0
theorem RES_fr {W : List (Nat × Nat × Nat)} {t t' : Nat → Nat} {hp hp' : ab_H} (H : sf_h t hp) (f : sf_fr W t hp t' hp') (h7 : W.all (fun w => decide (w.1 ≠ 136)) = true) (h : RES hp) : RES hp' := by
  have r : bs_R t hp 75 136 := bs_R.uq H rfl
  intro k hk
  rw [sf_rl_cell (f.2.2.2.1 _ r.1 (by rw [r.2]; exact h7))]
  exact h k hk
theorem tok_k88 (B : Nat → Int) (n lim i : Nat) : (tok B n lim i).k ≤ 88 := by
  show (tkq B n lim _).k ≤ 88
  generalize tk_e tk_b B n (tps B n lim i) = q
  unfold tkq
  split
  · show (1 : Int) ≤ 88
    decide
  · split
    · show (0 : Int) ≤ 88
      decide
    · split
      · unfold trn
        split
        · show kw _ ≤ 88
          have := kw_rng (pv B q (tk_e tk_r B n q - q))
          omega
        · split
          · show (3 : Int) ≤ 88
            decide
          · show (1 : Int) ≤ 88
            decide
      · show tsg _ ≤ 88
        unfold tsg
        split
        · next h =>
          unfold tsgp at h
          omega
        · decide
theorem rkk_1 {k : Int} (h : rkk k = 1) : k = 2 ∨ 64 ≤ k := by
  unfold rkk at h
  split at h
  · omega
  · split at h
    · omega
    · split at h
      · omega
      · split at h
        · assumption
        · omega
theorem rkk_2 {k : Int} (h : rkk k = 2) : k = 3 := by
  unfold rkk at h
  split at h
  · omega
  · split at h
    · omega
    · split at h
      · assumption
      · split at h <;> omega
theorem rkk_3 {k : Int} (h : rkk k = 3) : k ≠ 0 ∧ k ≠ 1 ∧ k ≠ 46 ∧ k ≠ 3 ∧ k ≠ 2 ∧ k < 64 := by
  unfold rkk at h
  split at h
  · omega
  · split at h
    · omega
    · split at h
      · omega
      · split at h <;> omega
theorem rkk_0 {k : Int} (h : rkk k = 0) : k = 0 := by
  unfold rkk at h
  split at h
  · assumption
  · split at h
    · omega
    · split at h
      · omega
      · split at h <;> omega
theorem rkk_of2 : rkk 2 = 1 := rfl
theorem rkk_of3 : rkk 3 = 2 := rfl
theorem rkk_59 : rkk 59 = 3 := rfl
theorem rkk_of0 : rkk 0 = 0 := rfl
theorem rkk_w {k : Int} (h : 64 ≤ k) : rkk k = 1 := by
  unfold rkk
  rw [if_neg (by omega), if_neg (by omega), if_neg (by omega), if_pos (by omega)]
def ibit (A : Int) (k : Nat) : Bool := (Int32.ofInt A).toBitVec.getLsbD k
def SR (hp : ab_H) (s : PS) : Prop := (∀ i, i < 120 → sf_rd hp 72 i = some (s.h i)) ∧ sf_rd hp 69 20 = some (cond s.ld 1 0) ∧ (∀ w, w < 4 → ∃ A, sf_rd hp 76 w = some A ∧ ∀ k, k < 12 → ibit A k = s.tl (12 * w + k)) ∧ (∀ g : Nat, (g : Int) < s.h 0 → ∃ w, sf_rl hp 74 (14 + g) = some w ∧ w.toInt = s.nm g) ∧ (∀ g : Nat, (g : Int) < s.h 1 → ∃ w, sf_rl hp 74 (20 + g) = some w ∧ w.toInt = s.nm (6 + g))
theorem SR_fr {W : List (Nat × Nat × Nat)} {t t' : Nat → Nat} {hp hp' : ab_H} {s : PS} (H : sf_h t hp) (f : sf_fr W t hp t' hp') (h1 : W.all (fun w => decide (w.1 ≠ 133)) = true) (h2 : W.all (fun w => decide (w.1 ≠ 137)) = true) (h3 : W.all (fun w => decide (w.1 ≠ 135)) = true) (h4 : sf_inW W 11 20 = false) (h : SR hp s) : SR hp' s := by
  have r1 : bs_R t hp 72 133 := bs_R.uq H rfl
  have r2 : bs_R t hp 76 137 := bs_R.uq H rfl
  have r3 : bs_R t hp 74 135 := bs_R.uq H rfl
  have r4 : bs_R t hp 69 11 := bs_R.uq H rfl
  have e1 := f.2.2.2.1 _ r1.1 (by rw [r1.2]; exact h1)
  have e2 := f.2.2.2.1 _ r2.1 (by rw [r2.2]; exact h2)
  have e3 := f.2.2.2.1 _ r3.1 (by rw [r3.2]; exact h3)
  obtain ⟨a, b, c, d, e⟩ := h
  exact ⟨fun i hi => (sf_rd_cell e1).trans (a i hi), (f.2.2.1 _ r4.1 _ (by rw [r4.2]; exact h4)).trans b, fun w hw => by rw [sf_rd_cell e2]; exact c w hw, fun g hg => by rw [sf_rl_cell e3]; exact d g hg, fun g hg => by rw [sf_rl_cell e3]; exact e g hg⟩
def RRES (hp : ab_H) (B : Nat → Int) (n lim : Nat) (r : Option Value) (x : LR) : Prop := match x with
  | .inl (s, j) => (∃ z : Int32, r = some (.int z) ∧ z.toInt = 1) ∧ SR hp s ∧ RK hp B n lim j
  | .inr (f, j) => (∃ z : Int32, r = some (.int z) ∧ z.toInt = 0) ∧ sf_rd hp 69 15 = some f ∧ sf_rd hp 69 16 = some (tok B n lim j).pl
theorem RRES_bad {hp : ab_H} {B : Nat → Int} {n lim j : Nat} {r : Option Value} {f : Int} (h1 : ∃ z : Int32, r = some (.int z) ∧ z.toInt = 0) (h2 : sf_rd hp 69 15 = some f) (h3 : sf_rd hp 69 16 = some (tok B n lim j).pl) : RRES hp B n lim r (LR.bad f j) := ⟨h1, h2, h3⟩
theorem RRES_ok {hp : ab_H} {B : Nat → Int} {n lim j : Nat} {r : Option Value} {s : PS} (h1 : ∃ z : Int32, r = some (.int z) ∧ z.toInt = 1) (h2 : SR hp s) (h3 : RK hp B n lim j) : RRES hp B n lim r (LR.ok s j) := ⟨h1, h2, h3⟩
theorem RK_nil {t t' : Nat → Nat} {hp hp' : ab_H} {B : Nat → Int} {n lim i : Nat} (H : sf_h t hp) (f : sf_fr [] t hp t' hp') (h : RK hp B n lim i) : RK hp' B n lim i := RK_keep H f rfl rfl (sf_rl_cell (f.2.2.2.1 _ (bs_R.uq H (g := 11) (p := 69) rfl).1 rfl)) h
theorem SR_nil {t t' : Nat → Nat} {hp hp' : ab_H} {s : PS} (H : sf_h t hp) (f : sf_fr [] t hp t' hp') (h : SR hp s) : SR hp' s := SR_fr H f rfl rfl rfl rfl h
theorem RES_nil {t t' : Nat → Nat} {hp hp' : ab_H} (H : sf_h t hp) (f : sf_fr [] t hp t' hp') (h : RES hp) : RES hp' := RES_fr H f rfl h
theorem RK_k {hp : ab_H} {B : Nat → Int} {n lim i : Nat} {x : Int} (h : RK hp B n lim i) (e : sf_rd hp 69 11 = some x) : x = rkk (tok B n lim i).k := Option.some.inj (e.symm.trans h.1.2.2.1)
theorem RK_pl {hp : ab_H} {B : Nat → Int} {n lim i : Nat} (h : RK hp B n lim i) : sf_rd hp 69 12 = some (tok B n lim i).pl := h.1.1
theorem RK_v {hp : ab_H} {B : Nat → Int} {n lim i : Nat} {x : Int} (h : RK hp B n lim i) (k : (tok B n lim i).k = 3) (e : sf_rd hp 69 14 = some x) : x = (tok B n lim i).v := Option.some.inj (e.symm.trans (h.1.2.2.2.1 (by rw [k]; rfl)))
theorem RK_s {hp : ab_H} {B : Nat → Int} {n lim i : Nat} {x : Int} (h : RK hp B n lim i) (k : rkk (tok B n lim i).k = 3) (e : sf_rd hp 69 14 = some x) : x = (tok B n lim i).k := Option.some.inj (e.symm.trans (h.1.2.2.2.2.1 k))
theorem RK_w {hp : ab_H} {B : Nat → Int} {n lim i : Nat} (h : RK hp B n lim i) (k : rkk (tok B n lim i).k = 1) : ∃ w, sf_rl hp 69 17 = some w ∧ w.toInt = (tok B n lim i).v := h.1.2.2.2.2.2 k
theorem SR_load {hp hp' : ab_H} {s : PS} {v : Int} (h : SR hp s) (e : sf_rd hp' 72 2 = some v) (r : ∀ q, q ≠ 2 → sf_rd hp' 72 q = sf_rd hp 72 q) (e2 : sf_rd hp' 69 20 = some 1) (c6 : hp'.2 76 = hp.2 76) (c4 : hp'.2 74 = hp.2 74) : SR hp' (ups s.h 2 v, s.nm, true, s.tl) := by
  obtain ⟨a, b, c, d, f⟩ := h
  refine ⟨fun i hi => ?_, e2, fun w hw => by rw [sf_rd_cell c6]; exact c w hw, fun g hg => by rw [sf_rl_cell c4]; exact d g hg, fun g hg => by rw [sf_rl_cell c4]; exact f g hg⟩
  show _ = some (ups s.h 2 v i)
  by_cases x : i = 2
  · rw [x, ups_eq]
    exact e
  · rw [ups_ne x, r i x]
    exact a i hi
theorem SR_good {hp hp' : ab_H} {s : PS} {v : Int} (h : SR hp s) (h0 : 0 ≤ s.h 0) (h6 : s.h 0 ≤ 5) (e : sf_rd hp' 72 0 = some (s.h 0 + 1)) (r : ∀ q, q ≠ 0 → sf_rd hp' 72 q = sf_rd hp 72 q) (e2 : sf_rd hp' 69 20 = sf_rd hp 69 20) (c6 : hp'.2 76 = hp.2 76) (w1 : ∃ w, sf_rl hp' 74 (14 + (s.h 0).toNat) = some w ∧ w.toInt = v) (rl : ∀ q, q ≠ 14 + (s.h 0).toNat → sf_rl hp' 74 q = sf_rl hp 74 q) : SR hp' (ups s.h 0 (s.h 0 + 1), ups s.nm (s.h 0).toNat v, s.ld, s.tl) := by
  obtain ⟨a, b, c, d, f⟩ := h
  refine ⟨fun i hi => ?_, e2.trans b, fun w hw => by rw [sf_rd_cell c6]; exact c w hw, fun g hg => ?_, fun g hg => ?_⟩
  · show _ = some (ups s.h 0 (s.h 0 + 1) i)
    by_cases x : i = 0
    · rw [x, ups_eq]
      exact e
    · rw [ups_ne x, r i x]
      exact a i hi
  · have hg' : (g : Int) < s.h 0 + 1 := hg
    show ∃ w : Int64, _ ∧ w.toInt = ups s.nm (s.h 0).toNat v g
    by_cases x : g = (s.h 0).toNat
    · rw [x, ups_eq]
      exact w1
    · rw [ups_ne x, rl _ (by omega)]
      exact d g (by omega)
  · show ∃ w : Int64, _ ∧ w.toInt = ups s.nm (s.h 0).toNat v (6 + g)
    rw [ups_ne (by omega), rl _ (by omega)]
    exact f g hg
theorem SR_man {hp hp' : ab_H} {s : PS} {v d0 : Int} (h : SR hp s) (h0 : 0 ≤ s.h 0) (h06 : s.h 0 ≤ 6) (h1 : 0 ≤ s.h 1) (h7 : s.h 1 ≤ 7) (e : sf_rd hp' 72 1 = some (s.h 1 + 1)) (e5 : sf_rd hp' 72 (52 + (s.h 1).toNat) = some d0) (r : ∀ q, q ≠ 1 → q ≠ 52 + (s.h 1).toNat → sf_rd hp' 72 q = sf_rd hp 72 q) (e2 : sf_rd hp' 69 20 = sf_rd hp 69 20) (c6 : hp'.2 76 = hp.2 76) (w1 : ∃ w, sf_rl hp' 74 (20 + (s.h 1).toNat) = some w ∧ w.toInt = v) (rl : ∀ q, q ≠ 20 + (s.h 1).toNat → sf_rl hp' 74 q = sf_rl hp 74 q) : SR hp' (ups (ups s.h (52 + (s.h 1).toNat) d0) 1 (s.h 1 + 1), ups s.nm (6 + (s.h 1).toNat) v, s.ld, s.tl) := by
  obtain ⟨a, b, c, d, f⟩ := h
  refine ⟨fun i hi => ?_, e2.trans b, fun w hw => by rw [sf_rd_cell c6]; exact c w hw, fun g hg => ?_, fun g hg => ?_⟩
  · show _ = some (ups (ups s.h (52 + (s.h 1).toNat) d0) 1 (s.h 1 + 1) i)
    by_cases x : i = 1
    · rw [x, ups_eq]
      exact e
    · rw [ups_ne x]
      by_cases y : i = 52 + (s.h 1).toNat
      · rw [y, ups_eq]
        exact e5
      · rw [ups_ne y, r i x y]
        exact a i hi
  · have hg' : (g : Int) < s.h 0 := by
      have e9 : ups (ups s.h (52 + (s.h 1).toNat) d0) 1 (s.h 1 + 1) 0 = s.h 0 := (ups_ne (by omega)).trans (ups_ne (by omega))
      rw [← e9]
      exact hg
    show ∃ w : Int64, _ ∧ w.toInt = ups s.nm (6 + (s.h 1).toNat) v g
    rw [ups_ne (by omega), rl _ (by omega)]
    exact d g hg'
  · have hg' : (g : Int) < s.h 1 + 1 := hg
    show ∃ w : Int64, _ ∧ w.toInt = ups s.nm (6 + (s.h 1).toNat) v (6 + g)
    by_cases x : g = (s.h 1).toNat
    · rw [x, ups_eq]
      exact w1
    · rw [ups_ne (by omega), rl _ (by omega)]
      exact f g (by omega)
theorem SR_miss {hp hp' : ab_H} {s : PS} {m q d0 : Int} (h : SR hp s) (h3 : 0 ≤ s.h 3) (h19 : s.h 3 ≤ 19) (e : sf_rd hp' 72 3 = some (s.h 3 + 1)) (e6 : sf_rd hp' 72 (60 + (s.h 3).toNat) = some m) (e8 : sf_rd hp' 72 (80 + (s.h 3).toNat) = some q) (e1 : sf_rd hp' 72 (100 + (s.h 3).toNat) = some d0) (r : ∀ i, i ≠ 3 → i ≠ 60 + (s.h 3).toNat → i ≠ 80 + (s.h 3).toNat → i ≠ 100 + (s.h 3).toNat → sf_rd hp' 72 i = sf_rd hp 72 i) (e2 : sf_rd hp' 69 20 = sf_rd hp 69 20) (c6 : hp'.2 76 = hp.2 76) (c4 : hp'.2 74 = hp.2 74) : SR hp' (ups (ups (ups (ups s.h (60 + (s.h 3).toNat) m) (80 + (s.h 3).toNat) q) (100 + (s.h 3).toNat) d0) 3 (s.h 3 + 1), s.nm, s.ld, s.tl) := by
  obtain ⟨a, b, c, d, f⟩ := h
  have U : ∀ i, i ≠ 3 → i ≠ 60 + (s.h 3).toNat → i ≠ 80 + (s.h 3).toNat → i ≠ 100 + (s.h 3).toNat → ups (ups (ups (ups s.h (60 + (s.h 3).toNat) m) (80 + (s.h 3).toNat) q) (100 + (s.h 3).toNat) d0) 3 (s.h 3 + 1) i = s.h i := fun i x1 x2 x3 x4 => (ups_ne x1).trans ((ups_ne x4).trans ((ups_ne x3).trans (ups_ne x2)))
  refine ⟨fun i hi => ?_, e2.trans b, fun w hw => by rw [sf_rd_cell c6]; exact c w hw, fun g hg => ?_, fun g hg => ?_⟩
  · show _ = some (ups (ups (ups (ups s.h (60 + (s.h 3).toNat) m) (80 + (s.h 3).toNat) q) (100 + (s.h 3).toNat) d0) 3 (s.h 3 + 1) i)
    by_cases x : i = 3
    · rw [x, ups_eq]
      exact e
    · by_cases y : i = 100 + (s.h 3).toNat
      · rw [ups_ne x, y, ups_eq]
        exact e1
      · by_cases z : i = 80 + (s.h 3).toNat
        · rw [ups_ne x, ups_ne y, z, ups_eq]
          exact e8
        · by_cases u : i = 60 + (s.h 3).toNat
          · rw [ups_ne x, ups_ne y, ups_ne z, u, ups_eq]
            exact e6
          · rw [U i x u z y, r i x u z y]
            exact a i hi
  · have hg' : (g : Int) < s.h 0 := by
      rw [← U 0 (by omega) (by omega) (by omega) (by omega)]
      exact hg
    rw [sf_rl_cell c4]
    exact d g hg'
  · have hg' : (g : Int) < s.h 1 := by
      rw [← U 1 (by omega) (by omega) (by omega) (by omega)]
      exact hg
    rw [sf_rl_cell c4]
    exact f g hg'
theorem SR_amt {hp hp' : ab_H} {s : PS} {v A : Int} {wh k : Nat} (h : SR hp s) (hw : wh < 4) (hk : k < 12) (e : sf_rd hp' 72 (4 + (12 * wh + k)) = some v) (r : ∀ q, q ≠ 4 + (12 * wh + k) → sf_rd hp' 72 q = sf_rd hp 72 q) (e2 : sf_rd hp' 69 20 = sf_rd hp 69 20) (c4 : hp'.2 74 = hp.2 74) (t1 : sf_rd hp' 76 wh = some A) (tb : ∀ A0, sf_rd hp 76 wh = some A0 → ∀ j, j < 12 → ibit A j = (ibit A0 j || decide (j = k))) (tr : ∀ q, q ≠ wh → sf_rd hp' 76 q = sf_rd hp 76 q) : SR hp' (ups s.h (4 + (12 * wh + k)) v, s.nm, s.ld, ups s.tl (12 * wh + k) true) := by
  obtain ⟨a, b, c, d, f⟩ := h
  have U : ∀ i, i ≠ 4 + (12 * wh + k) → ups s.h (4 + (12 * wh + k)) v i = s.h i := fun i x => ups_ne x
  refine ⟨fun i hi => ?_, e2.trans b, fun w hw2 => ?_, fun g hg => ?_, fun g hg => ?_⟩
  · show _ = some (ups s.h (4 + (12 * wh + k)) v i)
    by_cases x : i = 4 + (12 * wh + k)
    · rw [x, ups_eq]
      exact e
    · rw [ups_ne x, r i x]
      exact a i hi
  · by_cases x : w = wh
    · subst x
      obtain ⟨A0, g1, g2⟩ := c w hw2
      refine ⟨A, t1, fun j hj => ?_⟩
      rw [tb A0 g1 j hj, g2 j hj]
      show _ = ups s.tl (12 * w + k) true (12 * w + j)
      rw [ups_or]
      congr 1
      exact decide_eq_decide.mpr (by omega)
    · obtain ⟨A0, g1, g2⟩ := c w hw2
      refine ⟨A0, (tr w x).trans g1, fun j hj => ?_⟩
      show _ = ups s.tl (12 * wh + k) true (12 * w + j)
      rw [ups_ne (by omega)]
      exact g2 j hj
  · have hg' : (g : Int) < s.h 0 := by
      rw [← U 0 (by omega)]
      exact hg
    rw [sf_rl_cell c4]
    exact d g hg'
  · have hg' : (g : Int) < s.h 1 := by
      rw [← U 1 (by omega)]
      exact hg
    rw [sf_rl_cell c4]
    exact f g hg'
theorem ib_of (x : Int32) (k : Nat) : ibit x.toInt k = x.toBitVec.getLsbD k := by
  unfold ibit
  rw [Int32.ofInt_toInt]
theorem ib_or {A y : Int32} {k j : Nat} {o : Int32} (ho : o.toInt = 1) (hy : y.toInt = (k : Int)) (hk : k < 12) (hj : j < 12) : ibit (A ||| (o <<< (y &&& 31))).toInt j = (ibit A.toInt j || decide (j = k)) := by
  obtain rfl : o = 1 := Int32.toInt_inj.mp ho
  obtain rfl : y = Int32.ofNat k := Int32.toInt_inj.mp (by rw [hy, Int32.toInt_ofNat_of_lt (by omega)])
  have tab : ∀ k, k < 12 → ∀ j, j < 12 → ((1 : Int32) <<< (Int32.ofNat k &&& 31)).toBitVec.getLsbD j = decide (j = k) := by decide +kernel
  rw [ib_of, ib_of, Int32.toBitVec_or, BitVec.getLsbD_or, tab k hk j hj]
theorem px_X11_bitOf {x y : Int32} {hp : ab_H} (h0 : 0 ≤ y.toInt) (h1 : y.toInt < 12) : ∃ z : Int32, Z_X11_bitOf [.int x, .int y] hp = some (some (.int z), hp) ∧ ((z.toInt = 1 ∧ ibit x.toInt y.toInt.toNat = true) ∨ (z.toInt = 0 ∧ ibit x.toInt y.toInt.toNat = false)) := by
  have key : ((x >>> (y &&& 31)) &&& 1).toInt = cond (ibit x.toInt y.toInt.toNat) 1 0 := by
    obtain ⟨k, hk, e⟩ : ∃ k : Nat, k < 12 ∧ y.toInt = (k : Int) := ⟨y.toInt.toNat, by omega, by omega⟩
    obtain rfl : y = Int32.ofNat k := Int32.toInt_inj.mp (by rw [e, Int32.toInt_ofNat_of_lt (by omega)])
    have sm : ∀ k, k < 12 → ((Int32.ofNat k &&& 31).toBitVec.smod 32).toNat = k := by decide +kernel
    rw [ib_of, show (Int32.ofNat k).toInt.toNat = k by omega]
    have es : (x >>> (Int32.ofNat k &&& 31)).toBitVec = x.toBitVec.sshiftRight' ((Int32.ofNat k &&& 31).toBitVec.smod 32) := rfl
    have eb : (x >>> (Int32.ofNat k &&& 31)).toBitVec.getLsbD 0 = x.toBitVec.getLsbD k := by
      rw [es, BitVec.sshiftRight_eq', sm k hk, BitVec.getLsbD_sshiftRight]
      simp only [Nat.add_zero]
      rw [if_pos (by omega)]
      simp
    have ez : (x >>> (Int32.ofNat k &&& 31)) &&& 1 = cond (x.toBitVec.getLsbD k) 1 0 := by
      apply Int32.toBitVec_inj.mp
      apply BitVec.eq_of_getLsbD_eq
      intro i hi
      have o1 : ∀ i, i < 32 → (1 : Int32).toBitVec.getLsbD i = decide (i = 0) := by decide +kernel
      have o0 : ∀ i, i < 32 → (0 : Int32).toBitVec.getLsbD i = false := by decide +kernel
      rw [Int32.toBitVec_and, BitVec.getLsbD_and, o1 i hi]
      by_cases c : i = 0
      · subst c
        rw [eb]
        cases x.toBitVec.getLsbD k
        · exact (o0 0 (by decide)).symm
        · exact (o1 0 (by decide)).symm
      · rw [decide_eq_false c, Bool.and_false]
        cases x.toBitVec.getLsbD k
        · exact (o0 i hi).symm
        · exact ((o1 i hi).trans (decide_eq_false c)).symm
    rw [ez]
    cases x.toBitVec.getLsbD k <;> rfl
  have h : ∃ o, ab_X (ab_T L_X11_bitOf) 2 [.int x, .int y] hp = some o ∧ ∃ z : Int32, o = (some (.int z), hp) ∧ ((z.toInt = 1 ∧ ibit x.toInt y.toInt.toNat = true) ∨ (z.toInt = 0 ∧ ibit x.toInt y.toInt.toNat = false)) := by
    refine ab_X_ev (Nat.le_of_ble_eq_true rfl) ?_
    refine Ev.step (j := 1) (s' := ([some (.int x), some (.int y)], [.int x], (0, 0), hp)) rfl rfl ?_
    refine Ev.step (j := 2) (s' := ([some (.int x), some (.int y)], [.int y, .int x], (0, 0), hp)) rfl rfl ?_
    refine Ev.step (j := 3) (s' := ([some (.int x), some (.int y)], [.int (x >>> (y &&& 31))], (0, 0), hp)) rfl rfl ?_
    refine Ev.step (j := 4) (s' := ([some (.int x), some (.int y)], [.int 1, .int (x >>> (y &&& 31))], (0, 0), hp)) rfl rfl ?_
    refine Ev.step (j := 5) (s' := ([some (.int x), some (.int y)], [.int ((x >>> (y &&& 31)) &&& 1)], (0, 0), hp)) rfl rfl ?_
    refine bs_lit (k := 1) rfl rfl fun z1 h1 => ?_
    refine bs_ne rfl (fun c => ?_) (fun c => ?_)
    · refine bs_lit (k := 0) rfl rfl fun z2 h2 => ?_
      refine bs_zret rfl rfl (by omega) (by omega) ⟨z2, rfl, Or.inr ⟨h2, ?_⟩⟩
      cases hb : ibit x.toInt y.toInt.toNat with
      | false => rfl
      | true =>
        rw [hb] at key
        exact absurd (key.trans h1.symm) c
    · refine bs_lit (k := 1) rfl rfl fun z2 h2 => ?_
      refine Ev.step (j := 14) (s' := ([some (.int x), some (.int y)], [.int z2], (0, 0), hp)) rfl rfl ?_
      refine bs_zret rfl rfl (by omega) (by omega) ⟨z2, rfl, Or.inl ⟨h2, ?_⟩⟩
      cases hb : ibit x.toInt y.toInt.toNat with
      | true => rfl
      | false =>
        rw [hb] at key
        have k0 : ((x >>> (y &&& 31)) &&& 1).toInt = (0 : Int) := key
        omega
  obtain ⟨o, g1, z, rfl, g2⟩ := h
  exact ⟨z, g1, g2⟩
theorem RRES_pos {hp : ab_H} {B : Nat → Int} {n lim : Nat} {z : Int32} {x : LR} (h : RRES hp B n lim (some (.int z)) x) (hz : z.toInt ≠ 0) : ∃ s j, x = LR.ok s j ∧ SR hp s ∧ RK hp B n lim j := by
  cases x with
  | inl p => exact ⟨p.1, p.2, rfl, h.2⟩
  | inr p =>
    obtain ⟨y, e, e2⟩ := h.1
    obtain rfl := Value.int.inj (Option.some.inj e)
    exact absurd e2 hz
theorem RRES_neg {hp : ab_H} {B : Nat → Int} {n lim : Nat} {z : Int32} {x : LR} (h : RRES hp B n lim (some (.int z)) x) (hz : z.toInt ≠ 1) : ∃ f j, x = LR.bad f j ∧ sf_rd hp 69 15 = some f ∧ sf_rd hp 69 16 = some (tok B n lim j).pl := by
  cases x with
  | inl p =>
    obtain ⟨y, e, e2⟩ := h.1
    obtain rfl := Value.int.inj (Option.some.inj e)
    exact absurd e2 hz
  | inr p => exact ⟨p.1, p.2, rfl, h.2⟩
theorem tkq_nx {B : Nat → Int} {n lim q : Nat} : q ≤ (tkq B n lim q).nx := by
  unfold tkq
  split
  · exact Nat.le_refl q
  · split
    · exact Nat.le_refl q
    · split
      · rw [trn_nx]
        exact Nat.le_add_right _ _
      · exact Nat.le_succ q
theorem tps_m1 {B : Nat → Int} {n lim i : Nat} : tps B n lim i ≤ tps B n lim (i + 1) := by
  have h1 := tkq_nx (B := B) (n := n) (lim := lim) (q := tk_e tk_b B n (tps B n lim i))
  have h2 := tk_e_ge (P := tk_b) (B := B) (n := n) (p := tps B n lim i)
  have h3 : tps B n lim (i + 1) = (tkq B n lim (tk_e tk_b B n (tps B n lim i))).nx := rfl
  omega
theorem tps_mono {B : Nat → Int} {n lim i : Nat} : ∀ d, tps B n lim i ≤ tps B n lim (i + d)
  | 0 => Nat.le_refl _
  | d + 1 => Nat.le_trans (tps_mono d) tps_m1
theorem tps_gt {B : Nat → Int} {n lim j : Nat} (h0 : (tok B n lim j).k ≠ 0) (h1 : (tok B n lim j).k ≠ 1) : tps B n lim j + 1 ≤ tps B n lim (j + 1) := by
  have h2 := (tkq_mv (B := B) (n := n) (lim := lim) (q := tk_e tk_b B n (tps B n lim j)) h0 h1).1
  have h3 := tk_e_ge (P := tk_b) (B := B) (n := n) (p := tps B n lim j)
  have h4 : tps B n lim (j + 1) = (tkq B n lim (tk_e tk_b B n (tps B n lim j))).nx := rfl
  omega
theorem SR_0 {hp : ab_H} (h : ∀ i, i < 120 → i ≠ 2 → sf_rd hp 72 i = some 0) (h2 : sf_rd hp 72 2 = some 10) (h20 : sf_rd hp 69 20 = some 0) (ht : ∀ w, w < 4 → sf_rd hp 76 w = some 0) : SR hp s0 := by
  refine ⟨fun i hi => ?_, h20, fun w hw => ⟨0, ht w hw, fun k hk => ?_⟩, fun g hg => absurd (show (g : Int) < 0 from hg) (by omega), fun g hg => absurd (show (g : Int) < 0 from hg) (by omega)⟩
  · by_cases c : i = 2
    · rw [c]
      exact h2
    · rw [s0_h c]
      exact h i hi c
  · have tab : ∀ k, k < 12 → ibit 0 k = false := by decide +kernel
    exact tab k hk
