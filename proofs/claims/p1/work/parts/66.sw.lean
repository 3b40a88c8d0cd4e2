/-! ===== the law's switch ===== -/
theorem lw_mask (x : Int32) : ∃ k, k < 64 ∧ x &&& 63 = Int32.ofNat k := by
  refine ⟨x.toBitVec.toNat % 64, Nat.mod_lt _ (by decide), ?_⟩
  apply Int32.toBitVec_inj.1
  show x.toBitVec &&& 63#32 = BitVec.ofNat 32 (x.toBitVec.toNat % 64)
  apply BitVec.eq_of_toNat_eq
  rw [BitVec.toNat_and, BitVec.toNat_ofNat]
  show x.toBitVec.toNat &&& (2 ^ 6 - 1) = _
  rw [Nat.and_two_pow_sub_one_eq_mod]
  exact (Nat.mod_eq_of_lt (Nat.lt_of_lt_of_le (Nat.mod_lt _ (by decide)) (by decide))).symm
def lw_ts : List Nat := [220, 293, 318, 331, 344, 393, 430, 498, 535, 560, 609, 658, 707, 732, 757, 770, 795, 820, 833, 858, 883, 920, 981, 1018, 1043, 1056, 1069, 1118, 1131, 1168, 1181, 1194, 1219, 1256, 1305, 1330, 1355, 1368, 1393, 1418, 1443]
set_option maxRecDepth 100000 in
theorem law_sw (xs : Nat → Int32) (ho : ∀ k t : Nat, lw_ts[k]? = some t → Ev (LT xs 6) t (LO 0, [], (88, 8872), H0) (fun _ => True)) : Ev (LT xs 6) 23 (LO 0, [], (88, 8872), H0) (fun _ => True) := by
  refine Ev.step rfl rfl ?_
  refine Ev.step rfl rfl ?_
  refine Ev.step rfl rfl ?_
  refine Ev.step rfl rfl ?_
  refine Ev.step rfl rfl ?_
  refine Ev.step rfl rfl ?_
  refine Ev.step rfl rfl ?_
  refine Ev.step rfl rfl ?_
  refine Ev.step rfl rfl ?_
  refine Ev.step rfl rfl ?_
  refine Ev.step rfl rfl ?_
  refine (show Ev (LT xs 6) 40 (LO 0, [.int (xs 0 &&& 63)], (88, 8872), H0) (fun _ => True) from ?_)
  obtain ⟨k, hk, h⟩ := lw_mask (xs 0)
  rw [h]
  match k, hk with
  | 0, _ => exact Ev.step rfl rfl (ho 0 220 rfl)
  | 1, _ => exact Ev.step rfl rfl (ho 1 293 rfl)
  | 2, _ => exact Ev.step rfl rfl (ho 2 318 rfl)
  | 3, _ => exact Ev.step rfl rfl (ho 3 331 rfl)
  | 4, _ => exact Ev.step rfl rfl (ho 4 344 rfl)
  | 5, _ => exact Ev.step rfl rfl (ho 5 393 rfl)
  | 6, _ => exact Ev.step rfl rfl (ho 6 430 rfl)
  | 7, _ => exact Ev.step rfl rfl (ho 7 498 rfl)
  | 8, _ => exact Ev.step rfl rfl (ho 8 535 rfl)
  | 9, _ => exact Ev.step rfl rfl (ho 9 560 rfl)
  | 10, _ => exact Ev.step rfl rfl (ho 10 609 rfl)
  | 11, _ => exact Ev.step rfl rfl (ho 11 658 rfl)
  | 12, _ => exact Ev.step rfl rfl (ho 12 707 rfl)
  | 13, _ => exact Ev.step rfl rfl (ho 13 732 rfl)
  | 14, _ => exact Ev.step rfl rfl (ho 14 757 rfl)
  | 15, _ => exact Ev.step rfl rfl (ho 15 770 rfl)
  | 16, _ => exact Ev.step rfl rfl (ho 16 795 rfl)
  | 17, _ => exact Ev.step rfl rfl (ho 17 820 rfl)
  | 18, _ => exact Ev.step rfl rfl (ho 18 833 rfl)
  | 19, _ => exact Ev.step rfl rfl (ho 19 858 rfl)
  | 20, _ => exact Ev.step rfl rfl (ho 20 883 rfl)
  | 21, _ => exact Ev.step rfl rfl (ho 21 920 rfl)
  | 22, _ => exact Ev.step rfl rfl (ho 22 981 rfl)
  | 23, _ => exact Ev.step rfl rfl (ho 23 1018 rfl)
  | 24, _ => exact Ev.step rfl rfl (ho 24 1043 rfl)
  | 25, _ => exact Ev.step rfl rfl (ho 25 1056 rfl)
  | 26, _ => exact Ev.step rfl rfl (ho 26 1069 rfl)
  | 27, _ => exact Ev.step rfl rfl (ho 27 1118 rfl)
  | 28, _ => exact Ev.step rfl rfl (ho 28 1131 rfl)
  | 29, _ => exact Ev.step rfl rfl (ho 29 1168 rfl)
  | 30, _ => exact Ev.step rfl rfl (ho 30 1181 rfl)
  | 31, _ => exact Ev.step rfl rfl (ho 31 1194 rfl)
  | 32, _ => exact Ev.step rfl rfl (ho 32 1219 rfl)
  | 33, _ => exact Ev.step rfl rfl (ho 33 1256 rfl)
  | 34, _ => exact Ev.step rfl rfl (ho 34 1305 rfl)
  | 35, _ => exact Ev.step rfl rfl (ho 35 1330 rfl)
  | 36, _ => exact Ev.step rfl rfl (ho 36 1355 rfl)
  | 37, _ => exact Ev.step rfl rfl (ho 37 1368 rfl)
  | 38, _ => exact Ev.step rfl rfl (ho 38 1393 rfl)
  | 39, _ => exact Ev.step rfl rfl (ho 39 1418 rfl)
  | 40, _ => exact Ev.step rfl rfl (ho 40 1443 rfl)
  | 41, _ => exact Ev.step rfl rfl (law_next xs (u := (88, 8872)) (hp := H0) (by decide) (by decide))
  | 42, _ => exact Ev.step rfl rfl (law_next xs (u := (88, 8872)) (hp := H0) (by decide) (by decide))
  | 43, _ => exact Ev.step rfl rfl (law_next xs (u := (88, 8872)) (hp := H0) (by decide) (by decide))
  | 44, _ => exact Ev.step rfl rfl (law_next xs (u := (88, 8872)) (hp := H0) (by decide) (by decide))
  | 45, _ => exact Ev.step rfl rfl (law_next xs (u := (88, 8872)) (hp := H0) (by decide) (by decide))
  | 46, _ => exact Ev.step rfl rfl (law_next xs (u := (88, 8872)) (hp := H0) (by decide) (by decide))
  | 47, _ => exact Ev.step rfl rfl (law_next xs (u := (88, 8872)) (hp := H0) (by decide) (by decide))
  | 48, _ => exact Ev.step rfl rfl (law_next xs (u := (88, 8872)) (hp := H0) (by decide) (by decide))
  | 49, _ => exact Ev.step rfl rfl (law_next xs (u := (88, 8872)) (hp := H0) (by decide) (by decide))
  | 50, _ => exact Ev.step rfl rfl (law_next xs (u := (88, 8872)) (hp := H0) (by decide) (by decide))
  | 51, _ => exact Ev.step rfl rfl (law_next xs (u := (88, 8872)) (hp := H0) (by decide) (by decide))
  | 52, _ => exact Ev.step rfl rfl (law_next xs (u := (88, 8872)) (hp := H0) (by decide) (by decide))
  | 53, _ => exact Ev.step rfl rfl (law_next xs (u := (88, 8872)) (hp := H0) (by decide) (by decide))
  | 54, _ => exact Ev.step rfl rfl (law_next xs (u := (88, 8872)) (hp := H0) (by decide) (by decide))
  | 55, _ => exact Ev.step rfl rfl (law_next xs (u := (88, 8872)) (hp := H0) (by decide) (by decide))
  | 56, _ => exact Ev.step rfl rfl (law_next xs (u := (88, 8872)) (hp := H0) (by decide) (by decide))
  | 57, _ => exact Ev.step rfl rfl (law_next xs (u := (88, 8872)) (hp := H0) (by decide) (by decide))
  | 58, _ => exact Ev.step rfl rfl (law_next xs (u := (88, 8872)) (hp := H0) (by decide) (by decide))
  | 59, _ => exact Ev.step rfl rfl (law_next xs (u := (88, 8872)) (hp := H0) (by decide) (by decide))
  | 60, _ => exact Ev.step rfl rfl (law_next xs (u := (88, 8872)) (hp := H0) (by decide) (by decide))
  | 61, _ => exact Ev.step rfl rfl (law_next xs (u := (88, 8872)) (hp := H0) (by decide) (by decide))
  | 62, _ => exact Ev.step rfl rfl (law_next xs (u := (88, 8872)) (hp := H0) (by decide) (by decide))
  | 63, _ => exact Ev.step rfl rfl (law_next xs (u := (88, 8872)) (hp := H0) (by decide) (by decide))
  | k + 64, h => exact absurd h (by omega)
theorem law_run (xs : Nat → Int32) (n : Nat) (hn : n ≤ 6) (ho : ∀ k t : Nat, lw_ts[k]? = some t → Ev (LT xs 6) t (LO 0, [], (88, 8872), H0) (fun _ => True)) : ∃ (f : Nat) (o : ab_O), ab_run (ab_T (LZ_law xs n)) f 0 (ab_en 7 [.retAddr 0], [], (0, 0), (0, ab_h0)) = some o := by
  have h : Ev (LT xs n) 0 (ab_en 7 [.retAddr 0], [], (0, 0), (0, ab_h0)) (fun _ => True) := by
    refine law_pre xs n ?_
    match n, hn with
    | 0, _ =>
      refine Ev.step rfl rfl ?_
      refine Ev.step rfl rfl ?_
      refine Ev.step rfl rfl ?_
      refine Ev.step rfl rfl ?_
      refine Ev.step rfl rfl ?_
      refine Ev.step rfl rfl ?_
      exact law_out xs 0 (u := (88, 8872)) (hp := H0) (by decide) (by decide)
    | 1, _ =>
      refine Ev.step rfl rfl ?_
      refine Ev.step rfl rfl ?_
      refine Ev.step rfl rfl ?_
      refine Ev.step rfl rfl ?_
      refine Ev.step rfl rfl ?_
      refine Ev.step rfl rfl ?_
      exact law_out xs 1 (u := (88, 8872)) (hp := H0) (by decide) (by decide)
    | 2, _ =>
      refine Ev.step rfl rfl ?_
      refine Ev.step rfl rfl ?_
      refine Ev.step rfl rfl ?_
      refine Ev.step rfl rfl ?_
      refine Ev.step rfl rfl ?_
      refine Ev.step rfl rfl ?_
      exact law_out xs 2 (u := (88, 8872)) (hp := H0) (by decide) (by decide)
    | 3, _ =>
      refine Ev.step rfl rfl ?_
      refine Ev.step rfl rfl ?_
      refine Ev.step rfl rfl ?_
      refine Ev.step rfl rfl ?_
      refine Ev.step rfl rfl ?_
      refine Ev.step rfl rfl ?_
      exact law_out xs 3 (u := (88, 8872)) (hp := H0) (by decide) (by decide)
    | 4, _ =>
      refine Ev.step rfl rfl ?_
      refine Ev.step rfl rfl ?_
      refine Ev.step rfl rfl ?_
      refine Ev.step rfl rfl ?_
      refine Ev.step rfl rfl ?_
      refine Ev.step rfl rfl ?_
      exact law_out xs 4 (u := (88, 8872)) (hp := H0) (by decide) (by decide)
    | 5, _ =>
      refine Ev.step rfl rfl ?_
      refine Ev.step rfl rfl ?_
      refine Ev.step rfl rfl ?_
      refine Ev.step rfl rfl ?_
      refine Ev.step rfl rfl ?_
      refine Ev.step rfl rfl ?_
      exact law_out xs 5 (u := (88, 8872)) (hp := H0) (by decide) (by decide)
    | 6, _ => exact law_sw xs ho
    | k + 7, h => exact absurd h (by omega)
  obtain ⟨f, o, h1, -⟩ := h
  exact ⟨f, o, h1⟩
