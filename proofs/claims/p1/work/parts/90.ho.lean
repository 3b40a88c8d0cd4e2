/-! ===== every operation ===== -/
theorem ho_feed (xs : Nat → Int32) : Ev (LT xs 6) 220 (LO 0, [], (88, 8872), H0) (fun _ => True) := by
  exact op_feed xs (c_feed (xs 1) (xs 2) (xs 3) (xs 4) (xs 5)) (fun m g => m_feed (xs 1) (xs 2) (xs 3) (xs 4) (xs 5) m g)
theorem ho_end (xs : Nat → Int32) : Ev (LT xs 6) 293 (LO 0, [], (88, 8872), H0) (fun _ => True) := by
  by_cases h0 : xs 1 = 0
  · exact op_end xs (by rw [h0]; exact c_end_0) (fun m g => by rw [h0]; exact m_end_0 m g)
  exact op_end xs (c_end_n h0) (fun m g => m_end_n h0 m g)
theorem ho_strait (xs : Nat → Int32) : Ev (LT xs 6) 318 (LO 0, [], (88, 8872), H0) (fun _ => True) := by
  exact op_strait xs (c_strait ) (fun m g => m_strait  m g)
theorem ho_fault (xs : Nat → Int32) : Ev (LT xs 6) 331 (LO 0, [], (88, 8872), H0) (fun _ => True) := by
  exact op_fault xs (c_fault ) (fun m g => m_fault  m g)
theorem ho_good (xs : Nat → Int32) : Ev (LT xs 6) 344 (LO 0, [], (88, 8872), H0) (fun _ => True) := by
  exact op_good xs (c_good (xs 1) (xs 2) (xs 3)) (fun m g => m_good (xs 1) (xs 2) (xs 3) m g)
theorem ho_crossed (xs : Nat → Int32) : Ev (LT xs 6) 393 (LO 0, [], (88, 8872), H0) (fun _ => True) := by
  exact op_crossed xs (c_crossed (xs 1) (xs 2)) (fun m g => m_crossed (xs 1) (xs 2) m g)
theorem ho_apart (xs : Nat → Int32) : Ev (LT xs 6) 498 (LO 0, [], (88, 8872), H0) (fun _ => True) := by
  exact op_apart xs (c_apart (xs 1) (xs 2)) (fun m g => m_apart (xs 1) (xs 2) m g)
theorem ho_now (xs : Nat → Int32) : Ev (LT xs 6) 535 (LO 0, [], (88, 8872), H0) (fun _ => True) := by
  by_cases h : 0 ≤ xs 1 ∧ xs 1 < 7
  · rcases i_lt7 h.1 h.2 with h | h | h | h | h | h | h
    · exact op_now xs (by rw [h]; exact c_now_0) (fun m g => by rw [h]; exact m_now_0 m g)
    · exact op_now xs (by rw [h]; exact c_now_1) (fun m g => by rw [h]; exact m_now_1 m g)
    · exact op_now xs (by rw [h]; exact c_now_2) (fun m g => by rw [h]; exact m_now_2 m g)
    · exact op_now xs (by rw [h]; exact c_now_3) (fun m g => by rw [h]; exact m_now_3 m g)
    · exact op_now xs (by rw [h]; exact c_now_4) (fun m g => by rw [h]; exact m_now_4 m g)
    · exact op_now xs (by rw [h]; exact c_now_5) (fun m g => by rw [h]; exact m_now_5 m g)
    · exact op_now xs (by rw [h]; exact c_now_6) (fun m g => by rw [h]; exact m_now_6 m g)
  exact op_now xs (c_now_n h) (fun m g => m_now_n h m g)
theorem ho_hoard (xs : Nat → Int32) : Ev (LT xs 6) 560 (LO 0, [], (88, 8872), H0) (fun _ => True) := by
  exact op_hoard xs (c_hoard (xs 1) (xs 2) (xs 3)) (fun m g => m_hoard (xs 1) (xs 2) (xs 3) m g)
theorem ho_bare (xs : Nat → Int32) : Ev (LT xs 6) 609 (LO 0, [], (88, 8872), H0) (fun _ => True) := by
  exact op_bare xs (c_bare (xs 1) (xs 2) (xs 3)) (fun m g => m_bare (xs 1) (xs 2) (xs 3) m g)
theorem ho_waste (xs : Nat → Int32) : Ev (LT xs 6) 658 (LO 0, [], (88, 8872), H0) (fun _ => True) := by
  exact op_waste xs (c_waste (xs 1) (xs 2) (xs 3)) (fun m g => m_waste (xs 1) (xs 2) (xs 3) m g)
theorem ho_die (xs : Nat → Int32) : Ev (LT xs 6) 707 (LO 0, [], (88, 8872), H0) (fun _ => True) := by
  exact op_die xs (c_die (xs 1)) (fun m g => m_die (xs 1) m g)
theorem ho_days (xs : Nat → Int32) : Ev (LT xs 6) 732 (LO 0, [], (88, 8872), H0) (fun _ => True) := by
  by_cases h : 1 ≤ xs 1 ∧ xs 1 ≤ 60
  · obtain ⟨c, h1, h2, hc⟩ := i_160 h.1 h.2
    exact op_days xs (by rw [hc]; exact c_days_c h1 h2) (fun m g => by rw [hc]; exact m_days_c h1 h2 m g)
  exact op_days xs (c_days_n h) (fun m g => m_days_n h m g)
theorem ho_undo (xs : Nat → Int32) : Ev (LT xs 6) 757 (LO 0, [], (88, 8872), H0) (fun _ => True) := by
  exact op_undo xs (c_undo ) (fun m g => m_undo  m g)
theorem ho_lacks (xs : Nat → Int32) : Ev (LT xs 6) 770 (LO 0, [], (88, 8872), H0) (fun _ => True) := by
  by_cases h0 : xs 1 = 0
  · exact op_lacks xs (by rw [h0]; exact c_lacks_0) (fun m g => by rw [h0]; exact m_lacks_0 m g)
  by_cases h1 : xs 1 = 1
  · exact op_lacks xs (by rw [h1]; exact c_lacks_1) (fun m g => by rw [h1]; exact m_lacks_1 m g)
  exact op_lacks xs (c_lacks_n h0 h1) (fun m g => m_lacks_n h0 h1 m g)
theorem ho_falses (xs : Nat → Int32) : Ev (LT xs 6) 795 (LO 0, [], (88, 8872), H0) (fun _ => True) := by
  by_cases h0 : xs 1 = 0
  · exact op_falses xs (by rw [h0]; exact c_falses_0) (fun m g => by rw [h0]; exact m_falses_0 m g)
  by_cases h1 : xs 1 = 1
  · exact op_falses xs (by rw [h1]; exact c_falses_1) (fun m g => by rw [h1]; exact m_falses_1 m g)
  exact op_falses xs (c_falses_n h0 h1) (fun m g => m_falses_n h0 h1 m g)
theorem ho_going (xs : Nat → Int32) : Ev (LT xs 6) 820 (LO 0, [], (88, 8872), H0) (fun _ => True) := by
  exact op_going xs (c_going ) (fun m g => m_going  m g)
theorem ho_goes (xs : Nat → Int32) : Ev (LT xs 6) 833 (LO 0, [], (88, 8872), H0) (fun _ => True) := by
  exact op_goes xs (c_goes (xs 1)) (fun m g => m_goes (xs 1) m g)
theorem ho_crosses (xs : Nat → Int32) : Ev (LT xs 6) 858 (LO 0, [], (88, 8872), H0) (fun _ => True) := by
  exact op_crosses xs (c_crosses (xs 1)) (fun m g => m_crosses (xs 1) m g)
theorem ho_comes (xs : Nat → Int32) : Ev (LT xs 6) 883 (LO 0, [], (88, 8872), H0) (fun _ => True) := by
  exact op_comes xs (c_comes (xs 1) (xs 2)) (fun m g => m_comes (xs 1) (xs 2) m g)
theorem ho_without (xs : Nat → Int32) : Ev (LT xs 6) 920 (LO 0, [], (88, 8872), H0) (fun _ => True) := by
  exact op_without xs (c_without (xs 1) (xs 2) (xs 3) (xs 4)) (fun m g => m_without (xs 1) (xs 2) (xs 3) (xs 4) m g)
theorem ho_meet (xs : Nat → Int32) : Ev (LT xs 6) 981 (LO 0, [], (88, 8872), H0) (fun _ => True) := by
  exact op_meet xs (c_meet (xs 1) (xs 2)) (fun m g => m_meet (xs 1) (xs 2) m g)
theorem ho_loads (xs : Nat → Int32) : Ev (LT xs 6) 1018 (LO 0, [], (88, 8872), H0) (fun _ => True) := by
  by_cases h : 1 ≤ xs 1 ∧ xs 1 ≤ 60
  · obtain ⟨c, h1, h2, hc⟩ := i_160 h.1 h.2
    exact op_loads xs (by rw [hc]; exact c_loads_c h1 h2) (fun m g => by rw [hc]; exact m_loads_c h1 h2 m g)
  exact op_loads xs (c_loads_n h) (fun m g => m_loads_n h m g)
theorem ho_which (xs : Nat → Int32) : Ev (LT xs 6) 1043 (LO 0, [], (88, 8872), H0) (fun _ => True) := by
  exact op_which xs (c_which ) (fun m g => m_which  m g)
theorem ho_settles (xs : Nat → Int32) : Ev (LT xs 6) 1056 (LO 0, [], (88, 8872), H0) (fun _ => True) := by
  exact op_settles xs (c_settles ) (fun m g => m_settles  m g)
theorem ho_hunger (xs : Nat → Int32) : Ev (LT xs 6) 1069 (LO 0, [], (88, 8872), H0) (fun _ => True) := by
  exact op_hunger xs (c_hunger (xs 1) (xs 2) (xs 3)) (fun m g => m_hunger (xs 1) (xs 2) (xs 3) m g)
theorem ho_prices (xs : Nat → Int32) : Ev (LT xs 6) 1118 (LO 0, [], (88, 8872), H0) (fun _ => True) := by
  exact op_prices xs (c_prices ) (fun m g => m_prices  m g)
theorem ho_price (xs : Nat → Int32) : Ev (LT xs 6) 1131 (LO 0, [], (88, 8872), H0) (fun _ => True) := by
  exact op_price xs (c_price (xs 1) (xs 2)) (fun m g => m_price (xs 1) (xs 2) m g)
theorem ho_dearest (xs : Nat → Int32) : Ev (LT xs 6) 1168 (LO 0, [], (88, 8872), H0) (fun _ => True) := by
  exact op_dearest xs (c_dearest ) (fun m g => m_dearest  m g)
theorem ho_rats (xs : Nat → Int32) : Ev (LT xs 6) 1181 (LO 0, [], (88, 8872), H0) (fun _ => True) := by
  exact op_rats xs (c_rats ) (fun m g => m_rats  m g)
theorem ho_hoarded (xs : Nat → Int32) : Ev (LT xs 6) 1194 (LO 0, [], (88, 8872), H0) (fun _ => True) := by
  by_cases h0 : xs 1 = 0
  · exact op_hoarded xs (by rw [h0]; exact c_hoarded_0) (fun m g => by rw [h0]; exact m_hoarded_0 m g)
  by_cases h1 : xs 1 = 1
  · exact op_hoarded xs (by rw [h1]; exact c_hoarded_1) (fun m g => by rw [h1]; exact m_hoarded_1 m g)
  exact op_hoarded xs (c_hoarded_n h0 h1) (fun m g => m_hoarded_n h0 h1 m g)
theorem ho_drawn (xs : Nat → Int32) : Ev (LT xs 6) 1219 (LO 0, [], (88, 8872), H0) (fun _ => True) := by
  exact op_drawn xs (c_drawn (xs 1) (xs 2)) (fun m g => m_drawn (xs 1) (xs 2) m g)
theorem ho_odds (xs : Nat → Int32) : Ev (LT xs 6) 1256 (LO 0, [], (88, 8872), H0) (fun _ => True) := by
  exact op_odds xs (c_odds (xs 1) (xs 2) (xs 3)) (fun m g => m_odds (xs 1) (xs 2) (xs 3) m g)
theorem ho_log (xs : Nat → Int32) : Ev (LT xs 6) 1305 (LO 0, [], (88, 8872), H0) (fun _ => True) := by
  by_cases h0 : xs 1 = 0
  · exact op_log xs (by rw [h0]; exact c_log_0) (fun m g => by rw [h0]; exact m_log_0 m g)
  by_cases h1 : xs 1 = 1
  · exact op_log xs (by rw [h1]; exact c_log_1) (fun m g => by rw [h1]; exact m_log_1 m g)
  exact op_log xs (c_log_n h0 h1) (fun m g => m_log_n h0 h1 m g)
theorem ho_logged (xs : Nat → Int32) : Ev (LT xs 6) 1330 (LO 0, [], (88, 8872), H0) (fun _ => True) := by
  exact op_logged xs (c_logged (xs 1)) (fun m g => m_logged (xs 1) m g)
theorem ho_sentence (xs : Nat → Int32) : Ev (LT xs 6) 1355 (LO 0, [], (88, 8872), H0) (fun _ => True) := by
  exact op_sentence xs (c_sentence ) (fun m g => m_sentence  m g)
theorem ho_said (xs : Nat → Int32) : Ev (LT xs 6) 1368 (LO 0, [], (88, 8872), H0) (fun _ => True) := by
  exact op_said xs (c_said (xs 1)) (fun m g => m_said (xs 1) m g)
theorem ho_image (xs : Nat → Int32) : Ev (LT xs 6) 1393 (LO 0, [], (88, 8872), H0) (fun _ => True) := by
  by_cases h0 : xs 1 = 0
  · exact op_image xs (by rw [h0]; exact c_image_0) (fun m g => by rw [h0]; exact m_image_0 m g)
  by_cases h1 : xs 1 = 1
  · exact op_image xs (by rw [h1]; exact c_image_1) (fun m g => by rw [h1]; exact m_image_1 m g)
  exact op_image xs (c_image_n h0 h1) (fun m g => m_image_n h0 h1 m g)
theorem ho_restore (xs : Nat → Int32) : Ev (LT xs 6) 1418 (LO 0, [], (88, 8872), H0) (fun _ => True) := by
  by_cases h0 : xs 1 = 0
  · exact op_restore xs (by rw [h0]; exact c_restore_0) (fun m g => by rw [h0]; exact m_restore_0 m g)
  by_cases h1 : xs 1 = 1
  · exact op_restore xs (by rw [h1]; exact c_restore_1) (fun m g => by rw [h1]; exact m_restore_1 m g)
  exact op_restore xs (c_restore_n h0 h1) (fun m g => m_restore_n h0 h1 m g)
theorem ho_count (xs : Nat → Int32) : Ev (LT xs 6) 1443 (LO 0, [], (88, 8872), H0) (fun _ => True) := by
  by_cases h : 0 ≤ xs 1 ∧ xs 1 < 5
  · rcases i_lt5 (decide_eq_false (Int32.not_lt.mpr h.1)) h.2 with h | h | h | h | h
    · exact op_count xs (by rw [h]; exact c_count_0) (fun m g => by rw [h]; exact m_count_0 m g)
    · exact op_count xs (by rw [h]; exact c_count_1) (fun m g => by rw [h]; exact m_count_1 m g)
    · exact op_count xs (by rw [h]; exact c_count_2) (fun m g => by rw [h]; exact m_count_2 m g)
    · exact op_count xs (by rw [h]; exact c_count_3) (fun m g => by rw [h]; exact m_count_3 m g)
    · exact op_count xs (by rw [h]; exact c_count_4) (fun m g => by rw [h]; exact m_count_4 m g)
  exact op_count xs (c_count_n h) (fun m g => m_count_n h m g)
theorem ho_man (xs : Nat → Int32) : Ev (LT xs 6) 430 (LO 0, [], (88, 8872), H0) (fun _ => True) := op_man xs
theorem ho_all (xs : Nat → Int32) : ∀ k t : Nat, lw_ts[k]? = some t → Ev (LT xs 6) t (LO 0, [], (88, 8872), H0) (fun _ => True) := by
  intro k t h
  match k, h with
  | 0, h => exact (Option.some.inj h) ▸ ho_feed xs
  | 1, h => exact (Option.some.inj h) ▸ ho_end xs
  | 2, h => exact (Option.some.inj h) ▸ ho_strait xs
  | 3, h => exact (Option.some.inj h) ▸ ho_fault xs
  | 4, h => exact (Option.some.inj h) ▸ ho_good xs
  | 5, h => exact (Option.some.inj h) ▸ ho_crossed xs
  | 6, h => exact (Option.some.inj h) ▸ ho_man xs
  | 7, h => exact (Option.some.inj h) ▸ ho_apart xs
  | 8, h => exact (Option.some.inj h) ▸ ho_now xs
  | 9, h => exact (Option.some.inj h) ▸ ho_hoard xs
  | 10, h => exact (Option.some.inj h) ▸ ho_bare xs
  | 11, h => exact (Option.some.inj h) ▸ ho_waste xs
  | 12, h => exact (Option.some.inj h) ▸ ho_die xs
  | 13, h => exact (Option.some.inj h) ▸ ho_days xs
  | 14, h => exact (Option.some.inj h) ▸ ho_undo xs
  | 15, h => exact (Option.some.inj h) ▸ ho_lacks xs
  | 16, h => exact (Option.some.inj h) ▸ ho_falses xs
  | 17, h => exact (Option.some.inj h) ▸ ho_going xs
  | 18, h => exact (Option.some.inj h) ▸ ho_goes xs
  | 19, h => exact (Option.some.inj h) ▸ ho_crosses xs
  | 20, h => exact (Option.some.inj h) ▸ ho_comes xs
  | 21, h => exact (Option.some.inj h) ▸ ho_without xs
  | 22, h => exact (Option.some.inj h) ▸ ho_meet xs
  | 23, h => exact (Option.some.inj h) ▸ ho_loads xs
  | 24, h => exact (Option.some.inj h) ▸ ho_which xs
  | 25, h => exact (Option.some.inj h) ▸ ho_settles xs
  | 26, h => exact (Option.some.inj h) ▸ ho_hunger xs
  | 27, h => exact (Option.some.inj h) ▸ ho_prices xs
  | 28, h => exact (Option.some.inj h) ▸ ho_price xs
  | 29, h => exact (Option.some.inj h) ▸ ho_dearest xs
  | 30, h => exact (Option.some.inj h) ▸ ho_rats xs
  | 31, h => exact (Option.some.inj h) ▸ ho_hoarded xs
  | 32, h => exact (Option.some.inj h) ▸ ho_drawn xs
  | 33, h => exact (Option.some.inj h) ▸ ho_odds xs
  | 34, h => exact (Option.some.inj h) ▸ ho_log xs
  | 35, h => exact (Option.some.inj h) ▸ ho_logged xs
  | 36, h => exact (Option.some.inj h) ▸ ho_sentence xs
  | 37, h => exact (Option.some.inj h) ▸ ho_said xs
  | 38, h => exact (Option.some.inj h) ▸ ho_image xs
  | 39, h => exact (Option.some.inj h) ▸ ho_restore xs
  | 40, h => exact (Option.some.inj h) ▸ ho_count xs
  | k + 41, h => cases h
theorem whole_start {p : Program} {e : Env} {s : State} {m : MethodId} {below : List Frame} {meth : Method} {c : Code} (l : Launch) (htr : l.stackTraces = false) {b L : Nat} {xs : Nat → Int32} (hL : L ≤ 6) (C0 : lw_At p s m meth c b L xs) : W p l e room_1 s m #[Value.ref b] below meth c s.heap [] 0 0 (lw_Z below #[Value.ref b] s) (entryFrame m ([Value.ref b] : List Value).toArray 7) :=
  start_of l htr C0 (law_run xs L hL (ho_all xs))
