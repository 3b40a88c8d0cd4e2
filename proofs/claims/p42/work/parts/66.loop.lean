/-! ===== the law's run ===== -/
set_option maxRecDepth 100000 in
set_option maxHeartbeats 4000000 in
theorem law_pre (xs : Nat → Int32) (n : Nat) {Q : ab_O → Prop} (h : Ev (LT xs n) 23 ([some (.retAddr 0), some (.ref 0), some (.ref 69), some (.ref 87), some (.int 0), none, none], [], (88, 8872), H0) Q) : Ev (LT xs n) 0 (ab_en 7 [.retAddr 0], [], (0, 0), (0, ab_h0)) Q := by
  unfold LT at *
  refine Ev.step rfl rfl ?_
  refine Ev.step rfl rfl ?_
  refine Ev.call rfl rfl fr_X10 ?_
  refine Ev.step rfl rfl ?_
  refine Ev.step rfl rfl ?_
  refine Ev.step rfl rfl ?_
  refine Ev.call rfl rfl fr_X11 ?_
  refine Ev.step rfl rfl ?_
  refine Ev.step rfl rfl ?_
  refine Ev.step rfl rfl ?_
  refine Ev.step rfl rfl ?_
  refine Ev.step rfl rfl ?_
  refine Ev.step rfl rfl ?_
  rw [← fr_out] at h
  exact h
theorem lw_eq0 : lw_eq H0 := ⟨⟨⟨0, rfl, rfl, by decide, by decide, fun q hq => absurd hq (by omega)⟩, fun k hk => match k, hk with
  | 0, _ => ⟨_, rfl, by decide⟩
  | 1, _ => ⟨_, rfl, by decide⟩
  | 2, _ => ⟨_, rfl, by decide⟩
  | 3, _ => ⟨_, rfl, by decide⟩
  | 4, _ => ⟨_, rfl, by decide⟩
  | 5, _ => ⟨_, rfl, by decide⟩
  | 6, _ => ⟨_, rfl, by decide⟩
  | 7, _ => ⟨_, rfl, by decide⟩
  | 8, _ => ⟨_, rfl, by decide⟩
  | 9, _ => ⟨_, rfl, by decide⟩
  | 10, _ => ⟨_, rfl, by decide⟩
  | 11, _ => ⟨_, rfl, by decide⟩
  | 12, _ => ⟨_, rfl, by decide⟩
  | 13, _ => ⟨_, rfl, by decide⟩
  | 14, _ => ⟨_, rfl, by decide⟩
  | 15, _ => ⟨_, rfl, by decide⟩
  | 16, _ => ⟨_, rfl, by decide⟩
  | 17, _ => ⟨_, rfl, by decide⟩
  | 18, _ => ⟨_, rfl, by decide⟩
  | 19, _ => ⟨_, rfl, by decide⟩
  | 20, _ => ⟨_, rfl, by decide⟩
  | 21, _ => ⟨_, rfl, by decide⟩
  | 22, _ => ⟨_, rfl, by decide⟩
  | 23, _ => ⟨_, rfl, by decide⟩
  | 24, _ => ⟨_, rfl, by decide⟩
  | k + 25, h => absurd h (by omega)⟩, cx00⟩
set_option maxRecDepth 100000 in
set_option maxHeartbeats 4000000 in
theorem law_loop (xs : Nat → Int32) (n : Nat) (hn : n ≤ 3072) : Ev (LT xs n) 23 ([some (.retAddr 0), some (.ref 0), some (.ref 69), some (.ref 87), some (.int 0), none, none], [], (88, 8872), H0) (fun _ => True) := by
  have hN : (Int32.ofNat n).toInt = n := i_toInt (by omega)
  refine bs_loop (T := LT xs n) (i := 23) (Q := fun _ => True) (ι := Int32 × Option Value × Option Value × Nat × Nat × ab_H × (Nat → Nat)) (fun ⟨z, a5, a6, m, k, hp, t⟩ => ([some (.retAddr 0), some (.ref 0), some (.ref 69), some (.ref 87), some (.int z), a5, a6], [], (m, k), hp)) (fun ⟨z, a5, a6, m, k, hp, t⟩ => sf_h t hp ∧ lw_eq hp ∧ ∃ q : Nat, z.toInt = 6 * q ∧ z.toInt ≤ n ∧ m ≤ 88 + 21 * q ∧ k ≤ 8872 + 410 * q) (fun ⟨z, a5, a6, m, k, hp, t⟩ => (n + 6 - z.toInt).toNat) ?_ (0, none, none, 88, 8872, H0, T0) ⟨sf_h0, lw_eq0, 0, rfl, by show (0 : Int) ≤ n; omega, by omega, by omega⟩
  rintro ⟨z, a5, a6, m, k, hp, t⟩ ⟨H, hs, q, hq, hzn, hm0, hk0⟩ ih
  refine (show Ev _ 23 ([some (.retAddr 0), some (.ref 0), some (.ref 69), some (.ref 87), some (.int z), a5, a6], [], (m, k), hp) _ from ?_)
  have hq0 : q ≤ 512 := by omega
  have hm : m + 21 ≤ 709736 := by omega
  have hk : k + 410 ≤ 6966897 := by omega
  refine Ev.step (j := 25) (s' := ([some (.retAddr 0), some (.ref 0), some (.ref 69), some (.ref 87), some (.int z), a5, a6], [.int z], (m, k), hp)) rfl rfl ?_
  refine Ev.step (j := 26) (s' := ([some (.retAddr 0), some (.ref 0), some (.ref 69), some (.ref 87), some (.int z), a5, a6], [.retAddr 0, .int z], (m, k), hp)) rfl rfl ?_
  refine Ev.step (j := 27) (s' := ([some (.retAddr 0), some (.ref 0), some (.ref 69), some (.ref 87), some (.int z), a5, a6], [.int (Int32.ofNat n), .int z], (m, k), hp)) rfl rfl ?_
  refine bs_lit (k := 6) rfl rfl fun z1 hz1 => ?_
  refine bs_sub rfl (by omega) (by omega) fun z2 hz2 => ?_
  refine bs_gt rfl (fun c => ?_) (fun c => ?_)
  · refine bs_lit (k := 1) rfl rfl fun z3 hz3 => ?_
    refine Ev.ret (o := (some (.int 1), hp)) rfl ?_ trivial
    have e3 : z3 = 1 := Int32.toInt_inj.mp hz3
    subst e3
    show cond (decide ((1 : Int32) = 1) && decide (m ≤ 709736) && decide (k ≤ 6966897)) _ none = _
    rw [decide_eq_true (show m ≤ 709736 by omega), decide_eq_true (show k ≤ 6966897 by omega)]
    rfl
  · have hz0 : 0 ≤ z.toInt := by omega
    have hz1' : z.toInt + 6 ≤ n := by omega
    have K : lw_K xs n z m k (fun _ => True) := fun hp' t' b5 b6 m' k' H' e' hm' hk' => by
      refine bs_iinc 6 rfl rfl rfl rfl (by omega) (by omega) fun z9 hz9 => ?_
      refine (show Ev _ 1443 ([some (.retAddr 0), some (.ref 0), some (.ref 69), some (.ref 87), some (.int z9), b5, b6], [], (m', k'), hp') _ from ?_)
      refine Ev.step (j := 23) (s' := ([some (.retAddr 0), some (.ref 0), some (.ref 69), some (.ref 87), some (.int z9), b5, b6], [], (m', k'), hp')) rfl rfl ?_
      refine ih (z9, b5, b6, m', k', hp', t') ⟨H', e', q + 1, by omega, by omega, by omega, by omega⟩ ?_
      show (n + 6 - z9.toInt).toNat < (n + 6 - z.toInt).toNat
      omega
    refine Ev.step (j := 34) (s' := ([some (.retAddr 0), some (.ref 0), some (.ref 69), some (.ref 87), some (.int z), a5, a6], [.retAddr 0], (m, k), hp)) rfl rfl ?_
    refine Ev.step (j := 36) (s' := ([some (.retAddr 0), some (.ref 0), some (.ref 69), some (.ref 87), some (.int z), a5, a6], [.int z, .retAddr 0], (m, k), hp)) rfl rfl ?_
    refine ls_sld rfl (by omega) (by omega) ?_
    refine bs_lit (k := 63) rfl rfl fun z4 hz4 => ?_
    refine bs_and rfl (by omega) fun z5 hz5 gz5 => ?_
    obtain ⟨j, hj, ej⟩ : ∃ j : Nat, j < 64 ∧ z5.toInt = j := ⟨z5.toInt.toNat, by omega, by omega⟩
    match j, hj, ej with
    | 0, _, ej => exact bs_tab 0 rfl (by omega) rfl (op_feed H hs hz0 hz1' hn hm hk K)
    | 1, _, ej => exact bs_tab 1 rfl (by omega) rfl (op_end H hs hz0 hz1' hn hm hk K)
    | 2, _, ej => exact bs_tab 2 rfl (by omega) rfl (op_strait H hs hz0 hz1' hn hm hk K)
    | 3, _, ej => exact bs_tab 3 rfl (by omega) rfl (op_fault H hs hz0 hz1' hn hm hk K)
    | 4, _, ej => exact bs_tab 4 rfl (by omega) rfl (op_good H hs hz0 hz1' hn hm hk K)
    | 5, _, ej => exact bs_tab 5 rfl (by omega) rfl (op_crossed H hs hz0 hz1' hn hm hk K)
    | 6, _, ej => exact bs_tab 6 rfl (by omega) rfl (op_man H hs hz0 hz1' hn hm hk K)
    | 7, _, ej => exact bs_tab 7 rfl (by omega) rfl (op_apart H hs hz0 hz1' hn hm hk K)
    | 8, _, ej => exact bs_tab 8 rfl (by omega) rfl (op_now H hs hz0 hz1' hn hm hk K)
    | 9, _, ej => exact bs_tab 9 rfl (by omega) rfl (op_hoard H hs hz0 hz1' hn hm hk K)
    | 10, _, ej => exact bs_tab 10 rfl (by omega) rfl (op_bare H hs hz0 hz1' hn hm hk K)
    | 11, _, ej => exact bs_tab 11 rfl (by omega) rfl (op_waste H hs hz0 hz1' hn hm hk K)
    | 12, _, ej => exact bs_tab 12 rfl (by omega) rfl (op_die H hs hz0 hz1' hn hm hk K)
    | 13, _, ej => exact bs_tab 13 rfl (by omega) rfl (op_days H hs hz0 hz1' hn hm hk K)
    | 14, _, ej => exact bs_tab 14 rfl (by omega) rfl (op_undo H hs hz0 hz1' hn hm hk K)
    | 15, _, ej => exact bs_tab 15 rfl (by omega) rfl (op_lacks H hs hz0 hz1' hn hm hk K)
    | 16, _, ej => exact bs_tab 16 rfl (by omega) rfl (op_falses H hs hz0 hz1' hn hm hk K)
    | 17, _, ej => exact bs_tab 17 rfl (by omega) rfl (op_going H hs hz0 hz1' hn hm hk K)
    | 18, _, ej => exact bs_tab 18 rfl (by omega) rfl (op_goes H hs hz0 hz1' hn hm hk K)
    | 19, _, ej => exact bs_tab 19 rfl (by omega) rfl (op_crosses H hs hz0 hz1' hn hm hk K)
    | 20, _, ej => exact bs_tab 20 rfl (by omega) rfl (op_comes H hs hz0 hz1' hn hm hk K)
    | 21, _, ej => exact bs_tab 21 rfl (by omega) rfl (op_without H hs hz0 hz1' hn hm hk K)
    | 22, _, ej => exact bs_tab 22 rfl (by omega) rfl (op_meet H hs hz0 hz1' hn hm hk K)
    | 23, _, ej => exact bs_tab 23 rfl (by omega) rfl (op_loads H hs hz0 hz1' hn hm hk K)
    | 24, _, ej => exact bs_tab 24 rfl (by omega) rfl (op_which H hs hz0 hz1' hn hm hk K)
    | 25, _, ej => exact bs_tab 25 rfl (by omega) rfl (op_settles H hs hz0 hz1' hn hm hk K)
    | 26, _, ej => exact bs_tab 26 rfl (by omega) rfl (op_hunger H hs hz0 hz1' hn hm hk K)
    | 27, _, ej => exact bs_tab 27 rfl (by omega) rfl (op_prices H hs hz0 hz1' hn hm hk K)
    | 28, _, ej => exact bs_tab 28 rfl (by omega) rfl (op_price H hs hz0 hz1' hn hm hk K)
    | 29, _, ej => exact bs_tab 29 rfl (by omega) rfl (op_dearest H hs hz0 hz1' hn hm hk K)
    | 30, _, ej => exact bs_tab 30 rfl (by omega) rfl (op_rats H hs hz0 hz1' hn hm hk K)
    | 31, _, ej => exact bs_tab 31 rfl (by omega) rfl (op_hoarded H hs hz0 hz1' hn hm hk K)
    | 32, _, ej => exact bs_tab 32 rfl (by omega) rfl (op_drawn H hs hz0 hz1' hn hm hk K)
    | 33, _, ej => exact bs_tab 33 rfl (by omega) rfl (op_odds H hs hz0 hz1' hn hm hk K)
    | 34, _, ej =>
      refine bs_tab 34 rfl (by omega) rfl ?_
      obtain ⟨w, hw⟩ : ∃ w : Int32, w.toInt = z.toInt + 1 := ⟨Int32.ofInt (z.toInt + 1), Int32.toInt_ofInt_of_le (by omega) (by omega)⟩
      have hu : ∀ y : Int32, y.toInt = z.toInt + 1 → y = w := fun y hy => Int32.toInt_inj.mp (by omega)
      rcases (show (xs w.toNatClampNeg).toInt ≤ -1 ∨ (0 ≤ (xs w.toNatClampNeg).toInt ∧ (xs w.toNatClampNeg).toInt ≤ 1) ∨ 2 ≤ (xs w.toNatClampNeg).toInt by omega) with h1 | h1 | h1
      · exact op_log_b H hs hz0 hz1' hn hm hk (fun y hy => by rw [hu y hy]; exact h1) K
      · exact op_log_a H hs hz0 hz1' hn hm hk (fun y hy => by rw [hu y hy]; exact h1) K
      · exact op_log_c H hs hz0 hz1' hn hm hk (fun y hy => by rw [hu y hy]; exact h1) K
    | 35, _, ej => exact bs_tab 35 rfl (by omega) rfl (op_logged H hs hz0 hz1' hn hm hk K)
    | 36, _, ej => exact bs_tab 36 rfl (by omega) rfl (op_sentence H hs hz0 hz1' hn hm hk K)
    | 37, _, ej => exact bs_tab 37 rfl (by omega) rfl (op_said H hs hz0 hz1' hn hm hk K)
    | 38, _, ej => exact bs_tab 38 rfl (by omega) rfl (op_image H hs hz0 hz1' hn hm hk K)
    | 39, _, ej => exact bs_tab 39 rfl (by omega) rfl (op_restore H hs hz0 hz1' hn hm hk K)
    | 40, _, ej => exact bs_tab 40 rfl (by omega) rfl (op_count H hs hz0 hz1' hn hm hk K)
    | j + 41, _, ej => exact bs_tabD rfl (by show _ ∨ _ + ((41 : Nat) : Int) ≤ _; omega) (K hp t a5 a6 m k H hs (by omega) (by omega))
theorem whole_start {p : Program} {e : Env} {s : State} {m : MethodId} {below : List Frame} {meth : Method} {c : Code} (l : Launch) (htr : l.stackTraces = false) {b L : Nat} {xs : Nat → Int32} (hL : L ≤ 3072) (C0 : lw_At p s m meth c b L xs) : W p l e room_1 s m #[Value.ref b] below meth c s.heap [] 0 0 (lw_Z below #[Value.ref b] s) (entryFrame m ([Value.ref b] : List Value).toArray 7) := by
  refine start_of l htr C0 ?_
  obtain ⟨f, o, h1, -⟩ := law_pre xs L (law_loop xs L hL)
  exact ⟨f, o, h1⟩
