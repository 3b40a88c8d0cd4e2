def L_X5_readCond (f_X5_readAll : List Value → ab_H → Option ab_O) (f_X9_step : List Value → ab_H → Option ab_O) (f_X5_addOp : List Value → ab_H → Option ab_O) : List (Nat × ab_A) := [
  (0, ab_nx 1 (ab_aload 0)),
  (1, ab_nx 2 (ab_aload 1)),
  (2, ab_nx 3 (ab_iload 2)),
  (3, ab_nx 6 (ab_callV 3 5 f_X5_readAll 0 0 0 0)),
  (6, ab_if 9 11 (fun x => !decide (x = 0))),
  (9, ab_nx 10 (ab_lit (.int 0))),
  (10, ab_zret 0 0),
  (11, ab_nx 12 (ab_lit (.int 0))),
  (12, ab_nx 13 (ab_istore 3)),
  (13, ab_nx 14 (ab_iload 3)),
  (14, ab_nx 16 (ab_lit (.int 20))),
  (16, ab_icmp 19 60 (fun x y => decide (y ≤ x))),
  (19, ab_nx 20 (ab_aload 1)),
  (20, ab_nx 23 (ab_getf 9 5)),
  (23, ab_nx 25 (ab_lit (.int 77))),
  (25, ab_icmp 28 60 (fun x y => !decide (x = y))),
  (28, ab_nx 29 (ab_aload 1)),
  (29, ab_nx 32 (ab_callV 1 9 f_X9_step 0 0 0 0)),
  (32, ab_nx 33 (ab_aload 0)),
  (33, ab_nx 34 (ab_aload 1)),
  (34, ab_nx 35 (ab_iload 2)),
  (35, ab_nx 38 (ab_callV 3 5 f_X5_readAll 0 0 0 0)),
  (38, ab_if 41 52 (fun x => decide (x = 0))),
  (41, ab_nx 42 (ab_aload 0)),
  (42, ab_nx 44 (ab_lit (.int 77))),
  (44, ab_nx 45 (ab_lit (.int 0))),
  (45, ab_nx 46 (ab_lit (.int 0))),
  (46, ab_nx 49 (ab_callV 4 5 f_X5_addOp 0 0 0 0)),
  (49, ab_if 52 54 (fun x => !decide (x = 0))),
  (52, ab_nx 53 (ab_lit (.int 0))),
  (53, ab_zret 0 0),
  (54, ab_nx 57 (ab_iinc 3 1)),
  (57, ab_goto 13),
  (60, ab_nx 61 (ab_lit (.int 1))),
  (61, ab_zret 0 0)]
set_option maxRecDepth 100000 in
set_option maxHeartbeats 4000000 in
theorem M_X5_readCond {l : Launch} {b : ab_B} {D : va_G} {cA : Nat → ClassId} {n : Nat} (hn : 4 ≤ n) {f_X5_readAll : List Value → ab_H → Option ab_O} (h_X5_readAll : ab_M l b D ab_cl cA (ab_E0 b) yX5_readAll (Cond.code yX5_readAll cX5_readAll 4 (some .boolean) :: ab_G) ({ frames := n, cells := 0, slots := 0, locals := 100 * n } : Room) f_X5_readAll) {f_X9_step : List Value → ab_H → Option ab_O} (h_X9_step : ab_M l b D ab_cl cA (ab_E0 b) yX9_step (Cond.code yX9_step cX9_step 1 none :: ab_G) ({ frames := 1, cells := 0, slots := 0, locals := 100 } : Room) f_X9_step) {f_X5_addOp : List Value → ab_H → Option ab_O} (h_X5_addOp : ab_M l b D ab_cl cA (ab_E0 b) yX5_addOp (Cond.code yX5_addOp cX5_addOp 4 (some .boolean) :: ab_G) ({ frames := 1, cells := 0, slots := 0, locals := 100 } : Room) f_X5_addOp) : ab_M l b D ab_cl cA (ab_E0 b) yX5_readCond (Cond.code yX5_readCond cX5_readCond 4 (some .boolean) :: ab_G) ({ frames := (n + 1), cells := 0, slots := 0, locals := 100 * (n + 1) } : Room) (ab_X (ab_T (L_X5_readCond f_X5_readAll f_X9_step f_X5_addOp)) 4) := by
  refine ab_meth (ret := (some .boolean)) (L_X5_readCond f_X5_readAll f_X9_step f_X5_addOp) (by decide) rfl fun p e R s m args below meth c o C => ?_
  unfold L_X5_readCond
  refine List.forall_mem_cons.mpr ⟨ok_aload_n C (show decode cX5_readCond 0 = .ok (.aload_n 0, 1) by decide +kernel) rfl rfl, ?_⟩
  refine List.forall_mem_cons.mpr ⟨ok_aload_n C (show decode cX5_readCond 1 = .ok (.aload_n 1, 1) by decide +kernel) rfl rfl, ?_⟩
  refine List.forall_mem_cons.mpr ⟨ok_iload_n C (show decode cX5_readCond 2 = .ok (.iload_n 2, 1) by decide +kernel) rfl rfl, ?_⟩
  refine List.forall_mem_cons.mpr ⟨ok_callV C h_X5_readAll ⟨rfl, rfl⟩ rfl kw_969 kw_966 kw_968 kp_39 kw_10 rfl ds_X5_readAll ⟨by show n + 1 ≤ n + 1; omega, by show 8 + (4 + 11) + 100 * n ≤ 100 * (n + 1); omega⟩ (show decode cX5_readCond 3 = .ok (.invokevirtual 54, 3) by decide +kernel) rfl, ?_⟩
  refine List.forall_mem_cons.mpr ⟨ok_ifne C (show decode cX5_readCond 6 = .ok (.ifCond .ne 5, 3) by decide +kernel) (tg := 11) (by decide) rfl rfl, ?_⟩
  refine List.forall_mem_cons.mpr ⟨ok_iconst C (show decode cX5_readCond 9 = .ok (.iconst 0, 1) by decide +kernel) (by decide) rfl, ?_⟩
  refine List.forall_mem_cons.mpr ⟨ok_zret C rfl (show decode cX5_readCond 10 = .ok (.ireturn, 1) by decide +kernel), ?_⟩
  refine List.forall_mem_cons.mpr ⟨ok_iconst C (show decode cX5_readCond 11 = .ok (.iconst 0, 1) by decide +kernel) (by decide) rfl, ?_⟩
  refine List.forall_mem_cons.mpr ⟨ok_istore_n C (show decode cX5_readCond 12 = .ok (.istore_n 3, 1) by decide +kernel) rfl (by decide) rfl, ?_⟩
  refine List.forall_mem_cons.mpr ⟨ok_iload_n C (show decode cX5_readCond 13 = .ok (.iload_n 3, 1) by decide +kernel) rfl rfl, ?_⟩
  refine List.forall_mem_cons.mpr ⟨ok_bipush C (show decode cX5_readCond 14 = .ok (.bipush 20, 2) by decide +kernel) (by decide) rfl, ?_⟩
  refine List.forall_mem_cons.mpr ⟨ok_icmpge C (show decode cX5_readCond 16 = .ok (.if_icmp .ge 44, 3) by decide +kernel) (tg := 60) (by decide) rfl rfl, ?_⟩
  refine List.forall_mem_cons.mpr ⟨ok_aload_n C (show decode cX5_readCond 19 = .ok (.aload_n 1, 1) by decide +kernel) rfl rfl, ?_⟩
  refine List.forall_mem_cons.mpr ⟨ok_getf C (wi_X9) rfl (by decide) kw_62 (show decode cX5_readCond 20 = .ok (.getfield 47, 3) by decide +kernel) rfl, ?_⟩
  refine List.forall_mem_cons.mpr ⟨ok_bipush C (show decode cX5_readCond 23 = .ok (.bipush 77, 2) by decide +kernel) (by decide) rfl, ?_⟩
  refine List.forall_mem_cons.mpr ⟨ok_icmpne C (show decode cX5_readCond 25 = .ok (.if_icmp .ne 35, 3) by decide +kernel) (tg := 60) (by decide) rfl rfl, ?_⟩
  refine List.forall_mem_cons.mpr ⟨ok_aload_n C (show decode cX5_readCond 28 = .ok (.aload_n 1, 1) by decide +kernel) rfl rfl, ?_⟩
  refine List.forall_mem_cons.mpr ⟨ok_callV C h_X9_step ⟨rfl, rfl⟩ rfl kw_499 kw_961 kw_497 kw_498 kw_3 rfl ds_X9_step ⟨by show 1 + 1 ≤ n + 1; omega, by show 8 + (1 + 11) + 100 ≤ 100 * (n + 1); omega⟩ (show decode cX5_readCond 29 = .ok (.invokevirtual 38, 3) by decide +kernel) rfl, ?_⟩
  refine List.forall_mem_cons.mpr ⟨ok_aload_n C (show decode cX5_readCond 32 = .ok (.aload_n 0, 1) by decide +kernel) rfl rfl, ?_⟩
  refine List.forall_mem_cons.mpr ⟨ok_aload_n C (show decode cX5_readCond 33 = .ok (.aload_n 1, 1) by decide +kernel) rfl rfl, ?_⟩
  refine List.forall_mem_cons.mpr ⟨ok_iload_n C (show decode cX5_readCond 34 = .ok (.iload_n 2, 1) by decide +kernel) rfl rfl, ?_⟩
  refine List.forall_mem_cons.mpr ⟨ok_callV C h_X5_readAll ⟨rfl, rfl⟩ rfl kw_969 kw_966 kw_968 kp_39 kw_10 rfl ds_X5_readAll ⟨by show n + 1 ≤ n + 1; omega, by show 8 + (4 + 11) + 100 * n ≤ 100 * (n + 1); omega⟩ (show decode cX5_readCond 35 = .ok (.invokevirtual 54, 3) by decide +kernel) rfl, ?_⟩
  refine List.forall_mem_cons.mpr ⟨ok_ifeq C (show decode cX5_readCond 38 = .ok (.ifCond .eq 14, 3) by decide +kernel) (tg := 52) (by decide) rfl rfl, ?_⟩
  refine List.forall_mem_cons.mpr ⟨ok_aload_n C (show decode cX5_readCond 41 = .ok (.aload_n 0, 1) by decide +kernel) rfl rfl, ?_⟩
  refine List.forall_mem_cons.mpr ⟨ok_bipush C (show decode cX5_readCond 42 = .ok (.bipush 77, 2) by decide +kernel) (by decide) rfl, ?_⟩
  refine List.forall_mem_cons.mpr ⟨ok_iconst C (show decode cX5_readCond 44 = .ok (.iconst 0, 1) by decide +kernel) (by decide) rfl, ?_⟩
  refine List.forall_mem_cons.mpr ⟨ok_iconst C (show decode cX5_readCond 45 = .ok (.iconst 0, 1) by decide +kernel) (by decide) rfl, ?_⟩
  refine List.forall_mem_cons.mpr ⟨ok_callV C h_X5_addOp ⟨rfl, rfl⟩ rfl kw_982 kw_979 kw_981 kp_42 kw_10 rfl ds_X5_addOp ⟨by show 1 + 1 ≤ n + 1; omega, by show 8 + (4 + 11) + 100 ≤ 100 * (n + 1); omega⟩ (show decode cX5_readCond 46 = .ok (.invokevirtual 57, 3) by decide +kernel) rfl, ?_⟩
  refine List.forall_mem_cons.mpr ⟨ok_ifne C (show decode cX5_readCond 49 = .ok (.ifCond .ne 5, 3) by decide +kernel) (tg := 54) (by decide) rfl rfl, ?_⟩
  refine List.forall_mem_cons.mpr ⟨ok_iconst C (show decode cX5_readCond 52 = .ok (.iconst 0, 1) by decide +kernel) (by decide) rfl, ?_⟩
  refine List.forall_mem_cons.mpr ⟨ok_zret C rfl (show decode cX5_readCond 53 = .ok (.ireturn, 1) by decide +kernel), ?_⟩
  refine List.forall_mem_cons.mpr ⟨ok_iinc C (show decode cX5_readCond 54 = .ok (.iinc 3 1, 3) by decide +kernel) (by decide) (by decide) rfl, ?_⟩
  refine List.forall_mem_cons.mpr ⟨ok_goto C (show decode cX5_readCond 57 = .ok (.goto (-44), 3) by decide +kernel) (tg := 13) (by decide) rfl, ?_⟩
  refine List.forall_mem_cons.mpr ⟨ok_iconst C (show decode cX5_readCond 60 = .ok (.iconst 1, 1) by decide +kernel) (by decide) rfl, ?_⟩
  refine List.forall_mem_cons.mpr ⟨ok_zret C rfl (show decode cX5_readCond 61 = .ok (.ireturn, 1) by decide +kernel), ?_⟩
  exact fun _ h => absurd h List.not_mem_nil
def L_X5_readText (f_X9_step : List Value → ab_H → Option ab_O) (f_X5_readCond : List Value → ab_H → Option ab_O) (f_X9_fail : List Value → ab_H → Option ab_O) : List (Nat × ab_A) := [
  (0, ab_nx 1 (ab_aload 0)),
  (1, ab_nx 2 (ab_lit (.int 0))),
  (2, ab_nx 5 (ab_putf 5 3 0)),
  (5, ab_nx 6 (ab_aload 0)),
  (6, ab_nx 7 (ab_lit (.int 0))),
  (7, ab_nx 10 (ab_putf 5 4 0)),
  (10, ab_nx 11 (ab_aload 1)),
  (11, ab_nx 14 (ab_callV 1 9 f_X9_step 0 0 0 0)),
  (14, ab_nx 15 (ab_aload 0)),
  (15, ab_nx 16 (ab_aload 0)),
  (16, ab_nx 17 (ab_aload 1)),
  (17, ab_nx 18 (ab_lit (.int 1))),
  (18, ab_nx 21 (ab_callV 3 5 f_X5_readCond 0 0 0 0)),
  (21, ab_if 24 43 (fun x => decide (x = 0))),
  (24, ab_nx 25 (ab_aload 1)),
  (25, ab_nx 28 (ab_getf 9 5)),
  (28, ab_if 31 39 (fun x => decide (x = 0))),
  (31, ab_nx 32 (ab_aload 1)),
  (32, ab_nx 33 (ab_lit (.int 1))),
  (33, ab_nx 36 (ab_callV 2 9 f_X9_fail 0 0 0 0)),
  (36, ab_if 39 43 (fun x => decide (x = 0))),
  (39, ab_nx 40 (ab_lit (.int 1))),
  (40, ab_goto 44),
  (43, ab_nx 44 (ab_lit (.int 0))),
  (44, ab_nx 47 (ab_putf 5 5 3)),
  (47, ab_vret 0 0)]
set_option maxRecDepth 100000 in
set_option maxHeartbeats 4000000 in
theorem M_X5_readText {l : Launch} {b : ab_B} {D : va_G} {cA : Nat → ClassId} {f_X9_step : List Value → ab_H → Option ab_O} (h_X9_step : ab_M l b D ab_cl cA (ab_E0 b) yX9_step (Cond.code yX9_step cX9_step 1 none :: ab_G) ({ frames := 1, cells := 0, slots := 0, locals := 100 } : Room) f_X9_step) {f_X5_readCond : List Value → ab_H → Option ab_O} (h_X5_readCond : ab_M l b D ab_cl cA (ab_E0 b) yX5_readCond (Cond.code yX5_readCond cX5_readCond 4 (some .boolean) :: ab_G) ({ frames := 39, cells := 0, slots := 0, locals := 3900 } : Room) f_X5_readCond) {f_X9_fail : List Value → ab_H → Option ab_O} (h_X9_fail : ab_M l b D ab_cl cA (ab_E0 b) yX9_fail (Cond.code yX9_fail cX9_fail 2 (some .boolean) :: ab_G) ({ frames := 1, cells := 0, slots := 0, locals := 100 } : Room) f_X9_fail) : ab_M l b D ab_cl cA (ab_E0 b) yX5_readText (Cond.code yX5_readText cX5_readText 2 none :: ab_G) ({ frames := 40, cells := 0, slots := 0, locals := 4000 } : Room) (ab_X (ab_T (L_X5_readText f_X9_step f_X5_readCond f_X9_fail)) 2) := by
  refine ab_meth (ret := none) (L_X5_readText f_X9_step f_X5_readCond f_X9_fail) (by decide) rfl fun p e R s m args below meth c o C => ?_
  unfold L_X5_readText
  refine List.forall_mem_cons.mpr ⟨ok_aload_n C (show decode cX5_readText 0 = .ok (.aload_n 0, 1) by decide +kernel) rfl rfl, ?_⟩
  refine List.forall_mem_cons.mpr ⟨ok_iconst C (show decode cX5_readText 1 = .ok (.iconst 0, 1) by decide +kernel) (by decide) rfl, ?_⟩
  refine List.forall_mem_cons.mpr ⟨ok_putf C (wi_X5) tyX5 tyX5_ok nmX5 rfl (by decide) kw_297 (Or.inl rfl) (Or.inl ⟨rfl, rfl⟩) (show decode cX5_readText 2 = .ok (.putfield 27, 3) by decide +kernel) rfl, ?_⟩
  refine List.forall_mem_cons.mpr ⟨ok_aload_n C (show decode cX5_readText 5 = .ok (.aload_n 0, 1) by decide +kernel) rfl rfl, ?_⟩
  refine List.forall_mem_cons.mpr ⟨ok_iconst C (show decode cX5_readText 6 = .ok (.iconst 0, 1) by decide +kernel) (by decide) rfl, ?_⟩
  refine List.forall_mem_cons.mpr ⟨ok_putf C (wi_X5) tyX5 tyX5_ok nmX5 rfl (by decide) kw_298 (Or.inl rfl) (Or.inl ⟨rfl, rfl⟩) (show decode cX5_readText 7 = .ok (.putfield 31, 3) by decide +kernel) rfl, ?_⟩
  refine List.forall_mem_cons.mpr ⟨ok_aload_n C (show decode cX5_readText 10 = .ok (.aload_n 1, 1) by decide +kernel) rfl rfl, ?_⟩
  refine List.forall_mem_cons.mpr ⟨ok_callV C h_X9_step ⟨rfl, rfl⟩ rfl kw_499 kw_961 kw_497 kw_498 kw_3 rfl ds_X9_step ⟨by decide, by decide⟩ (show decode cX5_readText 11 = .ok (.invokevirtual 38, 3) by decide +kernel) rfl, ?_⟩
  refine List.forall_mem_cons.mpr ⟨ok_aload_n C (show decode cX5_readText 14 = .ok (.aload_n 0, 1) by decide +kernel) rfl rfl, ?_⟩
  refine List.forall_mem_cons.mpr ⟨ok_aload_n C (show decode cX5_readText 15 = .ok (.aload_n 0, 1) by decide +kernel) rfl rfl, ?_⟩
  refine List.forall_mem_cons.mpr ⟨ok_aload_n C (show decode cX5_readText 16 = .ok (.aload_n 1, 1) by decide +kernel) rfl rfl, ?_⟩
  refine List.forall_mem_cons.mpr ⟨ok_iconst C (show decode cX5_readText 17 = .ok (.iconst 1, 1) by decide +kernel) (by decide) rfl, ?_⟩
  refine List.forall_mem_cons.mpr ⟨ok_callV C h_X5_readCond ⟨rfl, rfl⟩ rfl kw_965 kw_962 kw_964 kp_38 kw_10 rfl ds_X5_readCond ⟨by decide, by decide⟩ (show decode cX5_readText 18 = .ok (.invokevirtual 43, 3) by decide +kernel) rfl, ?_⟩
  refine List.forall_mem_cons.mpr ⟨ok_ifeq C (show decode cX5_readText 21 = .ok (.ifCond .eq 22, 3) by decide +kernel) (tg := 43) (by decide) rfl rfl, ?_⟩
  refine List.forall_mem_cons.mpr ⟨ok_aload_n C (show decode cX5_readText 24 = .ok (.aload_n 1, 1) by decide +kernel) rfl rfl, ?_⟩
  refine List.forall_mem_cons.mpr ⟨ok_getf C (wi_X9) rfl (by decide) kw_62 (show decode cX5_readText 25 = .ok (.getfield 47, 3) by decide +kernel) rfl, ?_⟩
  refine List.forall_mem_cons.mpr ⟨ok_ifeq C (show decode cX5_readText 28 = .ok (.ifCond .eq 11, 3) by decide +kernel) (tg := 39) (by decide) rfl rfl, ?_⟩
  refine List.forall_mem_cons.mpr ⟨ok_aload_n C (show decode cX5_readText 31 = .ok (.aload_n 1, 1) by decide +kernel) rfl rfl, ?_⟩
  refine List.forall_mem_cons.mpr ⟨ok_iconst C (show decode cX5_readText 32 = .ok (.iconst 1, 1) by decide +kernel) (by decide) rfl, ?_⟩
  refine List.forall_mem_cons.mpr ⟨ok_callV C h_X9_fail ⟨rfl, rfl⟩ rfl kw_520 kw_974 kw_518 kw_519 kw_3 rfl ds_X9_fail ⟨by decide, by decide⟩ (show decode cX5_readText 33 = .ok (.invokevirtual 50, 3) by decide +kernel) rfl, ?_⟩
  refine List.forall_mem_cons.mpr ⟨ok_ifeq C (show decode cX5_readText 36 = .ok (.ifCond .eq 7, 3) by decide +kernel) (tg := 43) (by decide) rfl rfl, ?_⟩
  refine List.forall_mem_cons.mpr ⟨ok_iconst C (show decode cX5_readText 39 = .ok (.iconst 1, 1) by decide +kernel) (by decide) rfl, ?_⟩
  refine List.forall_mem_cons.mpr ⟨ok_goto C (show decode cX5_readText 40 = .ok (.goto 4, 3) by decide +kernel) (tg := 44) (by decide) rfl, ?_⟩
  refine List.forall_mem_cons.mpr ⟨ok_iconst C (show decode cX5_readText 43 = .ok (.iconst 0, 1) by decide +kernel) (by decide) rfl, ?_⟩
  refine List.forall_mem_cons.mpr ⟨ok_putf C (wi_X5) tyX5 tyX5_ok nmX5 rfl (by decide) kw_300 (Or.inl rfl) (Or.inr (Or.inr (Or.inr ⟨rfl, rfl⟩))) (show decode cX5_readText 44 = .ok (.putfield 34, 3) by decide +kernel) rfl, ?_⟩
  refine List.forall_mem_cons.mpr ⟨ok_vret C rfl (show decode cX5_readText 47 = .ok (.return_, 1) by decide +kernel), ?_⟩
  exact fun _ h => absurd h List.not_mem_nil
def L_X5_readAll (f_X5_readOne : List Value → ab_H → Option ab_O) (f_X9_step : List Value → ab_H → Option ab_O) (f_X5_addOp : List Value → ab_H → Option ab_O) : List (Nat × ab_A) := [
  (0, ab_nx 1 (ab_aload 0)),
  (1, ab_nx 2 (ab_aload 1)),
  (2, ab_nx 3 (ab_iload 2)),
  (3, ab_nx 6 (ab_callV 3 5 f_X5_readOne 0 0 0 0)),
  (6, ab_if 9 11 (fun x => !decide (x = 0))),
  (9, ab_nx 10 (ab_lit (.int 0))),
  (10, ab_zret 0 0),
  (11, ab_nx 12 (ab_lit (.int 0))),
  (12, ab_nx 13 (ab_istore 3)),
  (13, ab_nx 14 (ab_iload 3)),
  (14, ab_nx 16 (ab_lit (.int 20))),
  (16, ab_icmp 19 60 (fun x y => decide (y ≤ x))),
  (19, ab_nx 20 (ab_aload 1)),
  (20, ab_nx 23 (ab_getf 9 5)),
  (23, ab_nx 25 (ab_lit (.int 78))),
  (25, ab_icmp 28 60 (fun x y => !decide (x = y))),
  (28, ab_nx 29 (ab_aload 1)),
  (29, ab_nx 32 (ab_callV 1 9 f_X9_step 0 0 0 0)),
  (32, ab_nx 33 (ab_aload 0)),
  (33, ab_nx 34 (ab_aload 1)),
  (34, ab_nx 35 (ab_iload 2)),
  (35, ab_nx 38 (ab_callV 3 5 f_X5_readOne 0 0 0 0)),
  (38, ab_if 41 52 (fun x => decide (x = 0))),
  (41, ab_nx 42 (ab_aload 0)),
  (42, ab_nx 44 (ab_lit (.int 78))),
  (44, ab_nx 45 (ab_lit (.int 0))),
  (45, ab_nx 46 (ab_lit (.int 0))),
  (46, ab_nx 49 (ab_callV 4 5 f_X5_addOp 0 0 0 0)),
  (49, ab_if 52 54 (fun x => !decide (x = 0))),
  (52, ab_nx 53 (ab_lit (.int 0))),
  (53, ab_zret 0 0),
  (54, ab_nx 57 (ab_iinc 3 1)),
  (57, ab_goto 13),
  (60, ab_nx 61 (ab_lit (.int 1))),
  (61, ab_zret 0 0)]
set_option maxRecDepth 100000 in
set_option maxHeartbeats 4000000 in
theorem M_X5_readAll {l : Launch} {b : ab_B} {D : va_G} {cA : Nat → ClassId} {n : Nat} (hn : 4 ≤ n) {f_X5_readOne : List Value → ab_H → Option ab_O} (h_X5_readOne : ab_M l b D ab_cl cA (ab_E0 b) yX5_readOne (Cond.code yX5_readOne cX5_readOne 6 (some .boolean) :: ab_G) ({ frames := n, cells := 0, slots := 0, locals := 100 * n } : Room) f_X5_readOne) {f_X9_step : List Value → ab_H → Option ab_O} (h_X9_step : ab_M l b D ab_cl cA (ab_E0 b) yX9_step (Cond.code yX9_step cX9_step 1 none :: ab_G) ({ frames := 1, cells := 0, slots := 0, locals := 100 } : Room) f_X9_step) {f_X5_addOp : List Value → ab_H → Option ab_O} (h_X5_addOp : ab_M l b D ab_cl cA (ab_E0 b) yX5_addOp (Cond.code yX5_addOp cX5_addOp 4 (some .boolean) :: ab_G) ({ frames := 1, cells := 0, slots := 0, locals := 100 } : Room) f_X5_addOp) : ab_M l b D ab_cl cA (ab_E0 b) yX5_readAll (Cond.code yX5_readAll cX5_readAll 4 (some .boolean) :: ab_G) ({ frames := (n + 1), cells := 0, slots := 0, locals := 100 * (n + 1) } : Room) (ab_X (ab_T (L_X5_readAll f_X5_readOne f_X9_step f_X5_addOp)) 4) := by
  refine ab_meth (ret := (some .boolean)) (L_X5_readAll f_X5_readOne f_X9_step f_X5_addOp) (by decide) rfl fun p e R s m args below meth c o C => ?_
  unfold L_X5_readAll
  refine List.forall_mem_cons.mpr ⟨ok_aload_n C (show decode cX5_readAll 0 = .ok (.aload_n 0, 1) by decide +kernel) rfl rfl, ?_⟩
  refine List.forall_mem_cons.mpr ⟨ok_aload_n C (show decode cX5_readAll 1 = .ok (.aload_n 1, 1) by decide +kernel) rfl rfl, ?_⟩
  refine List.forall_mem_cons.mpr ⟨ok_iload_n C (show decode cX5_readAll 2 = .ok (.iload_n 2, 1) by decide +kernel) rfl rfl, ?_⟩
  refine List.forall_mem_cons.mpr ⟨ok_callV C h_X5_readOne ⟨rfl, rfl⟩ rfl kw_973 kw_970 kw_972 kp_40 kw_10 rfl ds_X5_readOne ⟨by show n + 1 ≤ n + 1; omega, by show 8 + (6 + 11) + 100 * n ≤ 100 * (n + 1); omega⟩ (show decode cX5_readAll 3 = .ok (.invokevirtual 61, 3) by decide +kernel) rfl, ?_⟩
  refine List.forall_mem_cons.mpr ⟨ok_ifne C (show decode cX5_readAll 6 = .ok (.ifCond .ne 5, 3) by decide +kernel) (tg := 11) (by decide) rfl rfl, ?_⟩
  refine List.forall_mem_cons.mpr ⟨ok_iconst C (show decode cX5_readAll 9 = .ok (.iconst 0, 1) by decide +kernel) (by decide) rfl, ?_⟩
  refine List.forall_mem_cons.mpr ⟨ok_zret C rfl (show decode cX5_readAll 10 = .ok (.ireturn, 1) by decide +kernel), ?_⟩
  refine List.forall_mem_cons.mpr ⟨ok_iconst C (show decode cX5_readAll 11 = .ok (.iconst 0, 1) by decide +kernel) (by decide) rfl, ?_⟩
  refine List.forall_mem_cons.mpr ⟨ok_istore_n C (show decode cX5_readAll 12 = .ok (.istore_n 3, 1) by decide +kernel) rfl (by decide) rfl, ?_⟩
  refine List.forall_mem_cons.mpr ⟨ok_iload_n C (show decode cX5_readAll 13 = .ok (.iload_n 3, 1) by decide +kernel) rfl rfl, ?_⟩
  refine List.forall_mem_cons.mpr ⟨ok_bipush C (show decode cX5_readAll 14 = .ok (.bipush 20, 2) by decide +kernel) (by decide) rfl, ?_⟩
  refine List.forall_mem_cons.mpr ⟨ok_icmpge C (show decode cX5_readAll 16 = .ok (.if_icmp .ge 44, 3) by decide +kernel) (tg := 60) (by decide) rfl rfl, ?_⟩
  refine List.forall_mem_cons.mpr ⟨ok_aload_n C (show decode cX5_readAll 19 = .ok (.aload_n 1, 1) by decide +kernel) rfl rfl, ?_⟩
  refine List.forall_mem_cons.mpr ⟨ok_getf C (wi_X9) rfl (by decide) kw_62 (show decode cX5_readAll 20 = .ok (.getfield 47, 3) by decide +kernel) rfl, ?_⟩
  refine List.forall_mem_cons.mpr ⟨ok_bipush C (show decode cX5_readAll 23 = .ok (.bipush 78, 2) by decide +kernel) (by decide) rfl, ?_⟩
  refine List.forall_mem_cons.mpr ⟨ok_icmpne C (show decode cX5_readAll 25 = .ok (.if_icmp .ne 35, 3) by decide +kernel) (tg := 60) (by decide) rfl rfl, ?_⟩
  refine List.forall_mem_cons.mpr ⟨ok_aload_n C (show decode cX5_readAll 28 = .ok (.aload_n 1, 1) by decide +kernel) rfl rfl, ?_⟩
  refine List.forall_mem_cons.mpr ⟨ok_callV C h_X9_step ⟨rfl, rfl⟩ rfl kw_499 kw_961 kw_497 kw_498 kw_3 rfl ds_X9_step ⟨by show 1 + 1 ≤ n + 1; omega, by show 8 + (1 + 11) + 100 ≤ 100 * (n + 1); omega⟩ (show decode cX5_readAll 29 = .ok (.invokevirtual 38, 3) by decide +kernel) rfl, ?_⟩
  refine List.forall_mem_cons.mpr ⟨ok_aload_n C (show decode cX5_readAll 32 = .ok (.aload_n 0, 1) by decide +kernel) rfl rfl, ?_⟩
  refine List.forall_mem_cons.mpr ⟨ok_aload_n C (show decode cX5_readAll 33 = .ok (.aload_n 1, 1) by decide +kernel) rfl rfl, ?_⟩
  refine List.forall_mem_cons.mpr ⟨ok_iload_n C (show decode cX5_readAll 34 = .ok (.iload_n 2, 1) by decide +kernel) rfl rfl, ?_⟩
  refine List.forall_mem_cons.mpr ⟨ok_callV C h_X5_readOne ⟨rfl, rfl⟩ rfl kw_973 kw_970 kw_972 kp_40 kw_10 rfl ds_X5_readOne ⟨by show n + 1 ≤ n + 1; omega, by show 8 + (6 + 11) + 100 * n ≤ 100 * (n + 1); omega⟩ (show decode cX5_readAll 35 = .ok (.invokevirtual 61, 3) by decide +kernel) rfl, ?_⟩
  refine List.forall_mem_cons.mpr ⟨ok_ifeq C (show decode cX5_readAll 38 = .ok (.ifCond .eq 14, 3) by decide +kernel) (tg := 52) (by decide) rfl rfl, ?_⟩
  refine List.forall_mem_cons.mpr ⟨ok_aload_n C (show decode cX5_readAll 41 = .ok (.aload_n 0, 1) by decide +kernel) rfl rfl, ?_⟩
  refine List.forall_mem_cons.mpr ⟨ok_bipush C (show decode cX5_readAll 42 = .ok (.bipush 78, 2) by decide +kernel) (by decide) rfl, ?_⟩
  refine List.forall_mem_cons.mpr ⟨ok_iconst C (show decode cX5_readAll 44 = .ok (.iconst 0, 1) by decide +kernel) (by decide) rfl, ?_⟩
  refine List.forall_mem_cons.mpr ⟨ok_iconst C (show decode cX5_readAll 45 = .ok (.iconst 0, 1) by decide +kernel) (by decide) rfl, ?_⟩
  refine List.forall_mem_cons.mpr ⟨ok_callV C h_X5_addOp ⟨rfl, rfl⟩ rfl kw_982 kw_979 kw_981 kp_42 kw_10 rfl ds_X5_addOp ⟨by show 1 + 1 ≤ n + 1; omega, by show 8 + (4 + 11) + 100 ≤ 100 * (n + 1); omega⟩ (show decode cX5_readAll 46 = .ok (.invokevirtual 57, 3) by decide +kernel) rfl, ?_⟩
  refine List.forall_mem_cons.mpr ⟨ok_ifne C (show decode cX5_readAll 49 = .ok (.ifCond .ne 5, 3) by decide +kernel) (tg := 54) (by decide) rfl rfl, ?_⟩
  refine List.forall_mem_cons.mpr ⟨ok_iconst C (show decode cX5_readAll 52 = .ok (.iconst 0, 1) by decide +kernel) (by decide) rfl, ?_⟩
  refine List.forall_mem_cons.mpr ⟨ok_zret C rfl (show decode cX5_readAll 53 = .ok (.ireturn, 1) by decide +kernel), ?_⟩
  refine List.forall_mem_cons.mpr ⟨ok_iinc C (show decode cX5_readAll 54 = .ok (.iinc 3 1, 3) by decide +kernel) (by decide) (by decide) rfl, ?_⟩
  refine List.forall_mem_cons.mpr ⟨ok_goto C (show decode cX5_readAll 57 = .ok (.goto (-44), 3) by decide +kernel) (tg := 13) (by decide) rfl, ?_⟩
  refine List.forall_mem_cons.mpr ⟨ok_iconst C (show decode cX5_readAll 60 = .ok (.iconst 1, 1) by decide +kernel) (by decide) rfl, ?_⟩
  refine List.forall_mem_cons.mpr ⟨ok_zret C rfl (show decode cX5_readAll 61 = .ok (.ireturn, 1) by decide +kernel), ?_⟩
  exact fun _ h => absurd h List.not_mem_nil
def L_X5_readOne (f_X9_fail : List Value → ab_H → Option ab_O) (f_X5_readBracket : List Value → ab_H → Option ab_O) (f_X9_step : List Value → ab_H → Option ab_O) (f_X5_readOne : List Value → ab_H → Option ab_O) (f_X5_addOp : List Value → ab_H → Option ab_O) (f_X5_readOnShore : List Value → ab_H → Option ab_O) (f_X5_readCompared : List Value → ab_H → Option ab_O) : List (Nat × ab_A) := [
  (0, ab_nx 1 (ab_aload 1)),
  (1, ab_nx 4 (ab_getf 9 5)),
  (4, ab_nx 6 (ab_lit (.int 40))),
  (6, ab_icmp 9 13 (fun x y => !decide (x = y))),
  (9, ab_nx 10 (ab_lit (.int 1))),
  (10, ab_goto 14),
  (13, ab_nx 14 (ab_lit (.int 0))),
  (14, ab_nx 15 (ab_istore 3)),
  (15, ab_nx 16 (ab_iload 3)),
  (16, ab_if 19 37 (fun x => !decide (x = 0))),
  (19, ab_nx 20 (ab_aload 1)),
  (20, ab_nx 23 (ab_getf 9 5)),
  (23, ab_nx 25 (ab_lit (.int 79))),
  (25, ab_icmp 28 41 (fun x y => decide (x < y))),
  (28, ab_nx 29 (ab_aload 1)),
  (29, ab_nx 32 (ab_getf 9 5)),
  (32, ab_nx 34 (ab_lit (.int 88))),
  (34, ab_icmp 37 41 (fun x y => decide (y < x))),
  (37, ab_nx 38 (ab_lit (.int 1))),
  (38, ab_goto 42),
  (41, ab_nx 42 (ab_lit (.int 0))),
  (42, ab_nx 44 (ab_istore 4)),
  (44, ab_nx 46 (ab_iload 4)),
  (46, ab_if 49 55 (fun x => !decide (x = 0))),
  (49, ab_nx 50 (ab_aload 1)),
  (50, ab_nx 51 (ab_lit (.int 1))),
  (51, ab_nx 54 (ab_callV 2 9 f_X9_fail 0 0 0 0)),
  (54, ab_zret 0 0),
  (55, ab_nx 56 (ab_aload 0)),
  (56, ab_nx 59 (ab_getf 5 4)),
  (59, ab_nx 61 (ab_lit (.int 20))),
  (61, ab_icmp 64 70 (fun x y => decide (y ≤ x))),
  (64, ab_nx 65 (ab_iload 2)),
  (65, ab_nx 67 (ab_lit (.int 8))),
  (67, ab_icmp 70 76 (fun x y => decide (x ≤ y))),
  (70, ab_nx 71 (ab_aload 1)),
  (71, ab_nx 72 (ab_lit (.int 4))),
  (72, ab_nx 75 (ab_callV 2 9 f_X9_fail 0 0 0 0)),
  (75, ab_zret 0 0),
  (76, ab_nx 77 (ab_aload 0)),
  (77, ab_nx 78 ab_dup),
  (78, ab_nx 81 (ab_getf 5 4)),
  (81, ab_nx 82 (ab_lit (.int 1))),
  (82, ab_nx 83 (ab_bin (fun x y => x + y))),
  (83, ab_nx 86 (ab_putf 5 4 0)),
  (86, ab_nx 87 (ab_iload 3)),
  (87, ab_if 90 97 (fun x => decide (x = 0))),
  (90, ab_nx 91 (ab_aload 0)),
  (91, ab_nx 92 (ab_aload 1)),
  (92, ab_nx 93 (ab_iload 2)),
  (93, ab_nx 96 (ab_callV 3 5 f_X5_readBracket 0 0 0 0)),
  (96, ab_zret 0 0),
  (97, ab_nx 98 (ab_aload 1)),
  (98, ab_nx 101 (ab_getf 9 5)),
  (101, ab_nx 103 (ab_istore 5)),
  (103, ab_nx 105 (ab_iload 5)),
  (105, ab_nx 107 (ab_lit (.int 79))),
  (107, ab_icmp 110 142 (fun x y => !decide (x = y))),
  (110, ab_nx 111 (ab_aload 1)),
  (111, ab_nx 114 (ab_callV 1 9 f_X9_step 0 0 0 0)),
  (114, ab_nx 115 (ab_aload 0)),
  (115, ab_nx 116 (ab_aload 1)),
  (116, ab_nx 117 (ab_iload 2)),
  (117, ab_nx 118 (ab_lit (.int 1))),
  (118, ab_nx 119 (ab_bin (fun x y => x + y))),
  (119, ab_nx 122 (ab_callV 3 5 f_X5_readOne 0 0 0 0)),
  (122, ab_if 125 140 (fun x => decide (x = 0))),
  (125, ab_nx 126 (ab_aload 0)),
  (126, ab_nx 128 (ab_lit (.int 79))),
  (128, ab_nx 129 (ab_lit (.int 0))),
  (129, ab_nx 130 (ab_lit (.int 0))),
  (130, ab_nx 133 (ab_callV 4 5 f_X5_addOp 0 0 0 0)),
  (133, ab_if 136 140 (fun x => decide (x = 0))),
  (136, ab_nx 137 (ab_lit (.int 1))),
  (137, ab_goto 141),
  (140, ab_nx 141 (ab_lit (.int 0))),
  (141, ab_zret 0 0),
  (142, ab_nx 144 (ab_iload 5)),
  (144, ab_nx 146 (ab_lit (.int 84))),
  (146, ab_icmp 149 159 (fun x y => decide (y < x))),
  (149, ab_nx 150 (ab_aload 0)),
  (150, ab_nx 151 (ab_aload 1)),
  (151, ab_nx 153 (ab_iload 5)),
  (153, ab_nx 156 (ab_callV 3 5 f_X5_readOnShore 0 0 0 0)),
  (156, ab_goto 166),
  (159, ab_nx 160 (ab_aload 0)),
  (160, ab_nx 161 (ab_aload 1)),
  (161, ab_nx 163 (ab_iload 5)),
  (163, ab_nx 166 (ab_callV 3 5 f_X5_readCompared 0 0 0 0)),
  (166, ab_zret 0 0)]
set_option maxRecDepth 100000 in
set_option maxHeartbeats 4000000 in
theorem M_X5_readOne {l : Launch} {b : ab_B} {D : va_G} {cA : Nat → ClassId} {n n2 : Nat} (hn : 4 ≤ n) (hn2 : n2 ≤ n) {f_X9_fail : List Value → ab_H → Option ab_O} (h_X9_fail : ab_M l b D ab_cl cA (ab_E0 b) yX9_fail (Cond.code yX9_fail cX9_fail 2 (some .boolean) :: ab_G) ({ frames := 1, cells := 0, slots := 0, locals := 100 } : Room) f_X9_fail) {f_X5_readBracket : List Value → ab_H → Option ab_O} (h_X5_readBracket : ab_M l b D ab_cl cA (ab_E0 b) yX5_readBracket (Cond.code yX5_readBracket cX5_readBracket 3 (some .boolean) :: ab_G) ({ frames := n, cells := 0, slots := 0, locals := 100 * n } : Room) f_X5_readBracket) {f_X9_step : List Value → ab_H → Option ab_O} (h_X9_step : ab_M l b D ab_cl cA (ab_E0 b) yX9_step (Cond.code yX9_step cX9_step 1 none :: ab_G) ({ frames := 1, cells := 0, slots := 0, locals := 100 } : Room) f_X9_step) {f_X5_readOne : List Value → ab_H → Option ab_O} (h_X5_readOne : ab_M l b D ab_cl cA (ab_E0 b) yX5_readOne (Cond.code yX5_readOne cX5_readOne 6 (some .boolean) :: ab_G) ({ frames := n2, cells := 0, slots := 0, locals := 100 * n2 } : Room) f_X5_readOne) {f_X5_addOp : List Value → ab_H → Option ab_O} (h_X5_addOp : ab_M l b D ab_cl cA (ab_E0 b) yX5_addOp (Cond.code yX5_addOp cX5_addOp 4 (some .boolean) :: ab_G) ({ frames := 1, cells := 0, slots := 0, locals := 100 } : Room) f_X5_addOp) {f_X5_readOnShore : List Value → ab_H → Option ab_O} (h_X5_readOnShore : ab_M l b D ab_cl cA (ab_E0 b) yX5_readOnShore (Cond.code yX5_readOnShore cX5_readOnShore 4 (some .boolean) :: ab_G) ({ frames := 3, cells := 0, slots := 0, locals := 300 } : Room) f_X5_readOnShore) {f_X5_readCompared : List Value → ab_H → Option ab_O} (h_X5_readCompared : ab_M l b D ab_cl cA (ab_E0 b) yX5_readCompared (Cond.code yX5_readCompared cX5_readCompared 5 (some .boolean) :: ab_G) ({ frames := 3, cells := 0, slots := 0, locals := 300 } : Room) f_X5_readCompared) : ab_M l b D ab_cl cA (ab_E0 b) yX5_readOne (Cond.code yX5_readOne cX5_readOne 6 (some .boolean) :: ab_G) ({ frames := (n + 1), cells := 0, slots := 0, locals := 100 * (n + 1) } : Room) (ab_X (ab_T (L_X5_readOne f_X9_fail f_X5_readBracket f_X9_step f_X5_readOne f_X5_addOp f_X5_readOnShore f_X5_readCompared)) 6) := by
  refine ab_meth (ret := (some .boolean)) (L_X5_readOne f_X9_fail f_X5_readBracket f_X9_step f_X5_readOne f_X5_addOp f_X5_readOnShore f_X5_readCompared) (by decide) rfl fun p e R s m args below meth c o C => ?_
  unfold L_X5_readOne
  refine List.forall_mem_cons.mpr ⟨ok_aload_n C (show decode cX5_readOne 0 = .ok (.aload_n 1, 1) by decide +kernel) rfl rfl, ?_⟩
  refine List.forall_mem_cons.mpr ⟨ok_getf C (wi_X9) rfl (by decide) kw_62 (show decode cX5_readOne 1 = .ok (.getfield 47, 3) by decide +kernel) rfl, ?_⟩
  refine List.forall_mem_cons.mpr ⟨ok_bipush C (show decode cX5_readOne 4 = .ok (.bipush 40, 2) by decide +kernel) (by decide) rfl, ?_⟩
  refine List.forall_mem_cons.mpr ⟨ok_icmpne C (show decode cX5_readOne 6 = .ok (.if_icmp .ne 7, 3) by decide +kernel) (tg := 13) (by decide) rfl rfl, ?_⟩
  refine List.forall_mem_cons.mpr ⟨ok_iconst C (show decode cX5_readOne 9 = .ok (.iconst 1, 1) by decide +kernel) (by decide) rfl, ?_⟩
  refine List.forall_mem_cons.mpr ⟨ok_goto C (show decode cX5_readOne 10 = .ok (.goto 4, 3) by decide +kernel) (tg := 14) (by decide) rfl, ?_⟩
  refine List.forall_mem_cons.mpr ⟨ok_iconst C (show decode cX5_readOne 13 = .ok (.iconst 0, 1) by decide +kernel) (by decide) rfl, ?_⟩
  refine List.forall_mem_cons.mpr ⟨ok_istore_n C (show decode cX5_readOne 14 = .ok (.istore_n 3, 1) by decide +kernel) rfl (by decide) rfl, ?_⟩
  refine List.forall_mem_cons.mpr ⟨ok_iload_n C (show decode cX5_readOne 15 = .ok (.iload_n 3, 1) by decide +kernel) rfl rfl, ?_⟩
  refine List.forall_mem_cons.mpr ⟨ok_ifne C (show decode cX5_readOne 16 = .ok (.ifCond .ne 21, 3) by decide +kernel) (tg := 37) (by decide) rfl rfl, ?_⟩
  refine List.forall_mem_cons.mpr ⟨ok_aload_n C (show decode cX5_readOne 19 = .ok (.aload_n 1, 1) by decide +kernel) rfl rfl, ?_⟩
  refine List.forall_mem_cons.mpr ⟨ok_getf C (wi_X9) rfl (by decide) kw_62 (show decode cX5_readOne 20 = .ok (.getfield 47, 3) by decide +kernel) rfl, ?_⟩
  refine List.forall_mem_cons.mpr ⟨ok_bipush C (show decode cX5_readOne 23 = .ok (.bipush 79, 2) by decide +kernel) (by decide) rfl, ?_⟩
  refine List.forall_mem_cons.mpr ⟨ok_icmplt C (show decode cX5_readOne 25 = .ok (.if_icmp .lt 16, 3) by decide +kernel) (tg := 41) (by decide) rfl rfl, ?_⟩
  refine List.forall_mem_cons.mpr ⟨ok_aload_n C (show decode cX5_readOne 28 = .ok (.aload_n 1, 1) by decide +kernel) rfl rfl, ?_⟩
  refine List.forall_mem_cons.mpr ⟨ok_getf C (wi_X9) rfl (by decide) kw_62 (show decode cX5_readOne 29 = .ok (.getfield 47, 3) by decide +kernel) rfl, ?_⟩
  refine List.forall_mem_cons.mpr ⟨ok_bipush C (show decode cX5_readOne 32 = .ok (.bipush 88, 2) by decide +kernel) (by decide) rfl, ?_⟩
  refine List.forall_mem_cons.mpr ⟨ok_icmpgt C (show decode cX5_readOne 34 = .ok (.if_icmp .gt 7, 3) by decide +kernel) (tg := 41) (by decide) rfl rfl, ?_⟩
  refine List.forall_mem_cons.mpr ⟨ok_iconst C (show decode cX5_readOne 37 = .ok (.iconst 1, 1) by decide +kernel) (by decide) rfl, ?_⟩
  refine List.forall_mem_cons.mpr ⟨ok_goto C (show decode cX5_readOne 38 = .ok (.goto 4, 3) by decide +kernel) (tg := 42) (by decide) rfl, ?_⟩
  refine List.forall_mem_cons.mpr ⟨ok_iconst C (show decode cX5_readOne 41 = .ok (.iconst 0, 1) by decide +kernel) (by decide) rfl, ?_⟩
  refine List.forall_mem_cons.mpr ⟨ok_istore C (show decode cX5_readOne 42 = .ok (.istore 4, 2) by decide +kernel) (by decide) rfl, ?_⟩
  refine List.forall_mem_cons.mpr ⟨ok_iload C (show decode cX5_readOne 44 = .ok (.iload 4, 2) by decide +kernel) rfl, ?_⟩
  refine List.forall_mem_cons.mpr ⟨ok_ifne C (show decode cX5_readOne 46 = .ok (.ifCond .ne 9, 3) by decide +kernel) (tg := 55) (by decide) rfl rfl, ?_⟩
  refine List.forall_mem_cons.mpr ⟨ok_aload_n C (show decode cX5_readOne 49 = .ok (.aload_n 1, 1) by decide +kernel) rfl rfl, ?_⟩
  refine List.forall_mem_cons.mpr ⟨ok_iconst C (show decode cX5_readOne 50 = .ok (.iconst 1, 1) by decide +kernel) (by decide) rfl, ?_⟩
  refine List.forall_mem_cons.mpr ⟨ok_callV C h_X9_fail ⟨rfl, rfl⟩ rfl kw_520 kw_974 kw_518 kw_519 kw_3 rfl ds_X9_fail ⟨by show 1 + 1 ≤ n + 1; omega, by show 8 + (2 + 11) + 100 ≤ 100 * (n + 1); omega⟩ (show decode cX5_readOne 51 = .ok (.invokevirtual 50, 3) by decide +kernel) rfl, ?_⟩
  refine List.forall_mem_cons.mpr ⟨ok_zret C rfl (show decode cX5_readOne 54 = .ok (.ireturn, 1) by decide +kernel), ?_⟩
  refine List.forall_mem_cons.mpr ⟨ok_aload_n C (show decode cX5_readOne 55 = .ok (.aload_n 0, 1) by decide +kernel) rfl rfl, ?_⟩
  refine List.forall_mem_cons.mpr ⟨ok_getf C (wi_X5) rfl (by decide) kw_298 (show decode cX5_readOne 56 = .ok (.getfield 31, 3) by decide +kernel) rfl, ?_⟩
  refine List.forall_mem_cons.mpr ⟨ok_bipush C (show decode cX5_readOne 59 = .ok (.bipush 20, 2) by decide +kernel) (by decide) rfl, ?_⟩
  refine List.forall_mem_cons.mpr ⟨ok_icmpge C (show decode cX5_readOne 61 = .ok (.if_icmp .ge 9, 3) by decide +kernel) (tg := 70) (by decide) rfl rfl, ?_⟩
  refine List.forall_mem_cons.mpr ⟨ok_iload_n C (show decode cX5_readOne 64 = .ok (.iload_n 2, 1) by decide +kernel) rfl rfl, ?_⟩
  refine List.forall_mem_cons.mpr ⟨ok_bipush C (show decode cX5_readOne 65 = .ok (.bipush 8, 2) by decide +kernel) (by decide) rfl, ?_⟩
  refine List.forall_mem_cons.mpr ⟨ok_icmple C (show decode cX5_readOne 67 = .ok (.if_icmp .le 9, 3) by decide +kernel) (tg := 76) (by decide) rfl rfl, ?_⟩
  refine List.forall_mem_cons.mpr ⟨ok_aload_n C (show decode cX5_readOne 70 = .ok (.aload_n 1, 1) by decide +kernel) rfl rfl, ?_⟩
  refine List.forall_mem_cons.mpr ⟨ok_iconst C (show decode cX5_readOne 71 = .ok (.iconst 4, 1) by decide +kernel) (by decide) rfl, ?_⟩
  refine List.forall_mem_cons.mpr ⟨ok_callV C h_X9_fail ⟨rfl, rfl⟩ rfl kw_520 kw_974 kw_518 kw_519 kw_3 rfl ds_X9_fail ⟨by show 1 + 1 ≤ n + 1; omega, by show 8 + (2 + 11) + 100 ≤ 100 * (n + 1); omega⟩ (show decode cX5_readOne 72 = .ok (.invokevirtual 50, 3) by decide +kernel) rfl, ?_⟩
  refine List.forall_mem_cons.mpr ⟨ok_zret C rfl (show decode cX5_readOne 75 = .ok (.ireturn, 1) by decide +kernel), ?_⟩
  refine List.forall_mem_cons.mpr ⟨ok_aload_n C (show decode cX5_readOne 76 = .ok (.aload_n 0, 1) by decide +kernel) rfl rfl, ?_⟩
  refine List.forall_mem_cons.mpr ⟨ok_dup C (show decode cX5_readOne 77 = .ok (.dup, 1) by decide +kernel) rfl, ?_⟩
  refine List.forall_mem_cons.mpr ⟨ok_getf C (wi_X5) rfl (by decide) kw_298 (show decode cX5_readOne 78 = .ok (.getfield 31, 3) by decide +kernel) rfl, ?_⟩
  refine List.forall_mem_cons.mpr ⟨ok_iconst C (show decode cX5_readOne 81 = .ok (.iconst 1, 1) by decide +kernel) (by decide) rfl, ?_⟩
  refine List.forall_mem_cons.mpr ⟨ok_iadd C (show decode cX5_readOne 82 = .ok (.iadd, 1) by decide +kernel) rfl, ?_⟩
  refine List.forall_mem_cons.mpr ⟨ok_putf C (wi_X5) tyX5 tyX5_ok nmX5 rfl (by decide) kw_298 (Or.inl rfl) (Or.inl ⟨rfl, rfl⟩) (show decode cX5_readOne 83 = .ok (.putfield 31, 3) by decide +kernel) rfl, ?_⟩
  refine List.forall_mem_cons.mpr ⟨ok_iload_n C (show decode cX5_readOne 86 = .ok (.iload_n 3, 1) by decide +kernel) rfl rfl, ?_⟩
  refine List.forall_mem_cons.mpr ⟨ok_ifeq C (show decode cX5_readOne 87 = .ok (.ifCond .eq 10, 3) by decide +kernel) (tg := 97) (by decide) rfl rfl, ?_⟩
  refine List.forall_mem_cons.mpr ⟨ok_aload_n C (show decode cX5_readOne 90 = .ok (.aload_n 0, 1) by decide +kernel) rfl rfl, ?_⟩
  refine List.forall_mem_cons.mpr ⟨ok_aload_n C (show decode cX5_readOne 91 = .ok (.aload_n 1, 1) by decide +kernel) rfl rfl, ?_⟩
  refine List.forall_mem_cons.mpr ⟨ok_iload_n C (show decode cX5_readOne 92 = .ok (.iload_n 2, 1) by decide +kernel) rfl rfl, ?_⟩
  refine List.forall_mem_cons.mpr ⟨ok_callV C h_X5_readBracket ⟨rfl, rfl⟩ rfl kw_978 kw_975 kw_977 kp_41 kw_10 rfl ds_X5_readBracket ⟨by show n + 1 ≤ n + 1; omega, by show 8 + (3 + 11) + 100 * n ≤ 100 * (n + 1); omega⟩ (show decode cX5_readOne 93 = .ok (.invokevirtual 64, 3) by decide +kernel) rfl, ?_⟩
  refine List.forall_mem_cons.mpr ⟨ok_zret C rfl (show decode cX5_readOne 96 = .ok (.ireturn, 1) by decide +kernel), ?_⟩
  refine List.forall_mem_cons.mpr ⟨ok_aload_n C (show decode cX5_readOne 97 = .ok (.aload_n 1, 1) by decide +kernel) rfl rfl, ?_⟩
  refine List.forall_mem_cons.mpr ⟨ok_getf C (wi_X9) rfl (by decide) kw_62 (show decode cX5_readOne 98 = .ok (.getfield 47, 3) by decide +kernel) rfl, ?_⟩
  refine List.forall_mem_cons.mpr ⟨ok_istore C (show decode cX5_readOne 101 = .ok (.istore 5, 2) by decide +kernel) (by decide) rfl, ?_⟩
  refine List.forall_mem_cons.mpr ⟨ok_iload C (show decode cX5_readOne 103 = .ok (.iload 5, 2) by decide +kernel) rfl, ?_⟩
  refine List.forall_mem_cons.mpr ⟨ok_bipush C (show decode cX5_readOne 105 = .ok (.bipush 79, 2) by decide +kernel) (by decide) rfl, ?_⟩
  refine List.forall_mem_cons.mpr ⟨ok_icmpne C (show decode cX5_readOne 107 = .ok (.if_icmp .ne 35, 3) by decide +kernel) (tg := 142) (by decide) rfl rfl, ?_⟩
  refine List.forall_mem_cons.mpr ⟨ok_aload_n C (show decode cX5_readOne 110 = .ok (.aload_n 1, 1) by decide +kernel) rfl rfl, ?_⟩
  refine List.forall_mem_cons.mpr ⟨ok_callV C h_X9_step ⟨rfl, rfl⟩ rfl kw_499 kw_961 kw_497 kw_498 kw_3 rfl ds_X9_step ⟨by show 1 + 1 ≤ n + 1; omega, by show 8 + (1 + 11) + 100 ≤ 100 * (n + 1); omega⟩ (show decode cX5_readOne 111 = .ok (.invokevirtual 38, 3) by decide +kernel) rfl, ?_⟩
  refine List.forall_mem_cons.mpr ⟨ok_aload_n C (show decode cX5_readOne 114 = .ok (.aload_n 0, 1) by decide +kernel) rfl rfl, ?_⟩
  refine List.forall_mem_cons.mpr ⟨ok_aload_n C (show decode cX5_readOne 115 = .ok (.aload_n 1, 1) by decide +kernel) rfl rfl, ?_⟩
  refine List.forall_mem_cons.mpr ⟨ok_iload_n C (show decode cX5_readOne 116 = .ok (.iload_n 2, 1) by decide +kernel) rfl rfl, ?_⟩
  refine List.forall_mem_cons.mpr ⟨ok_iconst C (show decode cX5_readOne 117 = .ok (.iconst 1, 1) by decide +kernel) (by decide) rfl, ?_⟩
  refine List.forall_mem_cons.mpr ⟨ok_iadd C (show decode cX5_readOne 118 = .ok (.iadd, 1) by decide +kernel) rfl, ?_⟩
  refine List.forall_mem_cons.mpr ⟨ok_callV C h_X5_readOne ⟨rfl, rfl⟩ rfl kw_973 kw_970 kw_972 kp_40 kw_10 rfl ds_X5_readOne ⟨by show n2 + 1 ≤ n + 1; omega, by show 8 + (6 + 11) + 100 * n2 ≤ 100 * (n + 1); omega⟩ (show decode cX5_readOne 119 = .ok (.invokevirtual 61, 3) by decide +kernel) rfl, ?_⟩
  refine List.forall_mem_cons.mpr ⟨ok_ifeq C (show decode cX5_readOne 122 = .ok (.ifCond .eq 18, 3) by decide +kernel) (tg := 140) (by decide) rfl rfl, ?_⟩
  refine List.forall_mem_cons.mpr ⟨ok_aload_n C (show decode cX5_readOne 125 = .ok (.aload_n 0, 1) by decide +kernel) rfl rfl, ?_⟩
  refine List.forall_mem_cons.mpr ⟨ok_bipush C (show decode cX5_readOne 126 = .ok (.bipush 79, 2) by decide +kernel) (by decide) rfl, ?_⟩
  refine List.forall_mem_cons.mpr ⟨ok_iconst C (show decode cX5_readOne 128 = .ok (.iconst 0, 1) by decide +kernel) (by decide) rfl, ?_⟩
  refine List.forall_mem_cons.mpr ⟨ok_iconst C (show decode cX5_readOne 129 = .ok (.iconst 0, 1) by decide +kernel) (by decide) rfl, ?_⟩
  refine List.forall_mem_cons.mpr ⟨ok_callV C h_X5_addOp ⟨rfl, rfl⟩ rfl kw_982 kw_979 kw_981 kp_42 kw_10 rfl ds_X5_addOp ⟨by show 1 + 1 ≤ n + 1; omega, by show 8 + (4 + 11) + 100 ≤ 100 * (n + 1); omega⟩ (show decode cX5_readOne 130 = .ok (.invokevirtual 57, 3) by decide +kernel) rfl, ?_⟩
  refine List.forall_mem_cons.mpr ⟨ok_ifeq C (show decode cX5_readOne 133 = .ok (.ifCond .eq 7, 3) by decide +kernel) (tg := 140) (by decide) rfl rfl, ?_⟩
  refine List.forall_mem_cons.mpr ⟨ok_iconst C (show decode cX5_readOne 136 = .ok (.iconst 1, 1) by decide +kernel) (by decide) rfl, ?_⟩
  refine List.forall_mem_cons.mpr ⟨ok_goto C (show decode cX5_readOne 137 = .ok (.goto 4, 3) by decide +kernel) (tg := 141) (by decide) rfl, ?_⟩
  refine List.forall_mem_cons.mpr ⟨ok_iconst C (show decode cX5_readOne 140 = .ok (.iconst 0, 1) by decide +kernel) (by decide) rfl, ?_⟩
  refine List.forall_mem_cons.mpr ⟨ok_zret C rfl (show decode cX5_readOne 141 = .ok (.ireturn, 1) by decide +kernel), ?_⟩
  refine List.forall_mem_cons.mpr ⟨ok_iload C (show decode cX5_readOne 142 = .ok (.iload 5, 2) by decide +kernel) rfl, ?_⟩
  refine List.forall_mem_cons.mpr ⟨ok_bipush C (show decode cX5_readOne 144 = .ok (.bipush 84, 2) by decide +kernel) (by decide) rfl, ?_⟩
  refine List.forall_mem_cons.mpr ⟨ok_icmpgt C (show decode cX5_readOne 146 = .ok (.if_icmp .gt 13, 3) by decide +kernel) (tg := 159) (by decide) rfl rfl, ?_⟩
  refine List.forall_mem_cons.mpr ⟨ok_aload_n C (show decode cX5_readOne 149 = .ok (.aload_n 0, 1) by decide +kernel) rfl rfl, ?_⟩
  refine List.forall_mem_cons.mpr ⟨ok_aload_n C (show decode cX5_readOne 150 = .ok (.aload_n 1, 1) by decide +kernel) rfl rfl, ?_⟩
  refine List.forall_mem_cons.mpr ⟨ok_iload C (show decode cX5_readOne 151 = .ok (.iload 5, 2) by decide +kernel) rfl, ?_⟩
  refine List.forall_mem_cons.mpr ⟨ok_callV C h_X5_readOnShore ⟨rfl, rfl⟩ rfl kw_986 kw_983 kw_985 kp_43 kw_10 rfl ds_X5_readOnShore ⟨by show 3 + 1 ≤ n + 1; omega, by show 8 + (4 + 11) + 300 ≤ 100 * (n + 1); omega⟩ (show decode cX5_readOne 153 = .ok (.invokevirtual 67, 3) by decide +kernel) rfl, ?_⟩
  refine List.forall_mem_cons.mpr ⟨ok_goto C (show decode cX5_readOne 156 = .ok (.goto 10, 3) by decide +kernel) (tg := 166) (by decide) rfl, ?_⟩
  refine List.forall_mem_cons.mpr ⟨ok_aload_n C (show decode cX5_readOne 159 = .ok (.aload_n 0, 1) by decide +kernel) rfl rfl, ?_⟩
  refine List.forall_mem_cons.mpr ⟨ok_aload_n C (show decode cX5_readOne 160 = .ok (.aload_n 1, 1) by decide +kernel) rfl rfl, ?_⟩
  refine List.forall_mem_cons.mpr ⟨ok_iload C (show decode cX5_readOne 161 = .ok (.iload 5, 2) by decide +kernel) rfl, ?_⟩
  refine List.forall_mem_cons.mpr ⟨ok_callV C h_X5_readCompared ⟨rfl, rfl⟩ rfl kw_991 kw_988 kw_990 kp_44 kw_10 rfl ds_X5_readCompared ⟨by show 3 + 1 ≤ n + 1; omega, by show 8 + (5 + 11) + 300 ≤ 100 * (n + 1); omega⟩ (show decode cX5_readOne 163 = .ok (.invokevirtual 70, 3) by decide +kernel) rfl, ?_⟩
  refine List.forall_mem_cons.mpr ⟨ok_zret C rfl (show decode cX5_readOne 166 = .ok (.ireturn, 1) by decide +kernel), ?_⟩
  exact fun _ h => absurd h List.not_mem_nil
def L_X5_readBracket (f_X9_step : List Value → ab_H → Option ab_O) (f_X5_readCond : List Value → ab_H → Option ab_O) (f_X9_fail : List Value → ab_H → Option ab_O) : List (Nat × ab_A) := [
  (0, ab_nx 1 (ab_aload 1)),
  (1, ab_nx 4 (ab_callV 1 9 f_X9_step 0 0 0 0)),
  (4, ab_nx 5 (ab_aload 0)),
  (5, ab_nx 6 (ab_aload 1)),
  (6, ab_nx 7 (ab_iload 2)),
  (7, ab_nx 8 (ab_lit (.int 1))),
  (8, ab_nx 9 (ab_bin (fun x y => x + y))),
  (9, ab_nx 12 (ab_callV 3 5 f_X5_readCond 0 0 0 0)),
  (12, ab_if 15 17 (fun x => !decide (x = 0))),
  (15, ab_nx 16 (ab_lit (.int 0))),
  (16, ab_zret 0 0),
  (17, ab_nx 18 (ab_aload 1)),
  (18, ab_nx 21 (ab_getf 9 5)),
  (21, ab_nx 23 (ab_lit (.int 41))),
  (23, ab_icmp 26 32 (fun x y => decide (x = y))),
  (26, ab_nx 27 (ab_aload 1)),
  (27, ab_nx 28 (ab_lit (.int 1))),
  (28, ab_nx 31 (ab_callV 2 9 f_X9_fail 0 0 0 0)),
  (31, ab_zret 0 0),
  (32, ab_nx 33 (ab_aload 1)),
  (33, ab_nx 36 (ab_callV 1 9 f_X9_step 0 0 0 0)),
  (36, ab_nx 37 (ab_lit (.int 1))),
  (37, ab_zret 0 0)]
set_option maxRecDepth 100000 in
set_option maxHeartbeats 4000000 in
theorem M_X5_readBracket {l : Launch} {b : ab_B} {D : va_G} {cA : Nat → ClassId} {n : Nat} (hn : 4 ≤ n) {f_X9_step : List Value → ab_H → Option ab_O} (h_X9_step : ab_M l b D ab_cl cA (ab_E0 b) yX9_step (Cond.code yX9_step cX9_step 1 none :: ab_G) ({ frames := 1, cells := 0, slots := 0, locals := 100 } : Room) f_X9_step) {f_X5_readCond : List Value → ab_H → Option ab_O} (h_X5_readCond : ab_M l b D ab_cl cA (ab_E0 b) yX5_readCond (Cond.code yX5_readCond cX5_readCond 4 (some .boolean) :: ab_G) ({ frames := n, cells := 0, slots := 0, locals := 100 * n } : Room) f_X5_readCond) {f_X9_fail : List Value → ab_H → Option ab_O} (h_X9_fail : ab_M l b D ab_cl cA (ab_E0 b) yX9_fail (Cond.code yX9_fail cX9_fail 2 (some .boolean) :: ab_G) ({ frames := 1, cells := 0, slots := 0, locals := 100 } : Room) f_X9_fail) : ab_M l b D ab_cl cA (ab_E0 b) yX5_readBracket (Cond.code yX5_readBracket cX5_readBracket 3 (some .boolean) :: ab_G) ({ frames := (n + 1), cells := 0, slots := 0, locals := 100 * (n + 1) } : Room) (ab_X (ab_T (L_X5_readBracket f_X9_step f_X5_readCond f_X9_fail)) 3) := by
  refine ab_meth (ret := (some .boolean)) (L_X5_readBracket f_X9_step f_X5_readCond f_X9_fail) (by decide) rfl fun p e R s m args below meth c o C => ?_
  unfold L_X5_readBracket
  refine List.forall_mem_cons.mpr ⟨ok_aload_n C (show decode cX5_readBracket 0 = .ok (.aload_n 1, 1) by decide +kernel) rfl rfl, ?_⟩
  refine List.forall_mem_cons.mpr ⟨ok_callV C h_X9_step ⟨rfl, rfl⟩ rfl kw_499 kw_961 kw_497 kw_498 kw_3 rfl ds_X9_step ⟨by show 1 + 1 ≤ n + 1; omega, by show 8 + (1 + 11) + 100 ≤ 100 * (n + 1); omega⟩ (show decode cX5_readBracket 1 = .ok (.invokevirtual 38, 3) by decide +kernel) rfl, ?_⟩
  refine List.forall_mem_cons.mpr ⟨ok_aload_n C (show decode cX5_readBracket 4 = .ok (.aload_n 0, 1) by decide +kernel) rfl rfl, ?_⟩
  refine List.forall_mem_cons.mpr ⟨ok_aload_n C (show decode cX5_readBracket 5 = .ok (.aload_n 1, 1) by decide +kernel) rfl rfl, ?_⟩
  refine List.forall_mem_cons.mpr ⟨ok_iload_n C (show decode cX5_readBracket 6 = .ok (.iload_n 2, 1) by decide +kernel) rfl rfl, ?_⟩
  refine List.forall_mem_cons.mpr ⟨ok_iconst C (show decode cX5_readBracket 7 = .ok (.iconst 1, 1) by decide +kernel) (by decide) rfl, ?_⟩
  refine List.forall_mem_cons.mpr ⟨ok_iadd C (show decode cX5_readBracket 8 = .ok (.iadd, 1) by decide +kernel) rfl, ?_⟩
  refine List.forall_mem_cons.mpr ⟨ok_callV C h_X5_readCond ⟨rfl, rfl⟩ rfl kw_965 kw_962 kw_964 kp_38 kw_10 rfl ds_X5_readCond ⟨by show n + 1 ≤ n + 1; omega, by show 8 + (4 + 11) + 100 * n ≤ 100 * (n + 1); omega⟩ (show decode cX5_readBracket 9 = .ok (.invokevirtual 43, 3) by decide +kernel) rfl, ?_⟩
  refine List.forall_mem_cons.mpr ⟨ok_ifne C (show decode cX5_readBracket 12 = .ok (.ifCond .ne 5, 3) by decide +kernel) (tg := 17) (by decide) rfl rfl, ?_⟩
  refine List.forall_mem_cons.mpr ⟨ok_iconst C (show decode cX5_readBracket 15 = .ok (.iconst 0, 1) by decide +kernel) (by decide) rfl, ?_⟩
  refine List.forall_mem_cons.mpr ⟨ok_zret C rfl (show decode cX5_readBracket 16 = .ok (.ireturn, 1) by decide +kernel), ?_⟩
  refine List.forall_mem_cons.mpr ⟨ok_aload_n C (show decode cX5_readBracket 17 = .ok (.aload_n 1, 1) by decide +kernel) rfl rfl, ?_⟩
  refine List.forall_mem_cons.mpr ⟨ok_getf C (wi_X9) rfl (by decide) kw_62 (show decode cX5_readBracket 18 = .ok (.getfield 47, 3) by decide +kernel) rfl, ?_⟩
  refine List.forall_mem_cons.mpr ⟨ok_bipush C (show decode cX5_readBracket 21 = .ok (.bipush 41, 2) by decide +kernel) (by decide) rfl, ?_⟩
  refine List.forall_mem_cons.mpr ⟨ok_icmpeq C (show decode cX5_readBracket 23 = .ok (.if_icmp .eq 9, 3) by decide +kernel) (tg := 32) (by decide) rfl rfl, ?_⟩
  refine List.forall_mem_cons.mpr ⟨ok_aload_n C (show decode cX5_readBracket 26 = .ok (.aload_n 1, 1) by decide +kernel) rfl rfl, ?_⟩
  refine List.forall_mem_cons.mpr ⟨ok_iconst C (show decode cX5_readBracket 27 = .ok (.iconst 1, 1) by decide +kernel) (by decide) rfl, ?_⟩
  refine List.forall_mem_cons.mpr ⟨ok_callV C h_X9_fail ⟨rfl, rfl⟩ rfl kw_520 kw_974 kw_518 kw_519 kw_3 rfl ds_X9_fail ⟨by show 1 + 1 ≤ n + 1; omega, by show 8 + (2 + 11) + 100 ≤ 100 * (n + 1); omega⟩ (show decode cX5_readBracket 28 = .ok (.invokevirtual 50, 3) by decide +kernel) rfl, ?_⟩
  refine List.forall_mem_cons.mpr ⟨ok_zret C rfl (show decode cX5_readBracket 31 = .ok (.ireturn, 1) by decide +kernel), ?_⟩
  refine List.forall_mem_cons.mpr ⟨ok_aload_n C (show decode cX5_readBracket 32 = .ok (.aload_n 1, 1) by decide +kernel) rfl rfl, ?_⟩
  refine List.forall_mem_cons.mpr ⟨ok_callV C h_X9_step ⟨rfl, rfl⟩ rfl kw_499 kw_961 kw_497 kw_498 kw_3 rfl ds_X9_step ⟨by show 1 + 1 ≤ n + 1; omega, by show 8 + (1 + 11) + 100 ≤ 100 * (n + 1); omega⟩ (show decode cX5_readBracket 33 = .ok (.invokevirtual 38, 3) by decide +kernel) rfl, ?_⟩
  refine List.forall_mem_cons.mpr ⟨ok_iconst C (show decode cX5_readBracket 36 = .ok (.iconst 1, 1) by decide +kernel) (by decide) rfl, ?_⟩
  refine List.forall_mem_cons.mpr ⟨ok_zret C rfl (show decode cX5_readBracket 37 = .ok (.ireturn, 1) by decide +kernel), ?_⟩
  exact fun _ h => absurd h List.not_mem_nil
def L_X6_isFalse (f_X7_amountOf : List Value → ab_H → Option ab_O) : List (Nat × ab_A) := [
  (0, ab_nx 1 (ab_aload 1)),
  (1, ab_nx 2 (ab_lit (.int 1))),
  (2, ab_nx 3 (ab_iload 2)),
  (3, ab_nx 6 (ab_callV 3 7 f_X7_amountOf 0 0 0 0)),
  (6, ab_nx 7 (ab_istore 3)),
  (7, ab_nx 8 (ab_aload 0)),
  (8, ab_nx 11 (ab_getf 6 0)),
  (11, ab_nx 12 (ab_iload 2)),
  (12, ab_nx 13 (ab_ald 1)),
  (13, ab_nx 14 (ab_iload 3)),
  (14, ab_icmp 17 38 (fun x y => decide (y ≤ x))),
  (17, ab_nx 18 (ab_aload 0)),
  (18, ab_nx 21 (ab_getf 6 0)),
  (21, ab_nx 22 (ab_iload 2)),
  (22, ab_nx 23 (ab_ald 1)),
  (23, ab_nx 24 (ab_aload 0)),
  (24, ab_nx 27 (ab_getf 6 1)),
  (27, ab_nx 28 (ab_iload 2)),
  (28, ab_nx 29 (ab_ald 1)),
  (29, ab_nx 30 (ab_bin (fun x y => x + y))),
  (30, ab_nx 31 (ab_iload 3)),
  (31, ab_icmp 34 38 (fun x y => decide (x < y))),
  (34, ab_nx 35 (ab_lit (.int 1))),
  (35, ab_goto 39),
  (38, ab_nx 39 (ab_lit (.int 0))),
  (39, ab_zret 0 0)]
set_option maxRecDepth 100000 in
set_option maxHeartbeats 4000000 in
theorem M_X6_isFalse {l : Launch} {b : ab_B} {D : va_G} {cA : Nat → ClassId} {f_X7_amountOf : List Value → ab_H → Option ab_O} (h_X7_amountOf : ab_M l b D ab_cl cA (ab_E0 b) yX7_amountOf (Cond.code yX7_amountOf cX7_amountOf 3 (some .int) :: ab_G) ({ frames := 1, cells := 0, slots := 0, locals := 100 } : Room) f_X7_amountOf) : ab_M l b D ab_cl cA (ab_E0 b) yX6_isFalse (Cond.code yX6_isFalse cX6_isFalse 4 (some .boolean) :: ab_G) ({ frames := 2, cells := 0, slots := 0, locals := 200 } : Room) (ab_X (ab_T (L_X6_isFalse f_X7_amountOf)) 4) := by
  refine ab_meth (ret := (some .boolean)) (L_X6_isFalse f_X7_amountOf) (by decide) rfl fun p e R s m args below meth c o C => ?_
  unfold L_X6_isFalse
  refine List.forall_mem_cons.mpr ⟨ok_aload_n C (show decode cX6_isFalse 0 = .ok (.aload_n 1, 1) by decide +kernel) rfl rfl, ?_⟩
  refine List.forall_mem_cons.mpr ⟨ok_iconst C (show decode cX6_isFalse 1 = .ok (.iconst 1, 1) by decide +kernel) (by decide) rfl, ?_⟩
  refine List.forall_mem_cons.mpr ⟨ok_iload_n C (show decode cX6_isFalse 2 = .ok (.iload_n 2, 1) by decide +kernel) rfl rfl, ?_⟩
  refine List.forall_mem_cons.mpr ⟨ok_callV C h_X7_amountOf ⟨rfl, rfl⟩ rfl kw_576 kw_573 kw_574 kw_575 kw_9 rfl ds_X7_amountOf ⟨by decide, by decide⟩ (show decode cX6_isFalse 3 = .ok (.invokevirtual 33, 3) by decide +kernel) rfl, ?_⟩
  refine List.forall_mem_cons.mpr ⟨ok_istore_n C (show decode cX6_isFalse 6 = .ok (.istore_n 3, 1) by decide +kernel) rfl (by decide) rfl, ?_⟩
  refine List.forall_mem_cons.mpr ⟨ok_aload_n C (show decode cX6_isFalse 7 = .ok (.aload_n 0, 1) by decide +kernel) rfl rfl, ?_⟩
  refine List.forall_mem_cons.mpr ⟨ok_getf C (wi_X6) rfl (by decide) kw_142 (show decode cX6_isFalse 8 = .ok (.getfield 9, 3) by decide +kernel) rfl, ?_⟩
  refine List.forall_mem_cons.mpr ⟨ok_iload_n C (show decode cX6_isFalse 11 = .ok (.iload_n 2, 1) by decide +kernel) rfl rfl, ?_⟩
  refine List.forall_mem_cons.mpr ⟨ok_iaload C (show decode cX6_isFalse 12 = .ok (.iaload, 1) by decide +kernel) rfl, ?_⟩
  refine List.forall_mem_cons.mpr ⟨ok_iload_n C (show decode cX6_isFalse 13 = .ok (.iload_n 3, 1) by decide +kernel) rfl rfl, ?_⟩
  refine List.forall_mem_cons.mpr ⟨ok_icmpge C (show decode cX6_isFalse 14 = .ok (.if_icmp .ge 24, 3) by decide +kernel) (tg := 38) (by decide) rfl rfl, ?_⟩
  refine List.forall_mem_cons.mpr ⟨ok_aload_n C (show decode cX6_isFalse 17 = .ok (.aload_n 0, 1) by decide +kernel) rfl rfl, ?_⟩
  refine List.forall_mem_cons.mpr ⟨ok_getf C (wi_X6) rfl (by decide) kw_142 (show decode cX6_isFalse 18 = .ok (.getfield 9, 3) by decide +kernel) rfl, ?_⟩
  refine List.forall_mem_cons.mpr ⟨ok_iload_n C (show decode cX6_isFalse 21 = .ok (.iload_n 2, 1) by decide +kernel) rfl rfl, ?_⟩
  refine List.forall_mem_cons.mpr ⟨ok_iaload C (show decode cX6_isFalse 22 = .ok (.iaload, 1) by decide +kernel) rfl, ?_⟩
  refine List.forall_mem_cons.mpr ⟨ok_aload_n C (show decode cX6_isFalse 23 = .ok (.aload_n 0, 1) by decide +kernel) rfl rfl, ?_⟩
  refine List.forall_mem_cons.mpr ⟨ok_getf C (wi_X6) rfl (by decide) kw_146 (show decode cX6_isFalse 24 = .ok (.getfield 15, 3) by decide +kernel) rfl, ?_⟩
  refine List.forall_mem_cons.mpr ⟨ok_iload_n C (show decode cX6_isFalse 27 = .ok (.iload_n 2, 1) by decide +kernel) rfl rfl, ?_⟩
  refine List.forall_mem_cons.mpr ⟨ok_iaload C (show decode cX6_isFalse 28 = .ok (.iaload, 1) by decide +kernel) rfl, ?_⟩
  refine List.forall_mem_cons.mpr ⟨ok_iadd C (show decode cX6_isFalse 29 = .ok (.iadd, 1) by decide +kernel) rfl, ?_⟩
  refine List.forall_mem_cons.mpr ⟨ok_iload_n C (show decode cX6_isFalse 30 = .ok (.iload_n 3, 1) by decide +kernel) rfl rfl, ?_⟩
  refine List.forall_mem_cons.mpr ⟨ok_icmplt C (show decode cX6_isFalse 31 = .ok (.if_icmp .lt 7, 3) by decide +kernel) (tg := 38) (by decide) rfl rfl, ?_⟩
  refine List.forall_mem_cons.mpr ⟨ok_iconst C (show decode cX6_isFalse 34 = .ok (.iconst 1, 1) by decide +kernel) (by decide) rfl, ?_⟩
  refine List.forall_mem_cons.mpr ⟨ok_goto C (show decode cX6_isFalse 35 = .ok (.goto 4, 3) by decide +kernel) (tg := 39) (by decide) rfl, ?_⟩
  refine List.forall_mem_cons.mpr ⟨ok_iconst C (show decode cX6_isFalse 38 = .ok (.iconst 0, 1) by decide +kernel) (by decide) rfl, ?_⟩
  refine List.forall_mem_cons.mpr ⟨ok_zret C rfl (show decode cX6_isFalse 39 = .ok (.ireturn, 1) by decide +kernel), ?_⟩
  exact fun _ h => absurd h List.not_mem_nil
def L_X5_isSoThere (f_X6_lackAt : List Value → ab_H → Option ab_O) (f_X7_amountOf : List Value → ab_H → Option ab_O) (f_X6_isFalse : List Value → ab_H → Option ab_O) : List (Nat × ab_A) := [
  (0, ab_nx 1 (ab_iload 0)),
  (1, ab_tab 80 [32, 47, 62, 77] 92),
  (32, ab_nx 33 (ab_aload 3)),
  (33, ab_nx 34 (ab_aload 2)),
  (34, ab_nx 35 (ab_iload 1)),
  (35, ab_nx 38 (ab_callV 3 6 f_X6_lackAt 0 0 0 0)),
  (38, ab_if 41 45 (fun x => decide (x ≤ 0))),
  (41, ab_nx 42 (ab_lit (.int 1))),
  (42, ab_goto 46),
  (45, ab_nx 46 (ab_lit (.int 0))),
  (46, ab_zret 0 0),
  (47, ab_nx 48 (ab_aload 3)),
  (48, ab_nx 51 (ab_getf 6 1)),
  (51, ab_nx 52 (ab_iload 1)),
  (52, ab_nx 53 (ab_ald 1)),
  (53, ab_if 56 60 (fun x => decide (x ≤ 0))),
  (56, ab_nx 57 (ab_lit (.int 1))),
  (57, ab_goto 61),
  (60, ab_nx 61 (ab_lit (.int 0))),
  (61, ab_zret 0 0),
  (62, ab_nx 63 (ab_aload 2)),
  (63, ab_nx 64 (ab_lit (.int 3))),
  (64, ab_nx 65 (ab_iload 1)),
  (65, ab_nx 68 (ab_callV 3 7 f_X7_amountOf 0 0 0 0)),
  (68, ab_if 71 75 (fun x => decide (x ≤ 0))),
  (71, ab_nx 72 (ab_lit (.int 1))),
  (72, ab_goto 76),
  (75, ab_nx 76 (ab_lit (.int 0))),
  (76, ab_zret 0 0),
  (77, ab_nx 78 (ab_aload 2)),
  (78, ab_nx 79 (ab_lit (.int 2))),
  (79, ab_nx 80 (ab_iload 1)),
  (80, ab_nx 83 (ab_callV 3 7 f_X7_amountOf 0 0 0 0)),
  (83, ab_if 86 90 (fun x => decide (x ≤ 0))),
  (86, ab_nx 87 (ab_lit (.int 1))),
  (87, ab_goto 91),
  (90, ab_nx 91 (ab_lit (.int 0))),
  (91, ab_zret 0 0),
  (92, ab_nx 93 (ab_aload 3)),
  (93, ab_nx 94 (ab_aload 2)),
  (94, ab_nx 95 (ab_iload 1)),
  (95, ab_nx 98 (ab_callV 3 6 f_X6_isFalse 0 0 0 0)),
  (98, ab_zret 0 0)]
set_option maxRecDepth 100000 in
set_option maxHeartbeats 4000000 in
theorem M_X5_isSoThere {l : Launch} {b : ab_B} {D : va_G} {cA : Nat → ClassId} {f_X6_lackAt : List Value → ab_H → Option ab_O} (h_X6_lackAt : ab_M l b D ab_cl cA (ab_E0 b) yX6_lackAt (Cond.code yX6_lackAt cX6_lackAt 3 (some .int) :: ab_G) ({ frames := 2, cells := 0, slots := 0, locals := 200 } : Room) f_X6_lackAt) {f_X7_amountOf : List Value → ab_H → Option ab_O} (h_X7_amountOf : ab_M l b D ab_cl cA (ab_E0 b) yX7_amountOf (Cond.code yX7_amountOf cX7_amountOf 3 (some .int) :: ab_G) ({ frames := 1, cells := 0, slots := 0, locals := 100 } : Room) f_X7_amountOf) {f_X6_isFalse : List Value → ab_H → Option ab_O} (h_X6_isFalse : ab_M l b D ab_cl cA (ab_E0 b) yX6_isFalse (Cond.code yX6_isFalse cX6_isFalse 4 (some .boolean) :: ab_G) ({ frames := 2, cells := 0, slots := 0, locals := 200 } : Room) f_X6_isFalse) : ab_M l b D ab_cl cA (ab_E0 b) yX5_isSoThere (Cond.code yX5_isSoThere cX5_isSoThere 4 (some .boolean) :: ab_G) ({ frames := 3, cells := 0, slots := 0, locals := 300 } : Room) (ab_X (ab_T (L_X5_isSoThere f_X6_lackAt f_X7_amountOf f_X6_isFalse)) 4) := by
  refine ab_meth (ret := (some .boolean)) (L_X5_isSoThere f_X6_lackAt f_X7_amountOf f_X6_isFalse) (by decide) rfl fun p e R s m args below meth c o C => ?_
  unfold L_X5_isSoThere
  refine List.forall_mem_cons.mpr ⟨ok_iload_n C (show decode cX5_isSoThere 0 = .ok (.iload_n 0, 1) by decide +kernel) rfl rfl, ?_⟩
  refine List.forall_mem_cons.mpr ⟨ok_tab C (show decode cX5_isSoThere 1 = .ok (.tableswitch 91 80 83 #[31, 46, 61, 76], 31) by decide +kernel) (by decide) (by decide) (by decide), ?_⟩
  refine List.forall_mem_cons.mpr ⟨ok_aload_n C (show decode cX5_isSoThere 32 = .ok (.aload_n 3, 1) by decide +kernel) rfl rfl, ?_⟩
  refine List.forall_mem_cons.mpr ⟨ok_aload_n C (show decode cX5_isSoThere 33 = .ok (.aload_n 2, 1) by decide +kernel) rfl rfl, ?_⟩
  refine List.forall_mem_cons.mpr ⟨ok_iload_n C (show decode cX5_isSoThere 34 = .ok (.iload_n 1, 1) by decide +kernel) rfl rfl, ?_⟩
  refine List.forall_mem_cons.mpr ⟨ok_callV C h_X6_lackAt ⟨rfl, rfl⟩ rfl kw_605 kw_1008 kw_603 kw_604 kw_6 rfl ds_X6_lackAt ⟨by decide, by decide⟩ (show decode cX5_isSoThere 35 = .ok (.invokevirtual 98, 3) by decide +kernel) rfl, ?_⟩
  refine List.forall_mem_cons.mpr ⟨ok_ifle C (show decode cX5_isSoThere 38 = .ok (.ifCond .le 7, 3) by decide +kernel) (tg := 45) (by decide) rfl rfl, ?_⟩
  refine List.forall_mem_cons.mpr ⟨ok_iconst C (show decode cX5_isSoThere 41 = .ok (.iconst 1, 1) by decide +kernel) (by decide) rfl, ?_⟩
  refine List.forall_mem_cons.mpr ⟨ok_goto C (show decode cX5_isSoThere 42 = .ok (.goto 4, 3) by decide +kernel) (tg := 46) (by decide) rfl, ?_⟩
  refine List.forall_mem_cons.mpr ⟨ok_iconst C (show decode cX5_isSoThere 45 = .ok (.iconst 0, 1) by decide +kernel) (by decide) rfl, ?_⟩
  refine List.forall_mem_cons.mpr ⟨ok_zret C rfl (show decode cX5_isSoThere 46 = .ok (.ireturn, 1) by decide +kernel), ?_⟩
  refine List.forall_mem_cons.mpr ⟨ok_aload_n C (show decode cX5_isSoThere 47 = .ok (.aload_n 3, 1) by decide +kernel) rfl rfl, ?_⟩
  refine List.forall_mem_cons.mpr ⟨ok_getf C (wi_X6) rfl (by decide) kw_147 (show decode cX5_isSoThere 48 = .ok (.getfield 104, 3) by decide +kernel) rfl, ?_⟩
  refine List.forall_mem_cons.mpr ⟨ok_iload_n C (show decode cX5_isSoThere 51 = .ok (.iload_n 1, 1) by decide +kernel) rfl rfl, ?_⟩
  refine List.forall_mem_cons.mpr ⟨ok_iaload C (show decode cX5_isSoThere 52 = .ok (.iaload, 1) by decide +kernel) rfl, ?_⟩
  refine List.forall_mem_cons.mpr ⟨ok_ifle C (show decode cX5_isSoThere 53 = .ok (.ifCond .le 7, 3) by decide +kernel) (tg := 60) (by decide) rfl rfl, ?_⟩
  refine List.forall_mem_cons.mpr ⟨ok_iconst C (show decode cX5_isSoThere 56 = .ok (.iconst 1, 1) by decide +kernel) (by decide) rfl, ?_⟩
  refine List.forall_mem_cons.mpr ⟨ok_goto C (show decode cX5_isSoThere 57 = .ok (.goto 4, 3) by decide +kernel) (tg := 61) (by decide) rfl, ?_⟩
  refine List.forall_mem_cons.mpr ⟨ok_iconst C (show decode cX5_isSoThere 60 = .ok (.iconst 0, 1) by decide +kernel) (by decide) rfl, ?_⟩
  refine List.forall_mem_cons.mpr ⟨ok_zret C rfl (show decode cX5_isSoThere 61 = .ok (.ireturn, 1) by decide +kernel), ?_⟩
  refine List.forall_mem_cons.mpr ⟨ok_aload_n C (show decode cX5_isSoThere 62 = .ok (.aload_n 2, 1) by decide +kernel) rfl rfl, ?_⟩
  refine List.forall_mem_cons.mpr ⟨ok_iconst C (show decode cX5_isSoThere 63 = .ok (.iconst 3, 1) by decide +kernel) (by decide) rfl, ?_⟩
  refine List.forall_mem_cons.mpr ⟨ok_iload_n C (show decode cX5_isSoThere 64 = .ok (.iload_n 1, 1) by decide +kernel) rfl rfl, ?_⟩
  refine List.forall_mem_cons.mpr ⟨ok_callV C h_X7_amountOf ⟨rfl, rfl⟩ rfl kw_576 kw_1009 kw_574 kw_575 kw_9 rfl ds_X7_amountOf ⟨by decide, by decide⟩ (show decode cX5_isSoThere 65 = .ok (.invokevirtual 107, 3) by decide +kernel) rfl, ?_⟩
  refine List.forall_mem_cons.mpr ⟨ok_ifle C (show decode cX5_isSoThere 68 = .ok (.ifCond .le 7, 3) by decide +kernel) (tg := 75) (by decide) rfl rfl, ?_⟩
  refine List.forall_mem_cons.mpr ⟨ok_iconst C (show decode cX5_isSoThere 71 = .ok (.iconst 1, 1) by decide +kernel) (by decide) rfl, ?_⟩
  refine List.forall_mem_cons.mpr ⟨ok_goto C (show decode cX5_isSoThere 72 = .ok (.goto 4, 3) by decide +kernel) (tg := 76) (by decide) rfl, ?_⟩
  refine List.forall_mem_cons.mpr ⟨ok_iconst C (show decode cX5_isSoThere 75 = .ok (.iconst 0, 1) by decide +kernel) (by decide) rfl, ?_⟩
  refine List.forall_mem_cons.mpr ⟨ok_zret C rfl (show decode cX5_isSoThere 76 = .ok (.ireturn, 1) by decide +kernel), ?_⟩
  refine List.forall_mem_cons.mpr ⟨ok_aload_n C (show decode cX5_isSoThere 77 = .ok (.aload_n 2, 1) by decide +kernel) rfl rfl, ?_⟩
  refine List.forall_mem_cons.mpr ⟨ok_iconst C (show decode cX5_isSoThere 78 = .ok (.iconst 2, 1) by decide +kernel) (by decide) rfl, ?_⟩
  refine List.forall_mem_cons.mpr ⟨ok_iload_n C (show decode cX5_isSoThere 79 = .ok (.iload_n 1, 1) by decide +kernel) rfl rfl, ?_⟩
  refine List.forall_mem_cons.mpr ⟨ok_callV C h_X7_amountOf ⟨rfl, rfl⟩ rfl kw_576 kw_1009 kw_574 kw_575 kw_9 rfl ds_X7_amountOf ⟨by decide, by decide⟩ (show decode cX5_isSoThere 80 = .ok (.invokevirtual 107, 3) by decide +kernel) rfl, ?_⟩
  refine List.forall_mem_cons.mpr ⟨ok_ifle C (show decode cX5_isSoThere 83 = .ok (.ifCond .le 7, 3) by decide +kernel) (tg := 90) (by decide) rfl rfl, ?_⟩
  refine List.forall_mem_cons.mpr ⟨ok_iconst C (show decode cX5_isSoThere 86 = .ok (.iconst 1, 1) by decide +kernel) (by decide) rfl, ?_⟩
  refine List.forall_mem_cons.mpr ⟨ok_goto C (show decode cX5_isSoThere 87 = .ok (.goto 4, 3) by decide +kernel) (tg := 91) (by decide) rfl, ?_⟩
  refine List.forall_mem_cons.mpr ⟨ok_iconst C (show decode cX5_isSoThere 90 = .ok (.iconst 0, 1) by decide +kernel) (by decide) rfl, ?_⟩
  refine List.forall_mem_cons.mpr ⟨ok_zret C rfl (show decode cX5_isSoThere 91 = .ok (.ireturn, 1) by decide +kernel), ?_⟩
  refine List.forall_mem_cons.mpr ⟨ok_aload_n C (show decode cX5_isSoThere 92 = .ok (.aload_n 3, 1) by decide +kernel) rfl rfl, ?_⟩
  refine List.forall_mem_cons.mpr ⟨ok_aload_n C (show decode cX5_isSoThere 93 = .ok (.aload_n 2, 1) by decide +kernel) rfl rfl, ?_⟩
  refine List.forall_mem_cons.mpr ⟨ok_iload_n C (show decode cX5_isSoThere 94 = .ok (.iload_n 1, 1) by decide +kernel) rfl rfl, ?_⟩
  refine List.forall_mem_cons.mpr ⟨ok_callV C h_X6_isFalse ⟨rfl, rfl⟩ rfl kw_612 kw_1010 kw_610 kw_611 kw_6 rfl ds_X6_isFalse ⟨by decide, by decide⟩ (show decode cX5_isSoThere 95 = .ok (.invokevirtual 112, 3) by decide +kernel) rfl, ?_⟩
  refine List.forall_mem_cons.mpr ⟨ok_zret C rfl (show decode cX5_isSoThere 98 = .ok (.ireturn, 1) by decide +kernel), ?_⟩
  exact fun _ h => absurd h List.not_mem_nil
def L_X5_valueOf (f_X10_slotOf : List Value → ab_H → Option ab_O) : List (Nat × ab_A) := [
  (0, ab_nx 1 (ab_iload 0)),
  (1, ab_tab 85 [28, 39, 50] 72),
  (28, ab_nx 29 (ab_aload 2)),
  (29, ab_nx 32 (ab_getf 6 0)),
  (32, ab_nx 33 (ab_iload 1)),
  (33, ab_nx 34 (ab_lit (.int 0))),
  (34, ab_nx 37 (ab_call 2 f_X10_slotOf 0 0 0 0)),
  (37, ab_nx 38 (ab_ald 1)),
  (38, ab_ret 0 0),
  (39, ab_nx 40 (ab_aload 2)),
  (40, ab_nx 43 (ab_getf 6 0)),
  (43, ab_nx 44 (ab_iload 1)),
  (44, ab_nx 45 (ab_lit (.int 1))),
  (45, ab_nx 48 (ab_call 2 f_X10_slotOf 0 0 0 0)),
  (48, ab_nx 49 (ab_ald 1)),
  (49, ab_ret 0 0),
  (50, ab_nx 51 (ab_aload 2)),
  (51, ab_nx 54 (ab_getf 6 3)),
  (54, ab_nx 55 (ab_iload 1)),
  (55, ab_nx 56 (ab_lit (.int 0))),
  (56, ab_nx 59 (ab_call 2 f_X10_slotOf 0 0 0 0)),
  (59, ab_nx 60 (ab_ald 1)),
  (60, ab_nx 61 (ab_aload 2)),
  (61, ab_nx 64 (ab_getf 6 3)),
  (64, ab_nx 65 (ab_iload 1)),
  (65, ab_nx 66 (ab_lit (.int 1))),
  (66, ab_nx 69 (ab_call 2 f_X10_slotOf 0 0 0 0)),
  (69, ab_nx 70 (ab_ald 1)),
  (70, ab_nx 71 (ab_bin (fun x y => x + y))),
  (71, ab_ret 0 0),
  (72, ab_nx 73 (ab_iload 1)),
  (73, ab_ret 0 0)]
set_option maxRecDepth 100000 in
set_option maxHeartbeats 4000000 in
theorem M_X5_valueOf {l : Launch} {b : ab_B} {D : va_G} {cA : Nat → ClassId} {f_X10_slotOf : List Value → ab_H → Option ab_O} (h_X10_slotOf : ab_M l b D ab_cl cA (ab_E0 b) yX10_slotOf (Cond.code yX10_slotOf cX10_slotOf 2 (some .int) :: ab_G) ({ frames := 1, cells := 0, slots := 0, locals := 100 } : Room) f_X10_slotOf) : ab_M l b D ab_cl cA (ab_E0 b) yX5_valueOf (Cond.code yX5_valueOf cX5_valueOf 3 (some .int) :: ab_G) ({ frames := 2, cells := 0, slots := 0, locals := 200 } : Room) (ab_X (ab_T (L_X5_valueOf f_X10_slotOf)) 3) := by
  refine ab_meth (ret := (some .int)) (L_X5_valueOf f_X10_slotOf) (by decide) rfl fun p e R s m args below meth c o C => ?_
  unfold L_X5_valueOf
  refine List.forall_mem_cons.mpr ⟨ok_iload_n C (show decode cX5_valueOf 0 = .ok (.iload_n 0, 1) by decide +kernel) rfl rfl, ?_⟩
  refine List.forall_mem_cons.mpr ⟨ok_tab C (show decode cX5_valueOf 1 = .ok (.tableswitch 71 85 87 #[27, 38, 49], 27) by decide +kernel) (by decide) (by decide) (by decide), ?_⟩
  refine List.forall_mem_cons.mpr ⟨ok_aload_n C (show decode cX5_valueOf 28 = .ok (.aload_n 2, 1) by decide +kernel) rfl rfl, ?_⟩
  refine List.forall_mem_cons.mpr ⟨ok_getf C (wi_X6) rfl (by decide) kw_145 (show decode cX5_valueOf 29 = .ok (.getfield 116, 3) by decide +kernel) rfl, ?_⟩
  refine List.forall_mem_cons.mpr ⟨ok_iload_n C (show decode cX5_valueOf 32 = .ok (.iload_n 1, 1) by decide +kernel) rfl rfl, ?_⟩
  refine List.forall_mem_cons.mpr ⟨ok_iconst C (show decode cX5_valueOf 33 = .ok (.iconst 0, 1) by decide +kernel) (by decide) rfl, ?_⟩
  refine List.forall_mem_cons.mpr ⟨ok_callSN C h_X10_slotOf ⟨rfl, rfl⟩ kw_532 (host := "LackFerry") (by decide +kernel) kw_531 kw_1 ds_X10_slotOf ⟨by decide, by decide⟩ (show decode cX5_valueOf 34 = .ok (.invokestatic 84, 3) by decide +kernel) rfl, ?_⟩
  refine List.forall_mem_cons.mpr ⟨ok_iaload C (show decode cX5_valueOf 37 = .ok (.iaload, 1) by decide +kernel) rfl, ?_⟩
  refine List.forall_mem_cons.mpr ⟨ok_ret C rfl (show decode cX5_valueOf 38 = .ok (.ireturn, 1) by decide +kernel), ?_⟩
  refine List.forall_mem_cons.mpr ⟨ok_aload_n C (show decode cX5_valueOf 39 = .ok (.aload_n 2, 1) by decide +kernel) rfl rfl, ?_⟩
  refine List.forall_mem_cons.mpr ⟨ok_getf C (wi_X6) rfl (by decide) kw_145 (show decode cX5_valueOf 40 = .ok (.getfield 116, 3) by decide +kernel) rfl, ?_⟩
  refine List.forall_mem_cons.mpr ⟨ok_iload_n C (show decode cX5_valueOf 43 = .ok (.iload_n 1, 1) by decide +kernel) rfl rfl, ?_⟩
  refine List.forall_mem_cons.mpr ⟨ok_iconst C (show decode cX5_valueOf 44 = .ok (.iconst 1, 1) by decide +kernel) (by decide) rfl, ?_⟩
  refine List.forall_mem_cons.mpr ⟨ok_callSN C h_X10_slotOf ⟨rfl, rfl⟩ kw_532 (host := "LackFerry") (by decide +kernel) kw_531 kw_1 ds_X10_slotOf ⟨by decide, by decide⟩ (show decode cX5_valueOf 45 = .ok (.invokestatic 84, 3) by decide +kernel) rfl, ?_⟩
  refine List.forall_mem_cons.mpr ⟨ok_iaload C (show decode cX5_valueOf 48 = .ok (.iaload, 1) by decide +kernel) rfl, ?_⟩
  refine List.forall_mem_cons.mpr ⟨ok_ret C rfl (show decode cX5_valueOf 49 = .ok (.ireturn, 1) by decide +kernel), ?_⟩
  refine List.forall_mem_cons.mpr ⟨ok_aload_n C (show decode cX5_valueOf 50 = .ok (.aload_n 2, 1) by decide +kernel) rfl rfl, ?_⟩
  refine List.forall_mem_cons.mpr ⟨ok_getf C (wi_X6) rfl (by decide) kw_154 (show decode cX5_valueOf 51 = .ok (.getfield 119, 3) by decide +kernel) rfl, ?_⟩
  refine List.forall_mem_cons.mpr ⟨ok_iload_n C (show decode cX5_valueOf 54 = .ok (.iload_n 1, 1) by decide +kernel) rfl rfl, ?_⟩
  refine List.forall_mem_cons.mpr ⟨ok_iconst C (show decode cX5_valueOf 55 = .ok (.iconst 0, 1) by decide +kernel) (by decide) rfl, ?_⟩
  refine List.forall_mem_cons.mpr ⟨ok_callSN C h_X10_slotOf ⟨rfl, rfl⟩ kw_532 (host := "LackFerry") (by decide +kernel) kw_531 kw_1 ds_X10_slotOf ⟨by decide, by decide⟩ (show decode cX5_valueOf 56 = .ok (.invokestatic 84, 3) by decide +kernel) rfl, ?_⟩
  refine List.forall_mem_cons.mpr ⟨ok_iaload C (show decode cX5_valueOf 59 = .ok (.iaload, 1) by decide +kernel) rfl, ?_⟩
  refine List.forall_mem_cons.mpr ⟨ok_aload_n C (show decode cX5_valueOf 60 = .ok (.aload_n 2, 1) by decide +kernel) rfl rfl, ?_⟩
  refine List.forall_mem_cons.mpr ⟨ok_getf C (wi_X6) rfl (by decide) kw_154 (show decode cX5_valueOf 61 = .ok (.getfield 119, 3) by decide +kernel) rfl, ?_⟩
  refine List.forall_mem_cons.mpr ⟨ok_iload_n C (show decode cX5_valueOf 64 = .ok (.iload_n 1, 1) by decide +kernel) rfl rfl, ?_⟩
  refine List.forall_mem_cons.mpr ⟨ok_iconst C (show decode cX5_valueOf 65 = .ok (.iconst 1, 1) by decide +kernel) (by decide) rfl, ?_⟩
  refine List.forall_mem_cons.mpr ⟨ok_callSN C h_X10_slotOf ⟨rfl, rfl⟩ kw_532 (host := "LackFerry") (by decide +kernel) kw_531 kw_1 ds_X10_slotOf ⟨by decide, by decide⟩ (show decode cX5_valueOf 66 = .ok (.invokestatic 84, 3) by decide +kernel) rfl, ?_⟩
  refine List.forall_mem_cons.mpr ⟨ok_iaload C (show decode cX5_valueOf 69 = .ok (.iaload, 1) by decide +kernel) rfl, ?_⟩
  refine List.forall_mem_cons.mpr ⟨ok_iadd C (show decode cX5_valueOf 70 = .ok (.iadd, 1) by decide +kernel) rfl, ?_⟩
  refine List.forall_mem_cons.mpr ⟨ok_ret C rfl (show decode cX5_valueOf 71 = .ok (.ireturn, 1) by decide +kernel), ?_⟩
  refine List.forall_mem_cons.mpr ⟨ok_iload_n C (show decode cX5_valueOf 72 = .ok (.iload_n 1, 1) by decide +kernel) rfl rfl, ?_⟩
  refine List.forall_mem_cons.mpr ⟨ok_ret C rfl (show decode cX5_valueOf 73 = .ok (.ireturn, 1) by decide +kernel), ?_⟩
  exact fun _ h => absurd h List.not_mem_nil
def L_X5_isSoCompared : List (Nat × ab_A) := [
  (0, ab_nx 1 (ab_iload 1)),
  (1, ab_nx 3 (ab_lit (.int 60))),
  (3, ab_icmp 6 19 (fun x y => !decide (x = y))),
  (6, ab_nx 7 (ab_iload 0)),
  (7, ab_nx 8 (ab_iload 2)),
  (8, ab_icmp 11 15 (fun x y => decide (y ≤ x))),
  (11, ab_nx 12 (ab_lit (.int 1))),
  (12, ab_goto 48),
  (15, ab_nx 16 (ab_lit (.int 0))),
  (16, ab_goto 48),
  (19, ab_nx 20 (ab_iload 1)),
  (20, ab_nx 22 (ab_lit (.int 61))),
  (22, ab_icmp 25 38 (fun x y => !decide (x = y))),
  (25, ab_nx 26 (ab_iload 0)),
  (26, ab_nx 27 (ab_iload 2)),
  (27, ab_icmp 30 34 (fun x y => !decide (x = y))),
  (30, ab_nx 31 (ab_lit (.int 1))),
  (31, ab_goto 48),
  (34, ab_nx 35 (ab_lit (.int 0))),
  (35, ab_goto 48),
  (38, ab_nx 39 (ab_iload 0)),
  (39, ab_nx 40 (ab_iload 2)),
  (40, ab_icmp 43 47 (fun x y => decide (x ≤ y))),
  (43, ab_nx 44 (ab_lit (.int 1))),
  (44, ab_goto 48),
  (47, ab_nx 48 (ab_lit (.int 0))),
  (48, ab_zret 0 0)]
set_option maxRecDepth 100000 in
set_option maxHeartbeats 4000000 in
theorem M_X5_isSoCompared {l : Launch} {b : ab_B} {D : va_G} {cA : Nat → ClassId} : ab_M l b D ab_cl cA (ab_E0 b) yX5_isSoCompared (Cond.code yX5_isSoCompared cX5_isSoCompared 3 (some .boolean) :: ab_G) ({ frames := 1, cells := 0, slots := 0, locals := 100 } : Room) (ab_X (ab_T L_X5_isSoCompared) 3) := by
  refine ab_meth (ret := (some .boolean)) L_X5_isSoCompared (by decide) rfl fun p e R s m args below meth c o C => ?_
  unfold L_X5_isSoCompared
  refine List.forall_mem_cons.mpr ⟨ok_iload_n C (show decode cX5_isSoCompared 0 = .ok (.iload_n 1, 1) by decide +kernel) rfl rfl, ?_⟩
  refine List.forall_mem_cons.mpr ⟨ok_bipush C (show decode cX5_isSoCompared 1 = .ok (.bipush 60, 2) by decide +kernel) (by decide) rfl, ?_⟩
  refine List.forall_mem_cons.mpr ⟨ok_icmpne C (show decode cX5_isSoCompared 3 = .ok (.if_icmp .ne 16, 3) by decide +kernel) (tg := 19) (by decide) rfl rfl, ?_⟩
  refine List.forall_mem_cons.mpr ⟨ok_iload_n C (show decode cX5_isSoCompared 6 = .ok (.iload_n 0, 1) by decide +kernel) rfl rfl, ?_⟩
  refine List.forall_mem_cons.mpr ⟨ok_iload_n C (show decode cX5_isSoCompared 7 = .ok (.iload_n 2, 1) by decide +kernel) rfl rfl, ?_⟩
  refine List.forall_mem_cons.mpr ⟨ok_icmpge C (show decode cX5_isSoCompared 8 = .ok (.if_icmp .ge 7, 3) by decide +kernel) (tg := 15) (by decide) rfl rfl, ?_⟩
  refine List.forall_mem_cons.mpr ⟨ok_iconst C (show decode cX5_isSoCompared 11 = .ok (.iconst 1, 1) by decide +kernel) (by decide) rfl, ?_⟩
  refine List.forall_mem_cons.mpr ⟨ok_goto C (show decode cX5_isSoCompared 12 = .ok (.goto 36, 3) by decide +kernel) (tg := 48) (by decide) rfl, ?_⟩
  refine List.forall_mem_cons.mpr ⟨ok_iconst C (show decode cX5_isSoCompared 15 = .ok (.iconst 0, 1) by decide +kernel) (by decide) rfl, ?_⟩
  refine List.forall_mem_cons.mpr ⟨ok_goto C (show decode cX5_isSoCompared 16 = .ok (.goto 32, 3) by decide +kernel) (tg := 48) (by decide) rfl, ?_⟩
  refine List.forall_mem_cons.mpr ⟨ok_iload_n C (show decode cX5_isSoCompared 19 = .ok (.iload_n 1, 1) by decide +kernel) rfl rfl, ?_⟩
  refine List.forall_mem_cons.mpr ⟨ok_bipush C (show decode cX5_isSoCompared 20 = .ok (.bipush 61, 2) by decide +kernel) (by decide) rfl, ?_⟩
  refine List.forall_mem_cons.mpr ⟨ok_icmpne C (show decode cX5_isSoCompared 22 = .ok (.if_icmp .ne 16, 3) by decide +kernel) (tg := 38) (by decide) rfl rfl, ?_⟩
  refine List.forall_mem_cons.mpr ⟨ok_iload_n C (show decode cX5_isSoCompared 25 = .ok (.iload_n 0, 1) by decide +kernel) rfl rfl, ?_⟩
  refine List.forall_mem_cons.mpr ⟨ok_iload_n C (show decode cX5_isSoCompared 26 = .ok (.iload_n 2, 1) by decide +kernel) rfl rfl, ?_⟩
  refine List.forall_mem_cons.mpr ⟨ok_icmpne C (show decode cX5_isSoCompared 27 = .ok (.if_icmp .ne 7, 3) by decide +kernel) (tg := 34) (by decide) rfl rfl, ?_⟩
  refine List.forall_mem_cons.mpr ⟨ok_iconst C (show decode cX5_isSoCompared 30 = .ok (.iconst 1, 1) by decide +kernel) (by decide) rfl, ?_⟩
  refine List.forall_mem_cons.mpr ⟨ok_goto C (show decode cX5_isSoCompared 31 = .ok (.goto 17, 3) by decide +kernel) (tg := 48) (by decide) rfl, ?_⟩
  refine List.forall_mem_cons.mpr ⟨ok_iconst C (show decode cX5_isSoCompared 34 = .ok (.iconst 0, 1) by decide +kernel) (by decide) rfl, ?_⟩
  refine List.forall_mem_cons.mpr ⟨ok_goto C (show decode cX5_isSoCompared 35 = .ok (.goto 13, 3) by decide +kernel) (tg := 48) (by decide) rfl, ?_⟩
  refine List.forall_mem_cons.mpr ⟨ok_iload_n C (show decode cX5_isSoCompared 38 = .ok (.iload_n 0, 1) by decide +kernel) rfl rfl, ?_⟩
  refine List.forall_mem_cons.mpr ⟨ok_iload_n C (show decode cX5_isSoCompared 39 = .ok (.iload_n 2, 1) by decide +kernel) rfl rfl, ?_⟩
  refine List.forall_mem_cons.mpr ⟨ok_icmple C (show decode cX5_isSoCompared 40 = .ok (.if_icmp .le 7, 3) by decide +kernel) (tg := 47) (by decide) rfl rfl, ?_⟩
  refine List.forall_mem_cons.mpr ⟨ok_iconst C (show decode cX5_isSoCompared 43 = .ok (.iconst 1, 1) by decide +kernel) (by decide) rfl, ?_⟩
  refine List.forall_mem_cons.mpr ⟨ok_goto C (show decode cX5_isSoCompared 44 = .ok (.goto 4, 3) by decide +kernel) (tg := 48) (by decide) rfl, ?_⟩
  refine List.forall_mem_cons.mpr ⟨ok_iconst C (show decode cX5_isSoCompared 47 = .ok (.iconst 0, 1) by decide +kernel) (by decide) rfl, ?_⟩
  refine List.forall_mem_cons.mpr ⟨ok_zret C rfl (show decode cX5_isSoCompared 48 = .ok (.ireturn, 1) by decide +kernel), ?_⟩
  exact fun _ h => absurd h List.not_mem_nil
def L_X5_isSo (f_X10_slotOf : List Value → ab_H → Option ab_O) (f_X5_isSoThere : List Value → ab_H → Option ab_O) (f_X5_valueOf : List Value → ab_H → Option ab_O) (f_X5_isSoCompared : List Value → ab_H → Option ab_O) : List (Nat × ab_A) := [
  (0, ab_nx 1 (ab_aload 0)),
  (1, ab_nx 4 (ab_getf 5 0)),
  (4, ab_nx 5 (ab_iload 1)),
  (5, ab_nx 6 (ab_ald 1)),
  (6, ab_nx 8 (ab_lit (.int 84))),
  (8, ab_icmp 11 36 (fun x y => decide (y < x))),
  (11, ab_nx 12 (ab_aload 0)),
  (12, ab_nx 15 (ab_getf 5 0)),
  (15, ab_nx 16 (ab_iload 1)),
  (16, ab_nx 17 (ab_ald 1)),
  (17, ab_nx 18 (ab_iload 2)),
  (18, ab_nx 19 (ab_aload 0)),
  (19, ab_nx 22 (ab_getf 5 1)),
  (22, ab_nx 23 (ab_iload 1)),
  (23, ab_nx 24 (ab_ald 1)),
  (24, ab_nx 27 (ab_call 2 f_X10_slotOf 0 0 0 0)),
  (27, ab_nx 28 (ab_aload 3)),
  (28, ab_nx 30 (ab_aload 4)),
  (30, ab_nx 33 (ab_call 4 f_X5_isSoThere 0 0 0 0)),
  (33, ab_goto 63),
  (36, ab_nx 37 (ab_aload 0)),
  (37, ab_nx 40 (ab_getf 5 0)),
  (40, ab_nx 41 (ab_iload 1)),
  (41, ab_nx 42 (ab_ald 1)),
  (42, ab_nx 43 (ab_iload 2)),
  (43, ab_nx 45 (ab_aload 4)),
  (45, ab_nx 48 (ab_call 3 f_X5_valueOf 0 0 0 0)),
  (48, ab_nx 49 (ab_aload 0)),
  (49, ab_nx 52 (ab_getf 5 1)),
  (52, ab_nx 53 (ab_iload 1)),
  (53, ab_nx 54 (ab_ald 1)),
  (54, ab_nx 55 (ab_aload 0)),
  (55, ab_nx 58 (ab_getf 5 2)),
  (58, ab_nx 59 (ab_iload 1)),
  (59, ab_nx 60 (ab_ald 1)),
  (60, ab_nx 63 (ab_call 3 f_X5_isSoCompared 0 0 0 0)),
  (63, ab_zret 0 0)]
set_option maxRecDepth 100000 in
set_option maxHeartbeats 4000000 in
theorem M_X5_isSo {l : Launch} {b : ab_B} {D : va_G} {cA : Nat → ClassId} {f_X10_slotOf : List Value → ab_H → Option ab_O} (h_X10_slotOf : ab_M l b D ab_cl cA (ab_E0 b) yX10_slotOf (Cond.code yX10_slotOf cX10_slotOf 2 (some .int) :: ab_G) ({ frames := 1, cells := 0, slots := 0, locals := 100 } : Room) f_X10_slotOf) {f_X5_isSoThere : List Value → ab_H → Option ab_O} (h_X5_isSoThere : ab_M l b D ab_cl cA (ab_E0 b) yX5_isSoThere (Cond.code yX5_isSoThere cX5_isSoThere 4 (some .boolean) :: ab_G) ({ frames := 3, cells := 0, slots := 0, locals := 300 } : Room) f_X5_isSoThere) {f_X5_valueOf : List Value → ab_H → Option ab_O} (h_X5_valueOf : ab_M l b D ab_cl cA (ab_E0 b) yX5_valueOf (Cond.code yX5_valueOf cX5_valueOf 3 (some .int) :: ab_G) ({ frames := 2, cells := 0, slots := 0, locals := 200 } : Room) f_X5_valueOf) {f_X5_isSoCompared : List Value → ab_H → Option ab_O} (h_X5_isSoCompared : ab_M l b D ab_cl cA (ab_E0 b) yX5_isSoCompared (Cond.code yX5_isSoCompared cX5_isSoCompared 3 (some .boolean) :: ab_G) ({ frames := 1, cells := 0, slots := 0, locals := 100 } : Room) f_X5_isSoCompared) : ab_M l b D ab_cl cA (ab_E0 b) yX5_isSo (Cond.code yX5_isSo cX5_isSo 5 (some .boolean) :: ab_G) ({ frames := 4, cells := 0, slots := 0, locals := 400 } : Room) (ab_X (ab_T (L_X5_isSo f_X10_slotOf f_X5_isSoThere f_X5_valueOf f_X5_isSoCompared)) 5) := by
  refine ab_meth (ret := (some .boolean)) (L_X5_isSo f_X10_slotOf f_X5_isSoThere f_X5_valueOf f_X5_isSoCompared) (by decide) rfl fun p e R s m args below meth c o C => ?_
  unfold L_X5_isSo
  refine List.forall_mem_cons.mpr ⟨ok_aload_n C (show decode cX5_isSo 0 = .ok (.aload_n 0, 1) by decide +kernel) rfl rfl, ?_⟩
  refine List.forall_mem_cons.mpr ⟨ok_getf C (wi_X5) rfl (by decide) kw_294 (show decode cX5_isSo 1 = .ok (.getfield 11, 3) by decide +kernel) rfl, ?_⟩
  refine List.forall_mem_cons.mpr ⟨ok_iload_n C (show decode cX5_isSo 4 = .ok (.iload_n 1, 1) by decide +kernel) rfl rfl, ?_⟩
  refine List.forall_mem_cons.mpr ⟨ok_iaload C (show decode cX5_isSo 5 = .ok (.iaload, 1) by decide +kernel) rfl, ?_⟩
  refine List.forall_mem_cons.mpr ⟨ok_bipush C (show decode cX5_isSo 6 = .ok (.bipush 84, 2) by decide +kernel) (by decide) rfl, ?_⟩
  refine List.forall_mem_cons.mpr ⟨ok_icmpgt C (show decode cX5_isSo 8 = .ok (.if_icmp .gt 28, 3) by decide +kernel) (tg := 36) (by decide) rfl rfl, ?_⟩
  refine List.forall_mem_cons.mpr ⟨ok_aload_n C (show decode cX5_isSo 11 = .ok (.aload_n 0, 1) by decide +kernel) rfl rfl, ?_⟩
  refine List.forall_mem_cons.mpr ⟨ok_getf C (wi_X5) rfl (by decide) kw_294 (show decode cX5_isSo 12 = .ok (.getfield 11, 3) by decide +kernel) rfl, ?_⟩
  refine List.forall_mem_cons.mpr ⟨ok_iload_n C (show decode cX5_isSo 15 = .ok (.iload_n 1, 1) by decide +kernel) rfl rfl, ?_⟩
  refine List.forall_mem_cons.mpr ⟨ok_iaload C (show decode cX5_isSo 16 = .ok (.iaload, 1) by decide +kernel) rfl, ?_⟩
  refine List.forall_mem_cons.mpr ⟨ok_iload_n C (show decode cX5_isSo 17 = .ok (.iload_n 2, 1) by decide +kernel) rfl rfl, ?_⟩
  refine List.forall_mem_cons.mpr ⟨ok_aload_n C (show decode cX5_isSo 18 = .ok (.aload_n 0, 1) by decide +kernel) rfl rfl, ?_⟩
  refine List.forall_mem_cons.mpr ⟨ok_getf C (wi_X5) rfl (by decide) kw_295 (show decode cX5_isSo 19 = .ok (.getfield 15, 3) by decide +kernel) rfl, ?_⟩
  refine List.forall_mem_cons.mpr ⟨ok_iload_n C (show decode cX5_isSo 22 = .ok (.iload_n 1, 1) by decide +kernel) rfl rfl, ?_⟩
  refine List.forall_mem_cons.mpr ⟨ok_iaload C (show decode cX5_isSo 23 = .ok (.iaload, 1) by decide +kernel) rfl, ?_⟩
  refine List.forall_mem_cons.mpr ⟨ok_callSN C h_X10_slotOf ⟨rfl, rfl⟩ kw_532 (host := "LackFerry") (by decide +kernel) kw_531 kw_1 ds_X10_slotOf ⟨by decide, by decide⟩ (show decode cX5_isSo 24 = .ok (.invokestatic 84, 3) by decide +kernel) rfl, ?_⟩
  refine List.forall_mem_cons.mpr ⟨ok_aload_n C (show decode cX5_isSo 27 = .ok (.aload_n 3, 1) by decide +kernel) rfl rfl, ?_⟩
  refine List.forall_mem_cons.mpr ⟨ok_aload C (show decode cX5_isSo 28 = .ok (.aload 4, 2) by decide +kernel) rfl, ?_⟩
  refine List.forall_mem_cons.mpr ⟨ok_callS C h_X5_isSoThere ⟨rfl, rfl⟩ kw_1007 kw_1005 kw_1006 kw_10 ds_X5_isSoThere ⟨by decide, by decide⟩ (show decode cX5_isSo 30 = .ok (.invokestatic 88, 3) by decide +kernel) rfl, ?_⟩
  refine List.forall_mem_cons.mpr ⟨ok_goto C (show decode cX5_isSo 33 = .ok (.goto 30, 3) by decide +kernel) (tg := 63) (by decide) rfl, ?_⟩
  refine List.forall_mem_cons.mpr ⟨ok_aload_n C (show decode cX5_isSo 36 = .ok (.aload_n 0, 1) by decide +kernel) rfl rfl, ?_⟩
  refine List.forall_mem_cons.mpr ⟨ok_getf C (wi_X5) rfl (by decide) kw_294 (show decode cX5_isSo 37 = .ok (.getfield 11, 3) by decide +kernel) rfl, ?_⟩
  refine List.forall_mem_cons.mpr ⟨ok_iload_n C (show decode cX5_isSo 40 = .ok (.iload_n 1, 1) by decide +kernel) rfl rfl, ?_⟩
  refine List.forall_mem_cons.mpr ⟨ok_iaload C (show decode cX5_isSo 41 = .ok (.iaload, 1) by decide +kernel) rfl, ?_⟩
  refine List.forall_mem_cons.mpr ⟨ok_iload_n C (show decode cX5_isSo 42 = .ok (.iload_n 2, 1) by decide +kernel) rfl rfl, ?_⟩
  refine List.forall_mem_cons.mpr ⟨ok_aload C (show decode cX5_isSo 43 = .ok (.aload 4, 2) by decide +kernel) rfl, ?_⟩
  refine List.forall_mem_cons.mpr ⟨ok_callS C h_X5_valueOf ⟨rfl, rfl⟩ kw_1013 kw_1011 kw_1012 kw_10 ds_X5_valueOf ⟨by decide, by decide⟩ (show decode cX5_isSo 45 = .ok (.invokestatic 91, 3) by decide +kernel) rfl, ?_⟩
  refine List.forall_mem_cons.mpr ⟨ok_aload_n C (show decode cX5_isSo 48 = .ok (.aload_n 0, 1) by decide +kernel) rfl rfl, ?_⟩
  refine List.forall_mem_cons.mpr ⟨ok_getf C (wi_X5) rfl (by decide) kw_295 (show decode cX5_isSo 49 = .ok (.getfield 15, 3) by decide +kernel) rfl, ?_⟩
  refine List.forall_mem_cons.mpr ⟨ok_iload_n C (show decode cX5_isSo 52 = .ok (.iload_n 1, 1) by decide +kernel) rfl rfl, ?_⟩
  refine List.forall_mem_cons.mpr ⟨ok_iaload C (show decode cX5_isSo 53 = .ok (.iaload, 1) by decide +kernel) rfl, ?_⟩
  refine List.forall_mem_cons.mpr ⟨ok_aload_n C (show decode cX5_isSo 54 = .ok (.aload_n 0, 1) by decide +kernel) rfl rfl, ?_⟩
  refine List.forall_mem_cons.mpr ⟨ok_getf C (wi_X5) rfl (by decide) kw_296 (show decode cX5_isSo 55 = .ok (.getfield 18, 3) by decide +kernel) rfl, ?_⟩
  refine List.forall_mem_cons.mpr ⟨ok_iload_n C (show decode cX5_isSo 58 = .ok (.iload_n 1, 1) by decide +kernel) rfl rfl, ?_⟩
  refine List.forall_mem_cons.mpr ⟨ok_iaload C (show decode cX5_isSo 59 = .ok (.iaload, 1) by decide +kernel) rfl, ?_⟩
  refine List.forall_mem_cons.mpr ⟨ok_callS C h_X5_isSoCompared ⟨rfl, rfl⟩ kw_1016 kw_1014 kw_1015 kw_10 ds_X5_isSoCompared ⟨by decide, by decide⟩ (show decode cX5_isSo 60 = .ok (.invokestatic 95, 3) by decide +kernel) rfl, ?_⟩
  refine List.forall_mem_cons.mpr ⟨ok_zret C rfl (show decode cX5_isSo 63 = .ok (.ireturn, 1) by decide +kernel), ?_⟩
  exact fun _ h => absurd h List.not_mem_nil
