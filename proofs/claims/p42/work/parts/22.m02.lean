def L_X9_takeName (f_X9_step : List Value → ab_H → Option ab_O) (f_X9_fail : List Value → ab_H → Option ab_O) : List (Nat × ab_A) := [
  (0, ab_nx 1 (ab_aload 0)),
  (1, ab_nx 4 (ab_callV 1 9 f_X9_step 0 0 0 0)),
  (4, ab_nx 5 (ab_aload 0)),
  (5, ab_nx 8 (ab_getf 9 5)),
  (8, ab_nx 9 (ab_lit (.int 2))),
  (9, ab_icmp 12 20 (fun x y => decide (x = y))),
  (12, ab_nx 13 (ab_aload 0)),
  (13, ab_nx 14 (ab_lit (.int 1))),
  (14, ab_nx 17 (ab_callV 2 9 f_X9_fail 0 0 0 0)),
  (17, ab_if 20 24 (fun x => decide (x = 0))),
  (20, ab_nx 21 (ab_lit (.int 1))),
  (21, ab_goto 25),
  (24, ab_nx 25 (ab_lit (.int 0))),
  (25, ab_zret 0 0)]
set_option maxRecDepth 100000 in
set_option maxHeartbeats 4000000 in
theorem M_X9_takeName {l : Launch} {b : ab_B} {D : va_G} {cA : Nat → ClassId} {f_X9_step : List Value → ab_H → Option ab_O} (h_X9_step : ab_M l b D ab_cl cA (ab_E0 b) yX9_step (Cond.code yX9_step cX9_step 1 none :: ab_G) ({ frames := 1, cells := 0, slots := 0, locals := 100 } : Room) f_X9_step) {f_X9_fail : List Value → ab_H → Option ab_O} (h_X9_fail : ab_M l b D ab_cl cA (ab_E0 b) yX9_fail (Cond.code yX9_fail cX9_fail 2 (some .boolean) :: ab_G) ({ frames := 1, cells := 0, slots := 0, locals := 100 } : Room) f_X9_fail) : ab_M l b D ab_cl cA (ab_E0 b) yX9_takeName (Cond.code yX9_takeName cX9_takeName 1 (some .boolean) :: ab_G) ({ frames := 2, cells := 0, slots := 0, locals := 200 } : Room) (ab_X (ab_T (L_X9_takeName f_X9_step f_X9_fail)) 1) := by
  refine ab_meth (ret := (some .boolean)) (L_X9_takeName f_X9_step f_X9_fail) (by decide) rfl fun p e R s m args below meth c o C => ?_
  unfold L_X9_takeName
  refine List.forall_mem_cons.mpr ⟨ok_aload_n C (show decode cX9_takeName 0 = .ok (.aload_n 0, 1) by decide +kernel) rfl rfl, ?_⟩
  refine List.forall_mem_cons.mpr ⟨ok_callV C h_X9_step ⟨rfl, rfl⟩ rfl kw_499 kw_516 kw_497 kw_498 kw_3 rfl ds_X9_step ⟨by decide, by decide⟩ (show decode cX9_takeName 1 = .ok (.invokevirtual 45, 3) by decide +kernel) rfl, ?_⟩
  refine List.forall_mem_cons.mpr ⟨ok_aload_n C (show decode cX9_takeName 4 = .ok (.aload_n 0, 1) by decide +kernel) rfl rfl, ?_⟩
  refine List.forall_mem_cons.mpr ⟨ok_getf C (wi_X9) rfl (by decide) kw_63 (show decode cX9_takeName 5 = .ok (.getfield 32, 3) by decide +kernel) rfl, ?_⟩
  refine List.forall_mem_cons.mpr ⟨ok_iconst C (show decode cX9_takeName 8 = .ok (.iconst 2, 1) by decide +kernel) (by decide) rfl, ?_⟩
  refine List.forall_mem_cons.mpr ⟨ok_icmpeq C (show decode cX9_takeName 9 = .ok (.if_icmp .eq 11, 3) by decide +kernel) (tg := 20) (by decide) rfl rfl, ?_⟩
  refine List.forall_mem_cons.mpr ⟨ok_aload_n C (show decode cX9_takeName 12 = .ok (.aload_n 0, 1) by decide +kernel) rfl rfl, ?_⟩
  refine List.forall_mem_cons.mpr ⟨ok_iconst C (show decode cX9_takeName 13 = .ok (.iconst 1, 1) by decide +kernel) (by decide) rfl, ?_⟩
  refine List.forall_mem_cons.mpr ⟨ok_callV C h_X9_fail ⟨rfl, rfl⟩ rfl kw_520 kw_517 kw_518 kw_519 kw_3 rfl ds_X9_fail ⟨by decide, by decide⟩ (show decode cX9_takeName 14 = .ok (.invokevirtual 48, 3) by decide +kernel) rfl, ?_⟩
  refine List.forall_mem_cons.mpr ⟨ok_ifeq C (show decode cX9_takeName 17 = .ok (.ifCond .eq 7, 3) by decide +kernel) (tg := 24) (by decide) rfl rfl, ?_⟩
  refine List.forall_mem_cons.mpr ⟨ok_iconst C (show decode cX9_takeName 20 = .ok (.iconst 1, 1) by decide +kernel) (by decide) rfl, ?_⟩
  refine List.forall_mem_cons.mpr ⟨ok_goto C (show decode cX9_takeName 21 = .ok (.goto 4, 3) by decide +kernel) (tg := 25) (by decide) rfl, ?_⟩
  refine List.forall_mem_cons.mpr ⟨ok_iconst C (show decode cX9_takeName 24 = .ok (.iconst 0, 1) by decide +kernel) (by decide) rfl, ?_⟩
  refine List.forall_mem_cons.mpr ⟨ok_zret C rfl (show decode cX9_takeName 25 = .ok (.ireturn, 1) by decide +kernel), ?_⟩
  exact fun _ h => absurd h List.not_mem_nil
def L_X7_goodNamed : List (Nat × ab_A) := [
  (0, ab_nx 1 (ab_lit (.int 0))),
  (1, ab_nx 2 (ab_istore 3)),
  (2, ab_nx 3 (ab_iload 3)),
  (3, ab_nx 4 (ab_aload 0)),
  (4, ab_nx 7 (ab_getf 7 8)),
  (7, ab_icmp 10 29 (fun x y => decide (y ≤ x))),
  (10, ab_nx 11 (ab_aload 0)),
  (11, ab_nx 14 (ab_getf 7 0)),
  (14, ab_nx 15 (ab_iload 3)),
  (15, ab_nx 16 ab_lald),
  (16, ab_nx 17 (ab_lload 1)),
  (17, ab_nx 18 ab_lcmp),
  (18, ab_if 21 23 (fun x => !decide (x = 0))),
  (21, ab_nx 22 (ab_iload 3)),
  (22, ab_ret 0 0),
  (23, ab_nx 26 (ab_iinc 3 1)),
  (26, ab_goto 2),
  (29, ab_nx 30 (ab_lit (.int (-1)))),
  (30, ab_ret 0 0)]
set_option maxRecDepth 100000 in
set_option maxHeartbeats 4000000 in
theorem M_X7_goodNamed {l : Launch} {b : ab_B} {D : va_G} {cA : Nat → ClassId} : ab_M l b D ab_cl cA (ab_E0 b) yX7_goodNamed (Cond.code yX7_goodNamed cX7_goodNamed 4 (some .int) :: ab_G) ({ frames := 1, cells := 0, slots := 0, locals := 100 } : Room) (ab_X (ab_T L_X7_goodNamed) 4) := by
  refine ab_meth (ret := (some .int)) L_X7_goodNamed (by decide) rfl fun p e R s m args below meth c o C => ?_
  unfold L_X7_goodNamed
  refine List.forall_mem_cons.mpr ⟨ok_iconst C (show decode cX7_goodNamed 0 = .ok (.iconst 0, 1) by decide +kernel) (by decide) rfl, ?_⟩
  refine List.forall_mem_cons.mpr ⟨ok_istore_n C (show decode cX7_goodNamed 1 = .ok (.istore_n 3, 1) by decide +kernel) rfl (by decide) rfl, ?_⟩
  refine List.forall_mem_cons.mpr ⟨ok_iload_n C (show decode cX7_goodNamed 2 = .ok (.iload_n 3, 1) by decide +kernel) rfl rfl, ?_⟩
  refine List.forall_mem_cons.mpr ⟨ok_aload_n C (show decode cX7_goodNamed 3 = .ok (.aload_n 0, 1) by decide +kernel) rfl rfl, ?_⟩
  refine List.forall_mem_cons.mpr ⟨ok_getf C (wi_X7) rfl (by decide) kw_249 (show decode cX7_goodNamed 4 = .ok (.getfield 56, 3) by decide +kernel) rfl, ?_⟩
  refine List.forall_mem_cons.mpr ⟨ok_icmpge C (show decode cX7_goodNamed 7 = .ok (.if_icmp .ge 22, 3) by decide +kernel) (tg := 29) (by decide) rfl rfl, ?_⟩
  refine List.forall_mem_cons.mpr ⟨ok_aload_n C (show decode cX7_goodNamed 10 = .ok (.aload_n 0, 1) by decide +kernel) rfl rfl, ?_⟩
  refine List.forall_mem_cons.mpr ⟨ok_getf C (wi_X7) rfl (by decide) kw_234 (show decode cX7_goodNamed 11 = .ok (.getfield 9, 3) by decide +kernel) rfl, ?_⟩
  refine List.forall_mem_cons.mpr ⟨ok_iload_n C (show decode cX7_goodNamed 14 = .ok (.iload_n 3, 1) by decide +kernel) rfl rfl, ?_⟩
  refine List.forall_mem_cons.mpr ⟨ok_laload C (show decode cX7_goodNamed 15 = .ok (.laload, 1) by decide +kernel) rfl, ?_⟩
  refine List.forall_mem_cons.mpr ⟨ok_lload_n C (show decode cX7_goodNamed 16 = .ok (.lload_n 1, 1) by decide +kernel) rfl rfl, ?_⟩
  refine List.forall_mem_cons.mpr ⟨ok_lcmp C (show decode cX7_goodNamed 17 = .ok (.lcmp, 1) by decide +kernel) rfl, ?_⟩
  refine List.forall_mem_cons.mpr ⟨ok_ifne C (show decode cX7_goodNamed 18 = .ok (.ifCond .ne 5, 3) by decide +kernel) (tg := 23) (by decide) rfl rfl, ?_⟩
  refine List.forall_mem_cons.mpr ⟨ok_iload_n C (show decode cX7_goodNamed 21 = .ok (.iload_n 3, 1) by decide +kernel) rfl rfl, ?_⟩
  refine List.forall_mem_cons.mpr ⟨ok_ret C rfl (show decode cX7_goodNamed 22 = .ok (.ireturn, 1) by decide +kernel), ?_⟩
  refine List.forall_mem_cons.mpr ⟨ok_iinc C (show decode cX7_goodNamed 23 = .ok (.iinc 3 1, 3) by decide +kernel) (by decide) (by decide) rfl, ?_⟩
  refine List.forall_mem_cons.mpr ⟨ok_goto C (show decode cX7_goodNamed 26 = .ok (.goto (-24), 3) by decide +kernel) (tg := 2) (by decide) rfl, ?_⟩
  refine List.forall_mem_cons.mpr ⟨ok_iconst C (show decode cX7_goodNamed 29 = .ok (.iconst (-1), 1) by decide +kernel) (by decide) rfl, ?_⟩
  refine List.forall_mem_cons.mpr ⟨ok_ret C rfl (show decode cX7_goodNamed 30 = .ok (.ireturn, 1) by decide +kernel), ?_⟩
  exact fun _ h => absurd h List.not_mem_nil
def L_X7_takeGood (f_X9_takeName : List Value → ab_H → Option ab_O) (f_X7_goodNamed : List Value → ab_H → Option ab_O) (f_X9_fail : List Value → ab_H → Option ab_O) : List (Nat × ab_A) := [
  (0, ab_nx 1 (ab_aload 1)),
  (1, ab_nx 4 (ab_callV 1 9 f_X9_takeName 0 0 0 0)),
  (4, ab_if 7 9 (fun x => !decide (x = 0))),
  (7, ab_nx 8 (ab_lit (.int (-1)))),
  (8, ab_ret 0 0),
  (9, ab_nx 10 (ab_aload 0)),
  (10, ab_nx 11 (ab_aload 1)),
  (11, ab_nx 14 (ab_getf 9 8)),
  (14, ab_nx 17 (ab_callV 2 7 f_X7_goodNamed 0 0 0 0)),
  (17, ab_nx 18 (ab_istore 2)),
  (18, ab_nx 19 (ab_iload 2)),
  (19, ab_nx 20 (ab_lit (.int (-1)))),
  (20, ab_icmp 23 29 (fun x y => !decide (x = y))),
  (23, ab_nx 24 (ab_aload 1)),
  (24, ab_nx 25 (ab_lit (.int 3))),
  (25, ab_nx 28 (ab_callV 2 9 f_X9_fail 0 0 0 0)),
  (28, ab_nx 29 ab_pop),
  (29, ab_nx 30 (ab_iload 2)),
  (30, ab_ret 0 0)]
set_option maxRecDepth 100000 in
set_option maxHeartbeats 4000000 in
theorem M_X7_takeGood {l : Launch} {b : ab_B} {D : va_G} {cA : Nat → ClassId} {f_X9_takeName : List Value → ab_H → Option ab_O} (h_X9_takeName : ab_M l b D ab_cl cA (ab_E0 b) yX9_takeName (Cond.code yX9_takeName cX9_takeName 1 (some .boolean) :: ab_G) ({ frames := 2, cells := 0, slots := 0, locals := 200 } : Room) f_X9_takeName) {f_X7_goodNamed : List Value → ab_H → Option ab_O} (h_X7_goodNamed : ab_M l b D ab_cl cA (ab_E0 b) yX7_goodNamed (Cond.code yX7_goodNamed cX7_goodNamed 4 (some .int) :: ab_G) ({ frames := 1, cells := 0, slots := 0, locals := 100 } : Room) f_X7_goodNamed) {f_X9_fail : List Value → ab_H → Option ab_O} (h_X9_fail : ab_M l b D ab_cl cA (ab_E0 b) yX9_fail (Cond.code yX9_fail cX9_fail 2 (some .boolean) :: ab_G) ({ frames := 1, cells := 0, slots := 0, locals := 100 } : Room) f_X9_fail) : ab_M l b D ab_cl cA (ab_E0 b) yX7_takeGood (Cond.code yX7_takeGood cX7_takeGood 3 (some .int) :: ab_G) ({ frames := 3, cells := 0, slots := 0, locals := 300 } : Room) (ab_X (ab_T (L_X7_takeGood f_X9_takeName f_X7_goodNamed f_X9_fail)) 3) := by
  refine ab_meth (ret := (some .int)) (L_X7_takeGood f_X9_takeName f_X7_goodNamed f_X9_fail) (by decide) rfl fun p e R s m args below meth c o C => ?_
  unfold L_X7_takeGood
  refine List.forall_mem_cons.mpr ⟨ok_aload_n C (show decode cX7_takeGood 0 = .ok (.aload_n 1, 1) by decide +kernel) rfl rfl, ?_⟩
  refine List.forall_mem_cons.mpr ⟨ok_callV C h_X9_takeName ⟨rfl, rfl⟩ rfl kw_515 kw_512 kw_513 kw_514 kw_3 rfl ds_X9_takeName ⟨by decide, by decide⟩ (show decode cX7_takeGood 1 = .ok (.invokevirtual 118, 3) by decide +kernel) rfl, ?_⟩
  refine List.forall_mem_cons.mpr ⟨ok_ifne C (show decode cX7_takeGood 4 = .ok (.ifCond .ne 5, 3) by decide +kernel) (tg := 9) (by decide) rfl rfl, ?_⟩
  refine List.forall_mem_cons.mpr ⟨ok_iconst C (show decode cX7_takeGood 7 = .ok (.iconst (-1), 1) by decide +kernel) (by decide) rfl, ?_⟩
  refine List.forall_mem_cons.mpr ⟨ok_ret C rfl (show decode cX7_takeGood 8 = .ok (.ireturn, 1) by decide +kernel), ?_⟩
  refine List.forall_mem_cons.mpr ⟨ok_aload_n C (show decode cX7_takeGood 9 = .ok (.aload_n 0, 1) by decide +kernel) rfl rfl, ?_⟩
  refine List.forall_mem_cons.mpr ⟨ok_aload_n C (show decode cX7_takeGood 10 = .ok (.aload_n 1, 1) by decide +kernel) rfl rfl, ?_⟩
  refine List.forall_mem_cons.mpr ⟨ok_getf C (wi_X9) rfl (by decide) kw_73 (show decode cX7_takeGood 11 = .ok (.getfield 122, 3) by decide +kernel) rfl, ?_⟩
  refine List.forall_mem_cons.mpr ⟨ok_callV C h_X7_goodNamed ⟨rfl, rfl⟩ rfl kw_524 kw_521 kw_522 kw_523 kw_9 rfl ds_X7_goodNamed ⟨by decide, by decide⟩ (show decode cX7_takeGood 14 = .ok (.invokevirtual 125, 3) by decide +kernel) rfl, ?_⟩
  refine List.forall_mem_cons.mpr ⟨ok_istore_n C (show decode cX7_takeGood 17 = .ok (.istore_n 2, 1) by decide +kernel) rfl (by decide) rfl, ?_⟩
  refine List.forall_mem_cons.mpr ⟨ok_iload_n C (show decode cX7_takeGood 18 = .ok (.iload_n 2, 1) by decide +kernel) rfl rfl, ?_⟩
  refine List.forall_mem_cons.mpr ⟨ok_iconst C (show decode cX7_takeGood 19 = .ok (.iconst (-1), 1) by decide +kernel) (by decide) rfl, ?_⟩
  refine List.forall_mem_cons.mpr ⟨ok_icmpne C (show decode cX7_takeGood 20 = .ok (.if_icmp .ne 9, 3) by decide +kernel) (tg := 29) (by decide) rfl rfl, ?_⟩
  refine List.forall_mem_cons.mpr ⟨ok_aload_n C (show decode cX7_takeGood 23 = .ok (.aload_n 1, 1) by decide +kernel) rfl rfl, ?_⟩
  refine List.forall_mem_cons.mpr ⟨ok_iconst C (show decode cX7_takeGood 24 = .ok (.iconst 3, 1) by decide +kernel) (by decide) rfl, ?_⟩
  refine List.forall_mem_cons.mpr ⟨ok_callV C h_X9_fail ⟨rfl, rfl⟩ rfl kw_520 kw_525 kw_518 kw_519 kw_3 rfl ds_X9_fail ⟨by decide, by decide⟩ (show decode cX7_takeGood 25 = .ok (.invokevirtual 108, 3) by decide +kernel) rfl, ?_⟩
  refine List.forall_mem_cons.mpr ⟨ok_pop C (show decode cX7_takeGood 28 = .ok (.pop, 1) by decide +kernel) rfl, ?_⟩
  refine List.forall_mem_cons.mpr ⟨ok_iload_n C (show decode cX7_takeGood 29 = .ok (.iload_n 2, 1) by decide +kernel) rfl rfl, ?_⟩
  refine List.forall_mem_cons.mpr ⟨ok_ret C rfl (show decode cX7_takeGood 30 = .ok (.ireturn, 1) by decide +kernel), ?_⟩
  exact fun _ h => absurd h List.not_mem_nil
def L_X9_takeNumber (f_X9_step : List Value → ab_H → Option ab_O) (f_X9_fail : List Value → ab_H → Option ab_O) : List (Nat × ab_A) := [
  (0, ab_nx 1 (ab_aload 0)),
  (1, ab_nx 4 (ab_callV 1 9 f_X9_step 0 0 0 0)),
  (4, ab_nx 5 (ab_aload 0)),
  (5, ab_nx 8 (ab_getf 9 5)),
  (8, ab_nx 9 (ab_lit (.int 3))),
  (9, ab_icmp 12 18 (fun x y => decide (x = y))),
  (12, ab_nx 13 (ab_aload 0)),
  (13, ab_nx 14 (ab_lit (.int 1))),
  (14, ab_nx 17 (ab_callV 2 9 f_X9_fail 0 0 0 0)),
  (17, ab_zret 0 0),
  (18, ab_nx 19 (ab_aload 0)),
  (19, ab_nx 22 (ab_getf 9 7)),
  (22, ab_nx 23 (ab_iload 1)),
  (23, ab_icmp 26 34 (fun x y => decide (x < y))),
  (26, ab_nx 27 (ab_aload 0)),
  (27, ab_nx 30 (ab_getf 9 7)),
  (30, ab_nx 31 (ab_iload 2)),
  (31, ab_icmp 34 42 (fun x y => decide (x ≤ y))),
  (34, ab_nx 35 (ab_aload 0)),
  (35, ab_nx 36 (ab_lit (.int 2))),
  (36, ab_nx 39 (ab_callV 2 9 f_X9_fail 0 0 0 0)),
  (39, ab_if 42 46 (fun x => decide (x = 0))),
  (42, ab_nx 43 (ab_lit (.int 1))),
  (43, ab_goto 47),
  (46, ab_nx 47 (ab_lit (.int 0))),
  (47, ab_zret 0 0)]
set_option maxRecDepth 100000 in
set_option maxHeartbeats 4000000 in
theorem M_X9_takeNumber {l : Launch} {b : ab_B} {D : va_G} {cA : Nat → ClassId} {f_X9_step : List Value → ab_H → Option ab_O} (h_X9_step : ab_M l b D ab_cl cA (ab_E0 b) yX9_step (Cond.code yX9_step cX9_step 1 none :: ab_G) ({ frames := 1, cells := 0, slots := 0, locals := 100 } : Room) f_X9_step) {f_X9_fail : List Value → ab_H → Option ab_O} (h_X9_fail : ab_M l b D ab_cl cA (ab_E0 b) yX9_fail (Cond.code yX9_fail cX9_fail 2 (some .boolean) :: ab_G) ({ frames := 1, cells := 0, slots := 0, locals := 100 } : Room) f_X9_fail) : ab_M l b D ab_cl cA (ab_E0 b) yX9_takeNumber (Cond.code yX9_takeNumber cX9_takeNumber 3 (some .boolean) :: ab_G) ({ frames := 2, cells := 0, slots := 0, locals := 200 } : Room) (ab_X (ab_T (L_X9_takeNumber f_X9_step f_X9_fail)) 3) := by
  refine ab_meth (ret := (some .boolean)) (L_X9_takeNumber f_X9_step f_X9_fail) (by decide) rfl fun p e R s m args below meth c o C => ?_
  unfold L_X9_takeNumber
  refine List.forall_mem_cons.mpr ⟨ok_aload_n C (show decode cX9_takeNumber 0 = .ok (.aload_n 0, 1) by decide +kernel) rfl rfl, ?_⟩
  refine List.forall_mem_cons.mpr ⟨ok_callV C h_X9_step ⟨rfl, rfl⟩ rfl kw_499 kw_516 kw_497 kw_498 kw_3 rfl ds_X9_step ⟨by decide, by decide⟩ (show decode cX9_takeNumber 1 = .ok (.invokevirtual 45, 3) by decide +kernel) rfl, ?_⟩
  refine List.forall_mem_cons.mpr ⟨ok_aload_n C (show decode cX9_takeNumber 4 = .ok (.aload_n 0, 1) by decide +kernel) rfl rfl, ?_⟩
  refine List.forall_mem_cons.mpr ⟨ok_getf C (wi_X9) rfl (by decide) kw_63 (show decode cX9_takeNumber 5 = .ok (.getfield 32, 3) by decide +kernel) rfl, ?_⟩
  refine List.forall_mem_cons.mpr ⟨ok_iconst C (show decode cX9_takeNumber 8 = .ok (.iconst 3, 1) by decide +kernel) (by decide) rfl, ?_⟩
  refine List.forall_mem_cons.mpr ⟨ok_icmpeq C (show decode cX9_takeNumber 9 = .ok (.if_icmp .eq 9, 3) by decide +kernel) (tg := 18) (by decide) rfl rfl, ?_⟩
  refine List.forall_mem_cons.mpr ⟨ok_aload_n C (show decode cX9_takeNumber 12 = .ok (.aload_n 0, 1) by decide +kernel) rfl rfl, ?_⟩
  refine List.forall_mem_cons.mpr ⟨ok_iconst C (show decode cX9_takeNumber 13 = .ok (.iconst 1, 1) by decide +kernel) (by decide) rfl, ?_⟩
  refine List.forall_mem_cons.mpr ⟨ok_callV C h_X9_fail ⟨rfl, rfl⟩ rfl kw_520 kw_517 kw_518 kw_519 kw_3 rfl ds_X9_fail ⟨by decide, by decide⟩ (show decode cX9_takeNumber 14 = .ok (.invokevirtual 48, 3) by decide +kernel) rfl, ?_⟩
  refine List.forall_mem_cons.mpr ⟨ok_zret C rfl (show decode cX9_takeNumber 17 = .ok (.ireturn, 1) by decide +kernel), ?_⟩
  refine List.forall_mem_cons.mpr ⟨ok_aload_n C (show decode cX9_takeNumber 18 = .ok (.aload_n 0, 1) by decide +kernel) rfl rfl, ?_⟩
  refine List.forall_mem_cons.mpr ⟨ok_getf C (wi_X9) rfl (by decide) kw_68 (show decode cX9_takeNumber 19 = .ok (.getfield 42, 3) by decide +kernel) rfl, ?_⟩
  refine List.forall_mem_cons.mpr ⟨ok_iload_n C (show decode cX9_takeNumber 22 = .ok (.iload_n 1, 1) by decide +kernel) rfl rfl, ?_⟩
  refine List.forall_mem_cons.mpr ⟨ok_icmplt C (show decode cX9_takeNumber 23 = .ok (.if_icmp .lt 11, 3) by decide +kernel) (tg := 34) (by decide) rfl rfl, ?_⟩
  refine List.forall_mem_cons.mpr ⟨ok_aload_n C (show decode cX9_takeNumber 26 = .ok (.aload_n 0, 1) by decide +kernel) rfl rfl, ?_⟩
  refine List.forall_mem_cons.mpr ⟨ok_getf C (wi_X9) rfl (by decide) kw_68 (show decode cX9_takeNumber 27 = .ok (.getfield 42, 3) by decide +kernel) rfl, ?_⟩
  refine List.forall_mem_cons.mpr ⟨ok_iload_n C (show decode cX9_takeNumber 30 = .ok (.iload_n 2, 1) by decide +kernel) rfl rfl, ?_⟩
  refine List.forall_mem_cons.mpr ⟨ok_icmple C (show decode cX9_takeNumber 31 = .ok (.if_icmp .le 11, 3) by decide +kernel) (tg := 42) (by decide) rfl rfl, ?_⟩
  refine List.forall_mem_cons.mpr ⟨ok_aload_n C (show decode cX9_takeNumber 34 = .ok (.aload_n 0, 1) by decide +kernel) rfl rfl, ?_⟩
  refine List.forall_mem_cons.mpr ⟨ok_iconst C (show decode cX9_takeNumber 35 = .ok (.iconst 2, 1) by decide +kernel) (by decide) rfl, ?_⟩
  refine List.forall_mem_cons.mpr ⟨ok_callV C h_X9_fail ⟨rfl, rfl⟩ rfl kw_520 kw_517 kw_518 kw_519 kw_3 rfl ds_X9_fail ⟨by decide, by decide⟩ (show decode cX9_takeNumber 36 = .ok (.invokevirtual 48, 3) by decide +kernel) rfl, ?_⟩
  refine List.forall_mem_cons.mpr ⟨ok_ifeq C (show decode cX9_takeNumber 39 = .ok (.ifCond .eq 7, 3) by decide +kernel) (tg := 46) (by decide) rfl rfl, ?_⟩
  refine List.forall_mem_cons.mpr ⟨ok_iconst C (show decode cX9_takeNumber 42 = .ok (.iconst 1, 1) by decide +kernel) (by decide) rfl, ?_⟩
  refine List.forall_mem_cons.mpr ⟨ok_goto C (show decode cX9_takeNumber 43 = .ok (.goto 4, 3) by decide +kernel) (tg := 47) (by decide) rfl, ?_⟩
  refine List.forall_mem_cons.mpr ⟨ok_iconst C (show decode cX9_takeNumber 46 = .ok (.iconst 0, 1) by decide +kernel) (by decide) rfl, ?_⟩
  refine List.forall_mem_cons.mpr ⟨ok_zret C rfl (show decode cX9_takeNumber 47 = .ok (.ireturn, 1) by decide +kernel), ?_⟩
  exact fun _ h => absurd h List.not_mem_nil
def L_X4_addLine : List (Nat × ab_A) := [
  (0, ab_nx 1 (ab_aload 0)),
  (1, ab_nx 4 (ab_getf 4 0)),
  (4, ab_nx 5 (ab_aload 0)),
  (5, ab_nx 8 (ab_getf 4 3)),
  (8, ab_nx 9 (ab_iload 1)),
  (9, ab_nx 10 (ab_ast 1)),
  (10, ab_nx 11 (ab_aload 0)),
  (11, ab_nx 14 (ab_getf 4 1)),
  (14, ab_nx 15 (ab_aload 0)),
  (15, ab_nx 18 (ab_getf 4 3)),
  (18, ab_nx 19 (ab_iload 2)),
  (19, ab_nx 20 (ab_ast 1)),
  (20, ab_nx 21 (ab_aload 0)),
  (21, ab_nx 24 (ab_getf 4 2)),
  (24, ab_nx 25 (ab_aload 0)),
  (25, ab_nx 28 (ab_getf 4 3)),
  (28, ab_nx 29 (ab_iload 3)),
  (29, ab_nx 30 (ab_ast 1)),
  (30, ab_nx 31 (ab_aload 0)),
  (31, ab_nx 32 ab_dup),
  (32, ab_nx 35 (ab_getf 4 3)),
  (35, ab_nx 36 (ab_lit (.int 1))),
  (36, ab_nx 37 (ab_bin (fun x y => x + y))),
  (37, ab_nx 40 (ab_putf 4 3 0)),
  (40, ab_nx 41 (ab_lit (.int 1))),
  (41, ab_zret 0 0)]
set_option maxRecDepth 100000 in
set_option maxHeartbeats 4000000 in
theorem M_X4_addLine {l : Launch} {b : ab_B} {D : va_G} {cA : Nat → ClassId} : ab_M l b D ab_cl cA (ab_E0 b) yX4_addLine (Cond.code yX4_addLine cX4_addLine 4 (some .boolean) :: ab_G) ({ frames := 1, cells := 0, slots := 0, locals := 100 } : Room) (ab_X (ab_T L_X4_addLine) 4) := by
  refine ab_meth (ret := (some .boolean)) L_X4_addLine (by decide) rfl fun p e R s m args below meth c o C => ?_
  unfold L_X4_addLine
  refine List.forall_mem_cons.mpr ⟨ok_aload_n C (show decode cX4_addLine 0 = .ok (.aload_n 0, 1) by decide +kernel) rfl rfl, ?_⟩
  refine List.forall_mem_cons.mpr ⟨ok_getf C (wi_X4) rfl (by decide) kw_198 (show decode cX4_addLine 1 = .ok (.getfield 9, 3) by decide +kernel) rfl, ?_⟩
  refine List.forall_mem_cons.mpr ⟨ok_aload_n C (show decode cX4_addLine 4 = .ok (.aload_n 0, 1) by decide +kernel) rfl rfl, ?_⟩
  refine List.forall_mem_cons.mpr ⟨ok_getf C (wi_X4) rfl (by decide) kw_204 (show decode cX4_addLine 5 = .ok (.getfield 21, 3) by decide +kernel) rfl, ?_⟩
  refine List.forall_mem_cons.mpr ⟨ok_iload_n C (show decode cX4_addLine 8 = .ok (.iload_n 1, 1) by decide +kernel) rfl rfl, ?_⟩
  refine List.forall_mem_cons.mpr ⟨ok_iastore C (show decode cX4_addLine 9 = .ok (.iastore, 1) by decide +kernel) rfl, ?_⟩
  refine List.forall_mem_cons.mpr ⟨ok_aload_n C (show decode cX4_addLine 10 = .ok (.aload_n 0, 1) by decide +kernel) rfl rfl, ?_⟩
  refine List.forall_mem_cons.mpr ⟨ok_getf C (wi_X4) rfl (by decide) kw_200 (show decode cX4_addLine 11 = .ok (.getfield 15, 3) by decide +kernel) rfl, ?_⟩
  refine List.forall_mem_cons.mpr ⟨ok_aload_n C (show decode cX4_addLine 14 = .ok (.aload_n 0, 1) by decide +kernel) rfl rfl, ?_⟩
  refine List.forall_mem_cons.mpr ⟨ok_getf C (wi_X4) rfl (by decide) kw_204 (show decode cX4_addLine 15 = .ok (.getfield 21, 3) by decide +kernel) rfl, ?_⟩
  refine List.forall_mem_cons.mpr ⟨ok_iload_n C (show decode cX4_addLine 18 = .ok (.iload_n 2, 1) by decide +kernel) rfl rfl, ?_⟩
  refine List.forall_mem_cons.mpr ⟨ok_iastore C (show decode cX4_addLine 19 = .ok (.iastore, 1) by decide +kernel) rfl, ?_⟩
  refine List.forall_mem_cons.mpr ⟨ok_aload_n C (show decode cX4_addLine 20 = .ok (.aload_n 0, 1) by decide +kernel) rfl rfl, ?_⟩
  refine List.forall_mem_cons.mpr ⟨ok_getf C (wi_X4) rfl (by decide) kw_202 (show decode cX4_addLine 21 = .ok (.getfield 18, 3) by decide +kernel) rfl, ?_⟩
  refine List.forall_mem_cons.mpr ⟨ok_aload_n C (show decode cX4_addLine 24 = .ok (.aload_n 0, 1) by decide +kernel) rfl rfl, ?_⟩
  refine List.forall_mem_cons.mpr ⟨ok_getf C (wi_X4) rfl (by decide) kw_204 (show decode cX4_addLine 25 = .ok (.getfield 21, 3) by decide +kernel) rfl, ?_⟩
  refine List.forall_mem_cons.mpr ⟨ok_iload_n C (show decode cX4_addLine 28 = .ok (.iload_n 3, 1) by decide +kernel) rfl rfl, ?_⟩
  refine List.forall_mem_cons.mpr ⟨ok_iastore C (show decode cX4_addLine 29 = .ok (.iastore, 1) by decide +kernel) rfl, ?_⟩
  refine List.forall_mem_cons.mpr ⟨ok_aload_n C (show decode cX4_addLine 30 = .ok (.aload_n 0, 1) by decide +kernel) rfl rfl, ?_⟩
  refine List.forall_mem_cons.mpr ⟨ok_dup C (show decode cX4_addLine 31 = .ok (.dup, 1) by decide +kernel) rfl, ?_⟩
  refine List.forall_mem_cons.mpr ⟨ok_getf C (wi_X4) rfl (by decide) kw_204 (show decode cX4_addLine 32 = .ok (.getfield 21, 3) by decide +kernel) rfl, ?_⟩
  refine List.forall_mem_cons.mpr ⟨ok_iconst C (show decode cX4_addLine 35 = .ok (.iconst 1, 1) by decide +kernel) (by decide) rfl, ?_⟩
  refine List.forall_mem_cons.mpr ⟨ok_iadd C (show decode cX4_addLine 36 = .ok (.iadd, 1) by decide +kernel) rfl, ?_⟩
  refine List.forall_mem_cons.mpr ⟨ok_putf C (wi_X4) tyX4 tyX4_ok nmX4 rfl (by decide) kw_204 (Or.inl rfl) (Or.inl ⟨rfl, rfl⟩) (show decode cX4_addLine 37 = .ok (.putfield 21, 3) by decide +kernel) rfl, ?_⟩
  refine List.forall_mem_cons.mpr ⟨ok_iconst C (show decode cX4_addLine 40 = .ok (.iconst 1, 1) by decide +kernel) (by decide) rfl, ?_⟩
  refine List.forall_mem_cons.mpr ⟨ok_zret C rfl (show decode cX4_addLine 41 = .ok (.ireturn, 1) by decide +kernel), ?_⟩
  exact fun _ h => absurd h List.not_mem_nil
def L_X4_readDeed (f_X7_takeGood : List Value → ab_H → Option ab_O) (f_X9_takeNumber : List Value → ab_H → Option ab_O) (f_X10_slotOf : List Value → ab_H → Option ab_O) (f_X4_addLine : List Value → ab_H → Option ab_O) : List (Nat × ab_A) := [
  (0, ab_nx 1 (ab_aload 2)),
  (1, ab_nx 2 (ab_aload 1)),
  (2, ab_nx 5 (ab_callV 2 7 f_X7_takeGood 0 0 0 0)),
  (5, ab_nx 7 (ab_istore 4)),
  (7, ab_nx 9 (ab_iload 4)),
  (9, ab_nx 10 (ab_lit (.int (-1)))),
  (10, ab_icmp 13 22 (fun x y => decide (x = y))),
  (13, ab_nx 14 (ab_aload 1)),
  (14, ab_nx 15 (ab_lit (.int 0))),
  (15, ab_nx 16 (ab_lit (.int 1))),
  (16, ab_nx 19 (ab_callV 3 9 f_X9_takeNumber 0 0 0 0)),
  (19, ab_if 22 24 (fun x => !decide (x = 0))),
  (22, ab_nx 23 (ab_lit (.int 0))),
  (23, ab_zret 0 0),
  (24, ab_nx 26 (ab_iload 4)),
  (26, ab_nx 27 (ab_aload 1)),
  (27, ab_nx 30 (ab_getf 9 7)),
  (30, ab_nx 33 (ab_call 2 f_X10_slotOf 0 0 0 0)),
  (33, ab_nx 35 (ab_istore 5)),
  (35, ab_nx 36 (ab_aload 1)),
  (36, ab_nx 37 (ab_lit (.int 1))),
  (37, ab_nx 40 (ab_lit (.int 250))),
  (40, ab_nx 43 (ab_callV 3 9 f_X9_takeNumber 0 0 0 0)),
  (43, ab_if 46 64 (fun x => decide (x = 0))),
  (46, ab_nx 47 (ab_aload 0)),
  (47, ab_nx 48 (ab_iload 3)),
  (48, ab_nx 50 (ab_iload 5)),
  (50, ab_nx 51 (ab_aload 1)),
  (51, ab_nx 54 (ab_getf 9 7)),
  (54, ab_nx 57 (ab_callV 4 4 f_X4_addLine 0 0 0 0)),
  (57, ab_if 60 64 (fun x => decide (x = 0))),
  (60, ab_nx 61 (ab_lit (.int 1))),
  (61, ab_goto 65),
  (64, ab_nx 65 (ab_lit (.int 0))),
  (65, ab_zret 0 0)]
set_option maxRecDepth 100000 in
set_option maxHeartbeats 4000000 in
theorem M_X4_readDeed {l : Launch} {b : ab_B} {D : va_G} {cA : Nat → ClassId} {f_X7_takeGood : List Value → ab_H → Option ab_O} (h_X7_takeGood : ab_M l b D ab_cl cA (ab_E0 b) yX7_takeGood (Cond.code yX7_takeGood cX7_takeGood 3 (some .int) :: ab_G) ({ frames := 3, cells := 0, slots := 0, locals := 300 } : Room) f_X7_takeGood) {f_X9_takeNumber : List Value → ab_H → Option ab_O} (h_X9_takeNumber : ab_M l b D ab_cl cA (ab_E0 b) yX9_takeNumber (Cond.code yX9_takeNumber cX9_takeNumber 3 (some .boolean) :: ab_G) ({ frames := 2, cells := 0, slots := 0, locals := 200 } : Room) f_X9_takeNumber) {f_X10_slotOf : List Value → ab_H → Option ab_O} (h_X10_slotOf : ab_M l b D ab_cl cA (ab_E0 b) yX10_slotOf (Cond.code yX10_slotOf cX10_slotOf 2 (some .int) :: ab_G) ({ frames := 1, cells := 0, slots := 0, locals := 100 } : Room) f_X10_slotOf) {f_X4_addLine : List Value → ab_H → Option ab_O} (h_X4_addLine : ab_M l b D ab_cl cA (ab_E0 b) yX4_addLine (Cond.code yX4_addLine cX4_addLine 4 (some .boolean) :: ab_G) ({ frames := 1, cells := 0, slots := 0, locals := 100 } : Room) f_X4_addLine) : ab_M l b D ab_cl cA (ab_E0 b) yX4_readDeed (Cond.code yX4_readDeed cX4_readDeed 6 (some .boolean) :: ab_G) ({ frames := 4, cells := 0, slots := 0, locals := 400 } : Room) (ab_X (ab_T (L_X4_readDeed f_X7_takeGood f_X9_takeNumber f_X10_slotOf f_X4_addLine)) 6) := by
  refine ab_meth (ret := (some .boolean)) (L_X4_readDeed f_X7_takeGood f_X9_takeNumber f_X10_slotOf f_X4_addLine) (by decide) rfl fun p e R s m args below meth c o C => ?_
  unfold L_X4_readDeed
  refine List.forall_mem_cons.mpr ⟨ok_aload_n C (show decode cX4_readDeed 0 = .ok (.aload_n 2, 1) by decide +kernel) rfl rfl, ?_⟩
  refine List.forall_mem_cons.mpr ⟨ok_aload_n C (show decode cX4_readDeed 1 = .ok (.aload_n 1, 1) by decide +kernel) rfl rfl, ?_⟩
  refine List.forall_mem_cons.mpr ⟨ok_callV C h_X7_takeGood ⟨rfl, rfl⟩ rfl kw_511 kw_925 kw_509 kw_510 kw_9 rfl ds_X7_takeGood ⟨by decide, by decide⟩ (show decode cX4_readDeed 2 = .ok (.invokevirtual 66, 3) by decide +kernel) rfl, ?_⟩
  refine List.forall_mem_cons.mpr ⟨ok_istore C (show decode cX4_readDeed 5 = .ok (.istore 4, 2) by decide +kernel) (by decide) rfl, ?_⟩
  refine List.forall_mem_cons.mpr ⟨ok_iload C (show decode cX4_readDeed 7 = .ok (.iload 4, 2) by decide +kernel) rfl, ?_⟩
  refine List.forall_mem_cons.mpr ⟨ok_iconst C (show decode cX4_readDeed 9 = .ok (.iconst (-1), 1) by decide +kernel) (by decide) rfl, ?_⟩
  refine List.forall_mem_cons.mpr ⟨ok_icmpeq C (show decode cX4_readDeed 10 = .ok (.if_icmp .eq 12, 3) by decide +kernel) (tg := 22) (by decide) rfl rfl, ?_⟩
  refine List.forall_mem_cons.mpr ⟨ok_aload_n C (show decode cX4_readDeed 13 = .ok (.aload_n 1, 1) by decide +kernel) rfl rfl, ?_⟩
  refine List.forall_mem_cons.mpr ⟨ok_iconst C (show decode cX4_readDeed 14 = .ok (.iconst 0, 1) by decide +kernel) (by decide) rfl, ?_⟩
  refine List.forall_mem_cons.mpr ⟨ok_iconst C (show decode cX4_readDeed 15 = .ok (.iconst 1, 1) by decide +kernel) (by decide) rfl, ?_⟩
  refine List.forall_mem_cons.mpr ⟨ok_callV C h_X9_takeNumber ⟨rfl, rfl⟩ rfl kw_529 kw_926 kw_527 kw_528 kw_3 rfl ds_X9_takeNumber ⟨by decide, by decide⟩ (show decode cX4_readDeed 16 = .ok (.invokevirtual 70, 3) by decide +kernel) rfl, ?_⟩
  refine List.forall_mem_cons.mpr ⟨ok_ifne C (show decode cX4_readDeed 19 = .ok (.ifCond .ne 5, 3) by decide +kernel) (tg := 24) (by decide) rfl rfl, ?_⟩
  refine List.forall_mem_cons.mpr ⟨ok_iconst C (show decode cX4_readDeed 22 = .ok (.iconst 0, 1) by decide +kernel) (by decide) rfl, ?_⟩
  refine List.forall_mem_cons.mpr ⟨ok_zret C rfl (show decode cX4_readDeed 23 = .ok (.ireturn, 1) by decide +kernel), ?_⟩
  refine List.forall_mem_cons.mpr ⟨ok_iload C (show decode cX4_readDeed 24 = .ok (.iload 4, 2) by decide +kernel) rfl, ?_⟩
  refine List.forall_mem_cons.mpr ⟨ok_aload_n C (show decode cX4_readDeed 26 = .ok (.aload_n 1, 1) by decide +kernel) rfl rfl, ?_⟩
  refine List.forall_mem_cons.mpr ⟨ok_getf C (wi_X9) rfl (by decide) kw_67 (show decode cX4_readDeed 27 = .ok (.getfield 74, 3) by decide +kernel) rfl, ?_⟩
  refine List.forall_mem_cons.mpr ⟨ok_callSN C h_X10_slotOf ⟨rfl, rfl⟩ kw_532 (host := "LackFerry") (by decide +kernel) kw_531 kw_1 ds_X10_slotOf ⟨by decide, by decide⟩ (show decode cX4_readDeed 30 = .ok (.invokestatic 77, 3) by decide +kernel) rfl, ?_⟩
  refine List.forall_mem_cons.mpr ⟨ok_istore C (show decode cX4_readDeed 33 = .ok (.istore 5, 2) by decide +kernel) (by decide) rfl, ?_⟩
  refine List.forall_mem_cons.mpr ⟨ok_aload_n C (show decode cX4_readDeed 35 = .ok (.aload_n 1, 1) by decide +kernel) rfl rfl, ?_⟩
  refine List.forall_mem_cons.mpr ⟨ok_iconst C (show decode cX4_readDeed 36 = .ok (.iconst 1, 1) by decide +kernel) (by decide) rfl, ?_⟩
  refine List.forall_mem_cons.mpr ⟨ok_sipush C (show decode cX4_readDeed 37 = .ok (.sipush 250, 3) by decide +kernel) (by decide) rfl, ?_⟩
  refine List.forall_mem_cons.mpr ⟨ok_callV C h_X9_takeNumber ⟨rfl, rfl⟩ rfl kw_529 kw_926 kw_527 kw_528 kw_3 rfl ds_X9_takeNumber ⟨by decide, by decide⟩ (show decode cX4_readDeed 40 = .ok (.invokevirtual 70, 3) by decide +kernel) rfl, ?_⟩
  refine List.forall_mem_cons.mpr ⟨ok_ifeq C (show decode cX4_readDeed 43 = .ok (.ifCond .eq 21, 3) by decide +kernel) (tg := 64) (by decide) rfl rfl, ?_⟩
  refine List.forall_mem_cons.mpr ⟨ok_aload_n C (show decode cX4_readDeed 46 = .ok (.aload_n 0, 1) by decide +kernel) rfl rfl, ?_⟩
  refine List.forall_mem_cons.mpr ⟨ok_iload_n C (show decode cX4_readDeed 47 = .ok (.iload_n 3, 1) by decide +kernel) rfl rfl, ?_⟩
  refine List.forall_mem_cons.mpr ⟨ok_iload C (show decode cX4_readDeed 48 = .ok (.iload 5, 2) by decide +kernel) rfl, ?_⟩
  refine List.forall_mem_cons.mpr ⟨ok_aload_n C (show decode cX4_readDeed 50 = .ok (.aload_n 1, 1) by decide +kernel) rfl rfl, ?_⟩
  refine List.forall_mem_cons.mpr ⟨ok_getf C (wi_X9) rfl (by decide) kw_67 (show decode cX4_readDeed 51 = .ok (.getfield 74, 3) by decide +kernel) rfl, ?_⟩
  refine List.forall_mem_cons.mpr ⟨ok_callV C h_X4_addLine ⟨rfl, rfl⟩ rfl kw_931 kw_928 kw_930 kp_33 kw_7 rfl ds_X4_addLine ⟨by decide, by decide⟩ (show decode cX4_readDeed 54 = .ok (.invokevirtual 81, 3) by decide +kernel) rfl, ?_⟩
  refine List.forall_mem_cons.mpr ⟨ok_ifeq C (show decode cX4_readDeed 57 = .ok (.ifCond .eq 7, 3) by decide +kernel) (tg := 64) (by decide) rfl rfl, ?_⟩
  refine List.forall_mem_cons.mpr ⟨ok_iconst C (show decode cX4_readDeed 60 = .ok (.iconst 1, 1) by decide +kernel) (by decide) rfl, ?_⟩
  refine List.forall_mem_cons.mpr ⟨ok_goto C (show decode cX4_readDeed 61 = .ok (.goto 4, 3) by decide +kernel) (tg := 65) (by decide) rfl, ?_⟩
  refine List.forall_mem_cons.mpr ⟨ok_iconst C (show decode cX4_readDeed 64 = .ok (.iconst 0, 1) by decide +kernel) (by decide) rfl, ?_⟩
  refine List.forall_mem_cons.mpr ⟨ok_zret C rfl (show decode cX4_readDeed 65 = .ok (.ireturn, 1) by decide +kernel), ?_⟩
  exact fun _ h => absurd h List.not_mem_nil
def L_X4_readDays (f_X9_takeNumber : List Value → ab_H → Option ab_O) (f_X4_addLine : List Value → ab_H → Option ab_O) : List (Nat × ab_A) := [
  (0, ab_nx 1 (ab_aload 1)),
  (1, ab_nx 2 (ab_lit (.int 1))),
  (2, ab_nx 4 (ab_lit (.int 60))),
  (4, ab_nx 7 (ab_callV 3 9 f_X9_takeNumber 0 0 0 0)),
  (7, ab_if 10 27 (fun x => decide (x = 0))),
  (10, ab_nx 11 (ab_aload 0)),
  (11, ab_nx 12 (ab_lit (.int 4))),
  (12, ab_nx 13 (ab_lit (.int 0))),
  (13, ab_nx 14 (ab_aload 1)),
  (14, ab_nx 17 (ab_getf 9 7)),
  (17, ab_nx 20 (ab_callV 4 4 f_X4_addLine 0 0 0 0)),
  (20, ab_if 23 27 (fun x => decide (x = 0))),
  (23, ab_nx 24 (ab_lit (.int 1))),
  (24, ab_goto 28),
  (27, ab_nx 28 (ab_lit (.int 0))),
  (28, ab_zret 0 0)]
set_option maxRecDepth 100000 in
set_option maxHeartbeats 4000000 in
theorem M_X4_readDays {l : Launch} {b : ab_B} {D : va_G} {cA : Nat → ClassId} {f_X9_takeNumber : List Value → ab_H → Option ab_O} (h_X9_takeNumber : ab_M l b D ab_cl cA (ab_E0 b) yX9_takeNumber (Cond.code yX9_takeNumber cX9_takeNumber 3 (some .boolean) :: ab_G) ({ frames := 2, cells := 0, slots := 0, locals := 200 } : Room) f_X9_takeNumber) {f_X4_addLine : List Value → ab_H → Option ab_O} (h_X4_addLine : ab_M l b D ab_cl cA (ab_E0 b) yX4_addLine (Cond.code yX4_addLine cX4_addLine 4 (some .boolean) :: ab_G) ({ frames := 1, cells := 0, slots := 0, locals := 100 } : Room) f_X4_addLine) : ab_M l b D ab_cl cA (ab_E0 b) yX4_readDays (Cond.code yX4_readDays cX4_readDays 2 (some .boolean) :: ab_G) ({ frames := 3, cells := 0, slots := 0, locals := 300 } : Room) (ab_X (ab_T (L_X4_readDays f_X9_takeNumber f_X4_addLine)) 2) := by
  refine ab_meth (ret := (some .boolean)) (L_X4_readDays f_X9_takeNumber f_X4_addLine) (by decide) rfl fun p e R s m args below meth c o C => ?_
  unfold L_X4_readDays
  refine List.forall_mem_cons.mpr ⟨ok_aload_n C (show decode cX4_readDays 0 = .ok (.aload_n 1, 1) by decide +kernel) rfl rfl, ?_⟩
  refine List.forall_mem_cons.mpr ⟨ok_iconst C (show decode cX4_readDays 1 = .ok (.iconst 1, 1) by decide +kernel) (by decide) rfl, ?_⟩
  refine List.forall_mem_cons.mpr ⟨ok_bipush C (show decode cX4_readDays 2 = .ok (.bipush 60, 2) by decide +kernel) (by decide) rfl, ?_⟩
  refine List.forall_mem_cons.mpr ⟨ok_callV C h_X9_takeNumber ⟨rfl, rfl⟩ rfl kw_529 kw_926 kw_527 kw_528 kw_3 rfl ds_X9_takeNumber ⟨by decide, by decide⟩ (show decode cX4_readDays 4 = .ok (.invokevirtual 70, 3) by decide +kernel) rfl, ?_⟩
  refine List.forall_mem_cons.mpr ⟨ok_ifeq C (show decode cX4_readDays 7 = .ok (.ifCond .eq 20, 3) by decide +kernel) (tg := 27) (by decide) rfl rfl, ?_⟩
  refine List.forall_mem_cons.mpr ⟨ok_aload_n C (show decode cX4_readDays 10 = .ok (.aload_n 0, 1) by decide +kernel) rfl rfl, ?_⟩
  refine List.forall_mem_cons.mpr ⟨ok_iconst C (show decode cX4_readDays 11 = .ok (.iconst 4, 1) by decide +kernel) (by decide) rfl, ?_⟩
  refine List.forall_mem_cons.mpr ⟨ok_iconst C (show decode cX4_readDays 12 = .ok (.iconst 0, 1) by decide +kernel) (by decide) rfl, ?_⟩
  refine List.forall_mem_cons.mpr ⟨ok_aload_n C (show decode cX4_readDays 13 = .ok (.aload_n 1, 1) by decide +kernel) rfl rfl, ?_⟩
  refine List.forall_mem_cons.mpr ⟨ok_getf C (wi_X9) rfl (by decide) kw_67 (show decode cX4_readDays 14 = .ok (.getfield 74, 3) by decide +kernel) rfl, ?_⟩
  refine List.forall_mem_cons.mpr ⟨ok_callV C h_X4_addLine ⟨rfl, rfl⟩ rfl kw_931 kw_928 kw_930 kp_33 kw_7 rfl ds_X4_addLine ⟨by decide, by decide⟩ (show decode cX4_readDays 17 = .ok (.invokevirtual 81, 3) by decide +kernel) rfl, ?_⟩
  refine List.forall_mem_cons.mpr ⟨ok_ifeq C (show decode cX4_readDays 20 = .ok (.ifCond .eq 7, 3) by decide +kernel) (tg := 27) (by decide) rfl rfl, ?_⟩
  refine List.forall_mem_cons.mpr ⟨ok_iconst C (show decode cX4_readDays 23 = .ok (.iconst 1, 1) by decide +kernel) (by decide) rfl, ?_⟩
  refine List.forall_mem_cons.mpr ⟨ok_goto C (show decode cX4_readDays 24 = .ok (.goto 4, 3) by decide +kernel) (tg := 28) (by decide) rfl, ?_⟩
  refine List.forall_mem_cons.mpr ⟨ok_iconst C (show decode cX4_readDays 27 = .ok (.iconst 0, 1) by decide +kernel) (by decide) rfl, ?_⟩
  refine List.forall_mem_cons.mpr ⟨ok_zret C rfl (show decode cX4_readDays 28 = .ok (.ireturn, 1) by decide +kernel), ?_⟩
  exact fun _ h => absurd h List.not_mem_nil
def L_X4_readDeath (f_X9_step : List Value → ab_H → Option ab_O) (f_X4_addLine : List Value → ab_H → Option ab_O) (f_X9_fail : List Value → ab_H → Option ab_O) : List (Nat × ab_A) := [
  (0, ab_nx 1 (ab_aload 1)),
  (1, ab_nx 4 (ab_callV 1 9 f_X9_step 0 0 0 0)),
  (4, ab_nx 5 (ab_aload 1)),
  (5, ab_nx 8 (ab_getf 9 5)),
  (8, ab_nx 10 (ab_lit (.int 75))),
  (10, ab_icmp 13 23 (fun x y => !decide (x = y))),
  (13, ab_nx 14 (ab_aload 0)),
  (14, ab_nx 15 (ab_lit (.int 3))),
  (15, ab_nx 16 (ab_iload 2)),
  (16, ab_nx 17 (ab_lit (.int 0))),
  (17, ab_nx 20 (ab_callV 4 4 f_X4_addLine 0 0 0 0)),
  (20, ab_goto 28),
  (23, ab_nx 24 (ab_aload 1)),
  (24, ab_nx 25 (ab_lit (.int 1))),
  (25, ab_nx 28 (ab_callV 2 9 f_X9_fail 0 0 0 0)),
  (28, ab_zret 0 0)]
set_option maxRecDepth 100000 in
set_option maxHeartbeats 4000000 in
theorem M_X4_readDeath {l : Launch} {b : ab_B} {D : va_G} {cA : Nat → ClassId} {f_X9_step : List Value → ab_H → Option ab_O} (h_X9_step : ab_M l b D ab_cl cA (ab_E0 b) yX9_step (Cond.code yX9_step cX9_step 1 none :: ab_G) ({ frames := 1, cells := 0, slots := 0, locals := 100 } : Room) f_X9_step) {f_X4_addLine : List Value → ab_H → Option ab_O} (h_X4_addLine : ab_M l b D ab_cl cA (ab_E0 b) yX4_addLine (Cond.code yX4_addLine cX4_addLine 4 (some .boolean) :: ab_G) ({ frames := 1, cells := 0, slots := 0, locals := 100 } : Room) f_X4_addLine) {f_X9_fail : List Value → ab_H → Option ab_O} (h_X9_fail : ab_M l b D ab_cl cA (ab_E0 b) yX9_fail (Cond.code yX9_fail cX9_fail 2 (some .boolean) :: ab_G) ({ frames := 1, cells := 0, slots := 0, locals := 100 } : Room) f_X9_fail) : ab_M l b D ab_cl cA (ab_E0 b) yX4_readDeath (Cond.code yX4_readDeath cX4_readDeath 3 (some .boolean) :: ab_G) ({ frames := 2, cells := 0, slots := 0, locals := 200 } : Room) (ab_X (ab_T (L_X4_readDeath f_X9_step f_X4_addLine f_X9_fail)) 3) := by
  refine ab_meth (ret := (some .boolean)) (L_X4_readDeath f_X9_step f_X4_addLine f_X9_fail) (by decide) rfl fun p e R s m args below meth c o C => ?_
  unfold L_X4_readDeath
  refine List.forall_mem_cons.mpr ⟨ok_aload_n C (show decode cX4_readDeath 0 = .ok (.aload_n 1, 1) by decide +kernel) rfl rfl, ?_⟩
  refine List.forall_mem_cons.mpr ⟨ok_callV C h_X9_step ⟨rfl, rfl⟩ rfl kw_499 kw_914 kw_497 kw_498 kw_3 rfl ds_X9_step ⟨by decide, by decide⟩ (show decode cX4_readDeath 1 = .ok (.invokevirtual 25, 3) by decide +kernel) rfl, ?_⟩
  refine List.forall_mem_cons.mpr ⟨ok_aload_n C (show decode cX4_readDeath 4 = .ok (.aload_n 1, 1) by decide +kernel) rfl rfl, ?_⟩
  refine List.forall_mem_cons.mpr ⟨ok_getf C (wi_X9) rfl (by decide) kw_61 (show decode cX4_readDeath 5 = .ok (.getfield 30, 3) by decide +kernel) rfl, ?_⟩
  refine List.forall_mem_cons.mpr ⟨ok_bipush C (show decode cX4_readDeath 8 = .ok (.bipush 75, 2) by decide +kernel) (by decide) rfl, ?_⟩
  refine List.forall_mem_cons.mpr ⟨ok_icmpne C (show decode cX4_readDeath 10 = .ok (.if_icmp .ne 13, 3) by decide +kernel) (tg := 23) (by decide) rfl rfl, ?_⟩
  refine List.forall_mem_cons.mpr ⟨ok_aload_n C (show decode cX4_readDeath 13 = .ok (.aload_n 0, 1) by decide +kernel) rfl rfl, ?_⟩
  refine List.forall_mem_cons.mpr ⟨ok_iconst C (show decode cX4_readDeath 14 = .ok (.iconst 3, 1) by decide +kernel) (by decide) rfl, ?_⟩
  refine List.forall_mem_cons.mpr ⟨ok_iload_n C (show decode cX4_readDeath 15 = .ok (.iload_n 2, 1) by decide +kernel) rfl rfl, ?_⟩
  refine List.forall_mem_cons.mpr ⟨ok_iconst C (show decode cX4_readDeath 16 = .ok (.iconst 0, 1) by decide +kernel) (by decide) rfl, ?_⟩
  refine List.forall_mem_cons.mpr ⟨ok_callV C h_X4_addLine ⟨rfl, rfl⟩ rfl kw_931 kw_928 kw_930 kp_33 kw_7 rfl ds_X4_addLine ⟨by decide, by decide⟩ (show decode cX4_readDeath 17 = .ok (.invokevirtual 81, 3) by decide +kernel) rfl, ?_⟩
  refine List.forall_mem_cons.mpr ⟨ok_goto C (show decode cX4_readDeath 20 = .ok (.goto 8, 3) by decide +kernel) (tg := 28) (by decide) rfl, ?_⟩
  refine List.forall_mem_cons.mpr ⟨ok_aload_n C (show decode cX4_readDeath 23 = .ok (.aload_n 1, 1) by decide +kernel) rfl rfl, ?_⟩
  refine List.forall_mem_cons.mpr ⟨ok_iconst C (show decode cX4_readDeath 24 = .ok (.iconst 1, 1) by decide +kernel) (by decide) rfl, ?_⟩
  refine List.forall_mem_cons.mpr ⟨ok_callV C h_X9_fail ⟨rfl, rfl⟩ rfl kw_520 kw_919 kw_518 kw_519 kw_3 rfl ds_X9_fail ⟨by decide, by decide⟩ (show decode cX4_readDeath 25 = .ok (.invokevirtual 41, 3) by decide +kernel) rfl, ?_⟩
  refine List.forall_mem_cons.mpr ⟨ok_zret C rfl (show decode cX4_readDeath 28 = .ok (.ireturn, 1) by decide +kernel), ?_⟩
  exact fun _ h => absurd h List.not_mem_nil
def L_X4_readLine (f_X9_fail : List Value → ab_H → Option ab_O) (f_X7_manNamed : List Value → ab_H → Option ab_O) (f_X4_readDeed : List Value → ab_H → Option ab_O) (f_X4_readDays : List Value → ab_H → Option ab_O) (f_X4_readDeath : List Value → ab_H → Option ab_O) : List (Nat × ab_A) := [
  (0, ab_nx 1 (ab_aload 1)),
  (1, ab_nx 4 (ab_getf 9 5)),
  (4, ab_nx 5 (ab_istore 3)),
  (5, ab_nx 6 (ab_iload 3)),
  (6, ab_nx 8 (ab_lit (.int 72))),
  (8, ab_icmp 11 21 (fun x y => decide (x < y))),
  (11, ab_nx 12 (ab_iload 3)),
  (12, ab_nx 14 (ab_lit (.int 74))),
  (14, ab_icmp 17 21 (fun x y => decide (y < x))),
  (17, ab_nx 18 (ab_lit (.int 1))),
  (18, ab_goto 22),
  (21, ab_nx 22 (ab_lit (.int 0))),
  (22, ab_nx 24 (ab_istore 4)),
  (24, ab_nx 26 (ab_iload 4)),
  (26, ab_if 29 46 (fun x => !decide (x = 0))),
  (29, ab_nx 30 (ab_iload 3)),
  (30, ab_nx 32 (ab_lit (.int 76))),
  (32, ab_icmp 35 46 (fun x y => decide (x = y))),
  (35, ab_nx 36 (ab_iload 3)),
  (36, ab_nx 37 (ab_lit (.int 2))),
  (37, ab_icmp 40 46 (fun x y => decide (x = y))),
  (40, ab_nx 41 (ab_aload 1)),
  (41, ab_nx 42 (ab_lit (.int 1))),
  (42, ab_nx 45 (ab_callV 2 9 f_X9_fail 0 0 0 0)),
  (45, ab_zret 0 0),
  (46, ab_nx 47 (ab_iload 3)),
  (47, ab_nx 48 (ab_lit (.int 2))),
  (48, ab_icmp 51 62 (fun x y => !decide (x = y))),
  (51, ab_nx 52 (ab_aload 2)),
  (52, ab_nx 53 (ab_aload 1)),
  (53, ab_nx 56 (ab_getf 9 8)),
  (56, ab_nx 59 (ab_callV 2 7 f_X7_manNamed 0 0 0 0)),
  (59, ab_goto 63),
  (62, ab_nx 63 (ab_lit (.int (-1)))),
  (63, ab_nx 65 (ab_istore 5)),
  (65, ab_nx 66 (ab_iload 3)),
  (66, ab_nx 67 (ab_lit (.int 2))),
  (67, ab_icmp 70 82 (fun x y => !decide (x = y))),
  (70, ab_nx 72 (ab_iload 5)),
  (72, ab_nx 73 (ab_lit (.int (-1)))),
  (73, ab_icmp 76 82 (fun x y => !decide (x = y))),
  (76, ab_nx 77 (ab_aload 1)),
  (77, ab_nx 78 (ab_lit (.int 3))),
  (78, ab_nx 81 (ab_callV 2 9 f_X9_fail 0 0 0 0)),
  (81, ab_zret 0 0),
  (82, ab_nx 83 (ab_aload 0)),
  (83, ab_nx 86 (ab_getf 4 3)),
  (86, ab_nx 88 (ab_lit (.int 40))),
  (88, ab_icmp 91 97 (fun x y => decide (x < y))),
  (91, ab_nx 92 (ab_aload 1)),
  (92, ab_nx 93 (ab_lit (.int 4))),
  (93, ab_nx 96 (ab_callV 2 9 f_X9_fail 0 0 0 0)),
  (96, ab_zret 0 0),
  (97, ab_nx 99 (ab_iload 4)),
  (99, ab_if 102 113 (fun x => decide (x = 0))),
  (102, ab_nx 103 (ab_aload 0)),
  (103, ab_nx 104 (ab_aload 1)),
  (104, ab_nx 105 (ab_aload 2)),
  (105, ab_nx 106 (ab_iload 3)),
  (106, ab_nx 108 (ab_lit (.int 72))),
  (108, ab_nx 109 (ab_bin (fun x y => x - y))),
  (109, ab_nx 112 (ab_callV 4 4 f_X4_readDeed 0 0 0 0)),
  (112, ab_zret 0 0),
  (113, ab_nx 114 (ab_iload 3)),
  (114, ab_nx 116 (ab_lit (.int 76))),
  (116, ab_icmp 119 127 (fun x y => !decide (x = y))),
  (119, ab_nx 120 (ab_aload 0)),
  (120, ab_nx 121 (ab_aload 1)),
  (121, ab_nx 124 (ab_callV 2 4 f_X4_readDays 0 0 0 0)),
  (124, ab_goto 134),
  (127, ab_nx 128 (ab_aload 0)),
  (128, ab_nx 129 (ab_aload 1)),
  (129, ab_nx 131 (ab_iload 5)),
  (131, ab_nx 134 (ab_callV 3 4 f_X4_readDeath 0 0 0 0)),
  (134, ab_zret 0 0)]
set_option maxRecDepth 100000 in
set_option maxHeartbeats 4000000 in
theorem M_X4_readLine {l : Launch} {b : ab_B} {D : va_G} {cA : Nat → ClassId} {f_X9_fail : List Value → ab_H → Option ab_O} (h_X9_fail : ab_M l b D ab_cl cA (ab_E0 b) yX9_fail (Cond.code yX9_fail cX9_fail 2 (some .boolean) :: ab_G) ({ frames := 1, cells := 0, slots := 0, locals := 100 } : Room) f_X9_fail) {f_X7_manNamed : List Value → ab_H → Option ab_O} (h_X7_manNamed : ab_M l b D ab_cl cA (ab_E0 b) yX7_manNamed (Cond.code yX7_manNamed cX7_manNamed 4 (some .int) :: ab_G) ({ frames := 1, cells := 0, slots := 0, locals := 100 } : Room) f_X7_manNamed) {f_X4_readDeed : List Value → ab_H → Option ab_O} (h_X4_readDeed : ab_M l b D ab_cl cA (ab_E0 b) yX4_readDeed (Cond.code yX4_readDeed cX4_readDeed 6 (some .boolean) :: ab_G) ({ frames := 4, cells := 0, slots := 0, locals := 400 } : Room) f_X4_readDeed) {f_X4_readDays : List Value → ab_H → Option ab_O} (h_X4_readDays : ab_M l b D ab_cl cA (ab_E0 b) yX4_readDays (Cond.code yX4_readDays cX4_readDays 2 (some .boolean) :: ab_G) ({ frames := 3, cells := 0, slots := 0, locals := 300 } : Room) f_X4_readDays) {f_X4_readDeath : List Value → ab_H → Option ab_O} (h_X4_readDeath : ab_M l b D ab_cl cA (ab_E0 b) yX4_readDeath (Cond.code yX4_readDeath cX4_readDeath 3 (some .boolean) :: ab_G) ({ frames := 2, cells := 0, slots := 0, locals := 200 } : Room) f_X4_readDeath) : ab_M l b D ab_cl cA (ab_E0 b) yX4_readLine (Cond.code yX4_readLine cX4_readLine 6 (some .boolean) :: ab_G) ({ frames := 5, cells := 0, slots := 0, locals := 500 } : Room) (ab_X (ab_T (L_X4_readLine f_X9_fail f_X7_manNamed f_X4_readDeed f_X4_readDays f_X4_readDeath)) 6) := by
  refine ab_meth (ret := (some .boolean)) (L_X4_readLine f_X9_fail f_X7_manNamed f_X4_readDeed f_X4_readDays f_X4_readDeath) (by decide) rfl fun p e R s m args below meth c o C => ?_
  unfold L_X4_readLine
  refine List.forall_mem_cons.mpr ⟨ok_aload_n C (show decode cX4_readLine 0 = .ok (.aload_n 1, 1) by decide +kernel) rfl rfl, ?_⟩
  refine List.forall_mem_cons.mpr ⟨ok_getf C (wi_X9) rfl (by decide) kw_61 (show decode cX4_readLine 1 = .ok (.getfield 30, 3) by decide +kernel) rfl, ?_⟩
  refine List.forall_mem_cons.mpr ⟨ok_istore_n C (show decode cX4_readLine 4 = .ok (.istore_n 3, 1) by decide +kernel) rfl (by decide) rfl, ?_⟩
  refine List.forall_mem_cons.mpr ⟨ok_iload_n C (show decode cX4_readLine 5 = .ok (.iload_n 3, 1) by decide +kernel) rfl rfl, ?_⟩
  refine List.forall_mem_cons.mpr ⟨ok_bipush C (show decode cX4_readLine 6 = .ok (.bipush 72, 2) by decide +kernel) (by decide) rfl, ?_⟩
  refine List.forall_mem_cons.mpr ⟨ok_icmplt C (show decode cX4_readLine 8 = .ok (.if_icmp .lt 13, 3) by decide +kernel) (tg := 21) (by decide) rfl rfl, ?_⟩
  refine List.forall_mem_cons.mpr ⟨ok_iload_n C (show decode cX4_readLine 11 = .ok (.iload_n 3, 1) by decide +kernel) rfl rfl, ?_⟩
  refine List.forall_mem_cons.mpr ⟨ok_bipush C (show decode cX4_readLine 12 = .ok (.bipush 74, 2) by decide +kernel) (by decide) rfl, ?_⟩
  refine List.forall_mem_cons.mpr ⟨ok_icmpgt C (show decode cX4_readLine 14 = .ok (.if_icmp .gt 7, 3) by decide +kernel) (tg := 21) (by decide) rfl rfl, ?_⟩
  refine List.forall_mem_cons.mpr ⟨ok_iconst C (show decode cX4_readLine 17 = .ok (.iconst 1, 1) by decide +kernel) (by decide) rfl, ?_⟩
  refine List.forall_mem_cons.mpr ⟨ok_goto C (show decode cX4_readLine 18 = .ok (.goto 4, 3) by decide +kernel) (tg := 22) (by decide) rfl, ?_⟩
  refine List.forall_mem_cons.mpr ⟨ok_iconst C (show decode cX4_readLine 21 = .ok (.iconst 0, 1) by decide +kernel) (by decide) rfl, ?_⟩
  refine List.forall_mem_cons.mpr ⟨ok_istore C (show decode cX4_readLine 22 = .ok (.istore 4, 2) by decide +kernel) (by decide) rfl, ?_⟩
  refine List.forall_mem_cons.mpr ⟨ok_iload C (show decode cX4_readLine 24 = .ok (.iload 4, 2) by decide +kernel) rfl, ?_⟩
  refine List.forall_mem_cons.mpr ⟨ok_ifne C (show decode cX4_readLine 26 = .ok (.ifCond .ne 20, 3) by decide +kernel) (tg := 46) (by decide) rfl rfl, ?_⟩
  refine List.forall_mem_cons.mpr ⟨ok_iload_n C (show decode cX4_readLine 29 = .ok (.iload_n 3, 1) by decide +kernel) rfl rfl, ?_⟩
  refine List.forall_mem_cons.mpr ⟨ok_bipush C (show decode cX4_readLine 30 = .ok (.bipush 76, 2) by decide +kernel) (by decide) rfl, ?_⟩
  refine List.forall_mem_cons.mpr ⟨ok_icmpeq C (show decode cX4_readLine 32 = .ok (.if_icmp .eq 14, 3) by decide +kernel) (tg := 46) (by decide) rfl rfl, ?_⟩
  refine List.forall_mem_cons.mpr ⟨ok_iload_n C (show decode cX4_readLine 35 = .ok (.iload_n 3, 1) by decide +kernel) rfl rfl, ?_⟩
  refine List.forall_mem_cons.mpr ⟨ok_iconst C (show decode cX4_readLine 36 = .ok (.iconst 2, 1) by decide +kernel) (by decide) rfl, ?_⟩
  refine List.forall_mem_cons.mpr ⟨ok_icmpeq C (show decode cX4_readLine 37 = .ok (.if_icmp .eq 9, 3) by decide +kernel) (tg := 46) (by decide) rfl rfl, ?_⟩
  refine List.forall_mem_cons.mpr ⟨ok_aload_n C (show decode cX4_readLine 40 = .ok (.aload_n 1, 1) by decide +kernel) rfl rfl, ?_⟩
  refine List.forall_mem_cons.mpr ⟨ok_iconst C (show decode cX4_readLine 41 = .ok (.iconst 1, 1) by decide +kernel) (by decide) rfl, ?_⟩
  refine List.forall_mem_cons.mpr ⟨ok_callV C h_X9_fail ⟨rfl, rfl⟩ rfl kw_520 kw_919 kw_518 kw_519 kw_3 rfl ds_X9_fail ⟨by decide, by decide⟩ (show decode cX4_readLine 42 = .ok (.invokevirtual 41, 3) by decide +kernel) rfl, ?_⟩
  refine List.forall_mem_cons.mpr ⟨ok_zret C rfl (show decode cX4_readLine 45 = .ok (.ireturn, 1) by decide +kernel), ?_⟩
  refine List.forall_mem_cons.mpr ⟨ok_iload_n C (show decode cX4_readLine 46 = .ok (.iload_n 3, 1) by decide +kernel) rfl rfl, ?_⟩
  refine List.forall_mem_cons.mpr ⟨ok_iconst C (show decode cX4_readLine 47 = .ok (.iconst 2, 1) by decide +kernel) (by decide) rfl, ?_⟩
  refine List.forall_mem_cons.mpr ⟨ok_icmpne C (show decode cX4_readLine 48 = .ok (.if_icmp .ne 14, 3) by decide +kernel) (tg := 62) (by decide) rfl rfl, ?_⟩
  refine List.forall_mem_cons.mpr ⟨ok_aload_n C (show decode cX4_readLine 51 = .ok (.aload_n 2, 1) by decide +kernel) rfl rfl, ?_⟩
  refine List.forall_mem_cons.mpr ⟨ok_aload_n C (show decode cX4_readLine 52 = .ok (.aload_n 1, 1) by decide +kernel) rfl rfl, ?_⟩
  refine List.forall_mem_cons.mpr ⟨ok_getf C (wi_X9) rfl (by decide) kw_71 (show decode cX4_readLine 53 = .ok (.getfield 44, 3) by decide +kernel) rfl, ?_⟩
  refine List.forall_mem_cons.mpr ⟨ok_callV C h_X7_manNamed ⟨rfl, rfl⟩ rfl kw_548 kw_920 kw_546 kw_547 kw_9 rfl ds_X7_manNamed ⟨by decide, by decide⟩ (show decode cX4_readLine 56 = .ok (.invokevirtual 48, 3) by decide +kernel) rfl, ?_⟩
  refine List.forall_mem_cons.mpr ⟨ok_goto C (show decode cX4_readLine 59 = .ok (.goto 4, 3) by decide +kernel) (tg := 63) (by decide) rfl, ?_⟩
  refine List.forall_mem_cons.mpr ⟨ok_iconst C (show decode cX4_readLine 62 = .ok (.iconst (-1), 1) by decide +kernel) (by decide) rfl, ?_⟩
  refine List.forall_mem_cons.mpr ⟨ok_istore C (show decode cX4_readLine 63 = .ok (.istore 5, 2) by decide +kernel) (by decide) rfl, ?_⟩
  refine List.forall_mem_cons.mpr ⟨ok_iload_n C (show decode cX4_readLine 65 = .ok (.iload_n 3, 1) by decide +kernel) rfl rfl, ?_⟩
  refine List.forall_mem_cons.mpr ⟨ok_iconst C (show decode cX4_readLine 66 = .ok (.iconst 2, 1) by decide +kernel) (by decide) rfl, ?_⟩
  refine List.forall_mem_cons.mpr ⟨ok_icmpne C (show decode cX4_readLine 67 = .ok (.if_icmp .ne 15, 3) by decide +kernel) (tg := 82) (by decide) rfl rfl, ?_⟩
  refine List.forall_mem_cons.mpr ⟨ok_iload C (show decode cX4_readLine 70 = .ok (.iload 5, 2) by decide +kernel) rfl, ?_⟩
  refine List.forall_mem_cons.mpr ⟨ok_iconst C (show decode cX4_readLine 72 = .ok (.iconst (-1), 1) by decide +kernel) (by decide) rfl, ?_⟩
  refine List.forall_mem_cons.mpr ⟨ok_icmpne C (show decode cX4_readLine 73 = .ok (.if_icmp .ne 9, 3) by decide +kernel) (tg := 82) (by decide) rfl rfl, ?_⟩
  refine List.forall_mem_cons.mpr ⟨ok_aload_n C (show decode cX4_readLine 76 = .ok (.aload_n 1, 1) by decide +kernel) rfl rfl, ?_⟩
  refine List.forall_mem_cons.mpr ⟨ok_iconst C (show decode cX4_readLine 77 = .ok (.iconst 3, 1) by decide +kernel) (by decide) rfl, ?_⟩
  refine List.forall_mem_cons.mpr ⟨ok_callV C h_X9_fail ⟨rfl, rfl⟩ rfl kw_520 kw_919 kw_518 kw_519 kw_3 rfl ds_X9_fail ⟨by decide, by decide⟩ (show decode cX4_readLine 78 = .ok (.invokevirtual 41, 3) by decide +kernel) rfl, ?_⟩
  refine List.forall_mem_cons.mpr ⟨ok_zret C rfl (show decode cX4_readLine 81 = .ok (.ireturn, 1) by decide +kernel), ?_⟩
  refine List.forall_mem_cons.mpr ⟨ok_aload_n C (show decode cX4_readLine 82 = .ok (.aload_n 0, 1) by decide +kernel) rfl rfl, ?_⟩
  refine List.forall_mem_cons.mpr ⟨ok_getf C (wi_X4) rfl (by decide) kw_204 (show decode cX4_readLine 83 = .ok (.getfield 21, 3) by decide +kernel) rfl, ?_⟩
  refine List.forall_mem_cons.mpr ⟨ok_bipush C (show decode cX4_readLine 86 = .ok (.bipush 40, 2) by decide +kernel) (by decide) rfl, ?_⟩
  refine List.forall_mem_cons.mpr ⟨ok_icmplt C (show decode cX4_readLine 88 = .ok (.if_icmp .lt 9, 3) by decide +kernel) (tg := 97) (by decide) rfl rfl, ?_⟩
  refine List.forall_mem_cons.mpr ⟨ok_aload_n C (show decode cX4_readLine 91 = .ok (.aload_n 1, 1) by decide +kernel) rfl rfl, ?_⟩
  refine List.forall_mem_cons.mpr ⟨ok_iconst C (show decode cX4_readLine 92 = .ok (.iconst 4, 1) by decide +kernel) (by decide) rfl, ?_⟩
  refine List.forall_mem_cons.mpr ⟨ok_callV C h_X9_fail ⟨rfl, rfl⟩ rfl kw_520 kw_919 kw_518 kw_519 kw_3 rfl ds_X9_fail ⟨by decide, by decide⟩ (show decode cX4_readLine 93 = .ok (.invokevirtual 41, 3) by decide +kernel) rfl, ?_⟩
  refine List.forall_mem_cons.mpr ⟨ok_zret C rfl (show decode cX4_readLine 96 = .ok (.ireturn, 1) by decide +kernel), ?_⟩
  refine List.forall_mem_cons.mpr ⟨ok_iload C (show decode cX4_readLine 97 = .ok (.iload 4, 2) by decide +kernel) rfl, ?_⟩
  refine List.forall_mem_cons.mpr ⟨ok_ifeq C (show decode cX4_readLine 99 = .ok (.ifCond .eq 14, 3) by decide +kernel) (tg := 113) (by decide) rfl rfl, ?_⟩
  refine List.forall_mem_cons.mpr ⟨ok_aload_n C (show decode cX4_readLine 102 = .ok (.aload_n 0, 1) by decide +kernel) rfl rfl, ?_⟩
  refine List.forall_mem_cons.mpr ⟨ok_aload_n C (show decode cX4_readLine 103 = .ok (.aload_n 1, 1) by decide +kernel) rfl rfl, ?_⟩
  refine List.forall_mem_cons.mpr ⟨ok_aload_n C (show decode cX4_readLine 104 = .ok (.aload_n 2, 1) by decide +kernel) rfl rfl, ?_⟩
  refine List.forall_mem_cons.mpr ⟨ok_iload_n C (show decode cX4_readLine 105 = .ok (.iload_n 3, 1) by decide +kernel) rfl rfl, ?_⟩
  refine List.forall_mem_cons.mpr ⟨ok_bipush C (show decode cX4_readLine 106 = .ok (.bipush 72, 2) by decide +kernel) (by decide) rfl, ?_⟩
  refine List.forall_mem_cons.mpr ⟨ok_isub C (show decode cX4_readLine 108 = .ok (.isub, 1) by decide +kernel) rfl, ?_⟩
  refine List.forall_mem_cons.mpr ⟨ok_callV C h_X4_readDeed ⟨rfl, rfl⟩ rfl kw_924 kw_921 kw_923 kp_32 kw_7 rfl ds_X4_readDeed ⟨by decide, by decide⟩ (show decode cX4_readLine 109 = .ok (.invokevirtual 54, 3) by decide +kernel) rfl, ?_⟩
  refine List.forall_mem_cons.mpr ⟨ok_zret C rfl (show decode cX4_readLine 112 = .ok (.ireturn, 1) by decide +kernel), ?_⟩
  refine List.forall_mem_cons.mpr ⟨ok_iload_n C (show decode cX4_readLine 113 = .ok (.iload_n 3, 1) by decide +kernel) rfl rfl, ?_⟩
  refine List.forall_mem_cons.mpr ⟨ok_bipush C (show decode cX4_readLine 114 = .ok (.bipush 76, 2) by decide +kernel) (by decide) rfl, ?_⟩
  refine List.forall_mem_cons.mpr ⟨ok_icmpne C (show decode cX4_readLine 116 = .ok (.if_icmp .ne 11, 3) by decide +kernel) (tg := 127) (by decide) rfl rfl, ?_⟩
  refine List.forall_mem_cons.mpr ⟨ok_aload_n C (show decode cX4_readLine 119 = .ok (.aload_n 0, 1) by decide +kernel) rfl rfl, ?_⟩
  refine List.forall_mem_cons.mpr ⟨ok_aload_n C (show decode cX4_readLine 120 = .ok (.aload_n 1, 1) by decide +kernel) rfl rfl, ?_⟩
  refine List.forall_mem_cons.mpr ⟨ok_callV C h_X4_readDays ⟨rfl, rfl⟩ rfl kw_935 kw_932 kw_934 kp_34 kw_7 rfl ds_X4_readDays ⟨by decide, by decide⟩ (show decode cX4_readLine 121 = .ok (.invokevirtual 58, 3) by decide +kernel) rfl, ?_⟩
  refine List.forall_mem_cons.mpr ⟨ok_goto C (show decode cX4_readLine 124 = .ok (.goto 10, 3) by decide +kernel) (tg := 134) (by decide) rfl, ?_⟩
  refine List.forall_mem_cons.mpr ⟨ok_aload_n C (show decode cX4_readLine 127 = .ok (.aload_n 0, 1) by decide +kernel) rfl rfl, ?_⟩
  refine List.forall_mem_cons.mpr ⟨ok_aload_n C (show decode cX4_readLine 128 = .ok (.aload_n 1, 1) by decide +kernel) rfl rfl, ?_⟩
  refine List.forall_mem_cons.mpr ⟨ok_iload C (show decode cX4_readLine 129 = .ok (.iload 5, 2) by decide +kernel) rfl, ?_⟩
  refine List.forall_mem_cons.mpr ⟨ok_callV C h_X4_readDeath ⟨rfl, rfl⟩ rfl kw_939 kw_936 kw_938 kp_35 kw_7 rfl ds_X4_readDeath ⟨by decide, by decide⟩ (show decode cX4_readLine 131 = .ok (.invokevirtual 62, 3) by decide +kernel) rfl, ?_⟩
  refine List.forall_mem_cons.mpr ⟨ok_zret C rfl (show decode cX4_readLine 134 = .ok (.ireturn, 1) by decide +kernel), ?_⟩
  exact fun _ h => absurd h List.not_mem_nil
def L_X9_takeSign (f_X9_step : List Value → ab_H → Option ab_O) (f_X9_fail : List Value → ab_H → Option ab_O) : List (Nat × ab_A) := [
  (0, ab_nx 1 (ab_aload 0)),
  (1, ab_nx 4 (ab_callV 1 9 f_X9_step 0 0 0 0)),
  (4, ab_nx 5 (ab_aload 0)),
  (5, ab_nx 8 (ab_getf 9 5)),
  (8, ab_nx 9 (ab_iload 1)),
  (9, ab_icmp 12 20 (fun x y => decide (x = y))),
  (12, ab_nx 13 (ab_aload 0)),
  (13, ab_nx 14 (ab_lit (.int 1))),
  (14, ab_nx 17 (ab_callV 2 9 f_X9_fail 0 0 0 0)),
  (17, ab_if 20 24 (fun x => decide (x = 0))),
  (20, ab_nx 21 (ab_lit (.int 1))),
  (21, ab_goto 25),
  (24, ab_nx 25 (ab_lit (.int 0))),
  (25, ab_zret 0 0)]
set_option maxRecDepth 100000 in
set_option maxHeartbeats 4000000 in
theorem M_X9_takeSign {l : Launch} {b : ab_B} {D : va_G} {cA : Nat → ClassId} {f_X9_step : List Value → ab_H → Option ab_O} (h_X9_step : ab_M l b D ab_cl cA (ab_E0 b) yX9_step (Cond.code yX9_step cX9_step 1 none :: ab_G) ({ frames := 1, cells := 0, slots := 0, locals := 100 } : Room) f_X9_step) {f_X9_fail : List Value → ab_H → Option ab_O} (h_X9_fail : ab_M l b D ab_cl cA (ab_E0 b) yX9_fail (Cond.code yX9_fail cX9_fail 2 (some .boolean) :: ab_G) ({ frames := 1, cells := 0, slots := 0, locals := 100 } : Room) f_X9_fail) : ab_M l b D ab_cl cA (ab_E0 b) yX9_takeSign (Cond.code yX9_takeSign cX9_takeSign 2 (some .boolean) :: ab_G) ({ frames := 2, cells := 0, slots := 0, locals := 200 } : Room) (ab_X (ab_T (L_X9_takeSign f_X9_step f_X9_fail)) 2) := by
  refine ab_meth (ret := (some .boolean)) (L_X9_takeSign f_X9_step f_X9_fail) (by decide) rfl fun p e R s m args below meth c o C => ?_
  unfold L_X9_takeSign
  refine List.forall_mem_cons.mpr ⟨ok_aload_n C (show decode cX9_takeSign 0 = .ok (.aload_n 0, 1) by decide +kernel) rfl rfl, ?_⟩
  refine List.forall_mem_cons.mpr ⟨ok_callV C h_X9_step ⟨rfl, rfl⟩ rfl kw_499 kw_516 kw_497 kw_498 kw_3 rfl ds_X9_step ⟨by decide, by decide⟩ (show decode cX9_takeSign 1 = .ok (.invokevirtual 45, 3) by decide +kernel) rfl, ?_⟩
  refine List.forall_mem_cons.mpr ⟨ok_aload_n C (show decode cX9_takeSign 4 = .ok (.aload_n 0, 1) by decide +kernel) rfl rfl, ?_⟩
  refine List.forall_mem_cons.mpr ⟨ok_getf C (wi_X9) rfl (by decide) kw_63 (show decode cX9_takeSign 5 = .ok (.getfield 32, 3) by decide +kernel) rfl, ?_⟩
  refine List.forall_mem_cons.mpr ⟨ok_iload_n C (show decode cX9_takeSign 8 = .ok (.iload_n 1, 1) by decide +kernel) rfl rfl, ?_⟩
  refine List.forall_mem_cons.mpr ⟨ok_icmpeq C (show decode cX9_takeSign 9 = .ok (.if_icmp .eq 11, 3) by decide +kernel) (tg := 20) (by decide) rfl rfl, ?_⟩
  refine List.forall_mem_cons.mpr ⟨ok_aload_n C (show decode cX9_takeSign 12 = .ok (.aload_n 0, 1) by decide +kernel) rfl rfl, ?_⟩
  refine List.forall_mem_cons.mpr ⟨ok_iconst C (show decode cX9_takeSign 13 = .ok (.iconst 1, 1) by decide +kernel) (by decide) rfl, ?_⟩
  refine List.forall_mem_cons.mpr ⟨ok_callV C h_X9_fail ⟨rfl, rfl⟩ rfl kw_520 kw_517 kw_518 kw_519 kw_3 rfl ds_X9_fail ⟨by decide, by decide⟩ (show decode cX9_takeSign 14 = .ok (.invokevirtual 48, 3) by decide +kernel) rfl, ?_⟩
  refine List.forall_mem_cons.mpr ⟨ok_ifeq C (show decode cX9_takeSign 17 = .ok (.ifCond .eq 7, 3) by decide +kernel) (tg := 24) (by decide) rfl rfl, ?_⟩
  refine List.forall_mem_cons.mpr ⟨ok_iconst C (show decode cX9_takeSign 20 = .ok (.iconst 1, 1) by decide +kernel) (by decide) rfl, ?_⟩
  refine List.forall_mem_cons.mpr ⟨ok_goto C (show decode cX9_takeSign 21 = .ok (.goto 4, 3) by decide +kernel) (tg := 25) (by decide) rfl, ?_⟩
  refine List.forall_mem_cons.mpr ⟨ok_iconst C (show decode cX9_takeSign 24 = .ok (.iconst 0, 1) by decide +kernel) (by decide) rfl, ?_⟩
  refine List.forall_mem_cons.mpr ⟨ok_zret C rfl (show decode cX9_takeSign 25 = .ok (.ireturn, 1) by decide +kernel), ?_⟩
  exact fun _ h => absurd h List.not_mem_nil
def L_X4_readText (f_X9_step : List Value → ab_H → Option ab_O) (f_X4_readLine : List Value → ab_H → Option ab_O) (f_X9_takeSign : List Value → ab_H → Option ab_O) : List (Nat × ab_A) := [
  (0, ab_nx 1 (ab_aload 0)),
  (1, ab_nx 2 (ab_lit (.int 0))),
  (2, ab_nx 5 (ab_putf 4 3 0)),
  (5, ab_nx 6 (ab_lit (.int 1))),
  (6, ab_nx 7 (ab_istore 3)),
  (7, ab_nx 8 (ab_lit (.int 0))),
  (8, ab_nx 10 (ab_istore 4)),
  (10, ab_nx 12 (ab_iload 4)),
  (12, ab_nx 14 (ab_lit (.int 40))),
  (14, ab_icmp 17 62 (fun x y => decide (y < x))),
  (17, ab_nx 18 (ab_iload 3)),
  (18, ab_if 21 62 (fun x => decide (x = 0))),
  (21, ab_nx 22 (ab_aload 1)),
  (22, ab_nx 25 (ab_callV 1 9 f_X9_step 0 0 0 0)),
  (25, ab_nx 26 (ab_aload 1)),
  (26, ab_nx 29 (ab_getf 9 5)),
  (29, ab_if 32 54 (fun x => decide (x = 0))),
  (32, ab_nx 33 (ab_aload 0)),
  (33, ab_nx 34 (ab_aload 1)),
  (34, ab_nx 35 (ab_aload 2)),
  (35, ab_nx 38 (ab_callV 3 4 f_X4_readLine 0 0 0 0)),
  (38, ab_if 41 54 (fun x => decide (x = 0))),
  (41, ab_nx 42 (ab_aload 1)),
  (42, ab_nx 44 (ab_lit (.int 59))),
  (44, ab_nx 47 (ab_callV 2 9 f_X9_takeSign 0 0 0 0)),
  (47, ab_if 50 54 (fun x => decide (x = 0))),
  (50, ab_nx 51 (ab_lit (.int 1))),
  (51, ab_goto 55),
  (54, ab_nx 55 (ab_lit (.int 0))),
  (55, ab_nx 56 (ab_istore 3)),
  (56, ab_nx 59 (ab_iinc 4 1)),
  (59, ab_goto 10),
  (62, ab_vret 0 0)]
set_option maxRecDepth 100000 in
set_option maxHeartbeats 4000000 in
theorem M_X4_readText {l : Launch} {b : ab_B} {D : va_G} {cA : Nat → ClassId} {f_X9_step : List Value → ab_H → Option ab_O} (h_X9_step : ab_M l b D ab_cl cA (ab_E0 b) yX9_step (Cond.code yX9_step cX9_step 1 none :: ab_G) ({ frames := 1, cells := 0, slots := 0, locals := 100 } : Room) f_X9_step) {f_X4_readLine : List Value → ab_H → Option ab_O} (h_X4_readLine : ab_M l b D ab_cl cA (ab_E0 b) yX4_readLine (Cond.code yX4_readLine cX4_readLine 6 (some .boolean) :: ab_G) ({ frames := 5, cells := 0, slots := 0, locals := 500 } : Room) f_X4_readLine) {f_X9_takeSign : List Value → ab_H → Option ab_O} (h_X9_takeSign : ab_M l b D ab_cl cA (ab_E0 b) yX9_takeSign (Cond.code yX9_takeSign cX9_takeSign 2 (some .boolean) :: ab_G) ({ frames := 2, cells := 0, slots := 0, locals := 200 } : Room) f_X9_takeSign) : ab_M l b D ab_cl cA (ab_E0 b) yX4_readText (Cond.code yX4_readText cX4_readText 5 none :: ab_G) ({ frames := 6, cells := 0, slots := 0, locals := 600 } : Room) (ab_X (ab_T (L_X4_readText f_X9_step f_X4_readLine f_X9_takeSign)) 5) := by
  refine ab_meth (ret := none) (L_X4_readText f_X9_step f_X4_readLine f_X9_takeSign) (by decide) rfl fun p e R s m args below meth c o C => ?_
  unfold L_X4_readText
  refine List.forall_mem_cons.mpr ⟨ok_aload_n C (show decode cX4_readText 0 = .ok (.aload_n 0, 1) by decide +kernel) rfl rfl, ?_⟩
  refine List.forall_mem_cons.mpr ⟨ok_iconst C (show decode cX4_readText 1 = .ok (.iconst 0, 1) by decide +kernel) (by decide) rfl, ?_⟩
  refine List.forall_mem_cons.mpr ⟨ok_putf C (wi_X4) tyX4 tyX4_ok nmX4 rfl (by decide) kw_204 (Or.inl rfl) (Or.inl ⟨rfl, rfl⟩) (show decode cX4_readText 2 = .ok (.putfield 21, 3) by decide +kernel) rfl, ?_⟩
  refine List.forall_mem_cons.mpr ⟨ok_iconst C (show decode cX4_readText 5 = .ok (.iconst 1, 1) by decide +kernel) (by decide) rfl, ?_⟩
  refine List.forall_mem_cons.mpr ⟨ok_istore_n C (show decode cX4_readText 6 = .ok (.istore_n 3, 1) by decide +kernel) rfl (by decide) rfl, ?_⟩
  refine List.forall_mem_cons.mpr ⟨ok_iconst C (show decode cX4_readText 7 = .ok (.iconst 0, 1) by decide +kernel) (by decide) rfl, ?_⟩
  refine List.forall_mem_cons.mpr ⟨ok_istore C (show decode cX4_readText 8 = .ok (.istore 4, 2) by decide +kernel) (by decide) rfl, ?_⟩
  refine List.forall_mem_cons.mpr ⟨ok_iload C (show decode cX4_readText 10 = .ok (.iload 4, 2) by decide +kernel) rfl, ?_⟩
  refine List.forall_mem_cons.mpr ⟨ok_bipush C (show decode cX4_readText 12 = .ok (.bipush 40, 2) by decide +kernel) (by decide) rfl, ?_⟩
  refine List.forall_mem_cons.mpr ⟨ok_icmpgt C (show decode cX4_readText 14 = .ok (.if_icmp .gt 48, 3) by decide +kernel) (tg := 62) (by decide) rfl rfl, ?_⟩
  refine List.forall_mem_cons.mpr ⟨ok_iload_n C (show decode cX4_readText 17 = .ok (.iload_n 3, 1) by decide +kernel) rfl rfl, ?_⟩
  refine List.forall_mem_cons.mpr ⟨ok_ifeq C (show decode cX4_readText 18 = .ok (.ifCond .eq 44, 3) by decide +kernel) (tg := 62) (by decide) rfl rfl, ?_⟩
  refine List.forall_mem_cons.mpr ⟨ok_aload_n C (show decode cX4_readText 21 = .ok (.aload_n 1, 1) by decide +kernel) rfl rfl, ?_⟩
  refine List.forall_mem_cons.mpr ⟨ok_callV C h_X9_step ⟨rfl, rfl⟩ rfl kw_499 kw_914 kw_497 kw_498 kw_3 rfl ds_X9_step ⟨by decide, by decide⟩ (show decode cX4_readText 22 = .ok (.invokevirtual 25, 3) by decide +kernel) rfl, ?_⟩
  refine List.forall_mem_cons.mpr ⟨ok_aload_n C (show decode cX4_readText 25 = .ok (.aload_n 1, 1) by decide +kernel) rfl rfl, ?_⟩
  refine List.forall_mem_cons.mpr ⟨ok_getf C (wi_X9) rfl (by decide) kw_61 (show decode cX4_readText 26 = .ok (.getfield 30, 3) by decide +kernel) rfl, ?_⟩
  refine List.forall_mem_cons.mpr ⟨ok_ifeq C (show decode cX4_readText 29 = .ok (.ifCond .eq 25, 3) by decide +kernel) (tg := 54) (by decide) rfl rfl, ?_⟩
  refine List.forall_mem_cons.mpr ⟨ok_aload_n C (show decode cX4_readText 32 = .ok (.aload_n 0, 1) by decide +kernel) rfl rfl, ?_⟩
  refine List.forall_mem_cons.mpr ⟨ok_aload_n C (show decode cX4_readText 33 = .ok (.aload_n 1, 1) by decide +kernel) rfl rfl, ?_⟩
  refine List.forall_mem_cons.mpr ⟨ok_aload_n C (show decode cX4_readText 34 = .ok (.aload_n 2, 1) by decide +kernel) rfl rfl, ?_⟩
  refine List.forall_mem_cons.mpr ⟨ok_callV C h_X4_readLine ⟨rfl, rfl⟩ rfl kw_918 kw_915 kw_917 kp_31 kw_7 rfl ds_X4_readLine ⟨by decide, by decide⟩ (show decode cX4_readText 35 = .ok (.invokevirtual 33, 3) by decide +kernel) rfl, ?_⟩
  refine List.forall_mem_cons.mpr ⟨ok_ifeq C (show decode cX4_readText 38 = .ok (.ifCond .eq 16, 3) by decide +kernel) (tg := 54) (by decide) rfl rfl, ?_⟩
  refine List.forall_mem_cons.mpr ⟨ok_aload_n C (show decode cX4_readText 41 = .ok (.aload_n 1, 1) by decide +kernel) rfl rfl, ?_⟩
  refine List.forall_mem_cons.mpr ⟨ok_bipush C (show decode cX4_readText 42 = .ok (.bipush 59, 2) by decide +kernel) (by decide) rfl, ?_⟩
  refine List.forall_mem_cons.mpr ⟨ok_callV C h_X9_takeSign ⟨rfl, rfl⟩ rfl kw_568 kw_940 kw_566 kw_567 kw_3 rfl ds_X9_takeSign ⟨by decide, by decide⟩ (show decode cX4_readText 44 = .ok (.invokevirtual 37, 3) by decide +kernel) rfl, ?_⟩
  refine List.forall_mem_cons.mpr ⟨ok_ifeq C (show decode cX4_readText 47 = .ok (.ifCond .eq 7, 3) by decide +kernel) (tg := 54) (by decide) rfl rfl, ?_⟩
  refine List.forall_mem_cons.mpr ⟨ok_iconst C (show decode cX4_readText 50 = .ok (.iconst 1, 1) by decide +kernel) (by decide) rfl, ?_⟩
  refine List.forall_mem_cons.mpr ⟨ok_goto C (show decode cX4_readText 51 = .ok (.goto 4, 3) by decide +kernel) (tg := 55) (by decide) rfl, ?_⟩
  refine List.forall_mem_cons.mpr ⟨ok_iconst C (show decode cX4_readText 54 = .ok (.iconst 0, 1) by decide +kernel) (by decide) rfl, ?_⟩
  refine List.forall_mem_cons.mpr ⟨ok_istore_n C (show decode cX4_readText 55 = .ok (.istore_n 3, 1) by decide +kernel) rfl (by decide) rfl, ?_⟩
  refine List.forall_mem_cons.mpr ⟨ok_iinc C (show decode cX4_readText 56 = .ok (.iinc 4 1, 3) by decide +kernel) (by decide) (by decide) rfl, ?_⟩
  refine List.forall_mem_cons.mpr ⟨ok_goto C (show decode cX4_readText 59 = .ok (.goto (-49), 3) by decide +kernel) (tg := 10) (by decide) rfl, ?_⟩
  refine List.forall_mem_cons.mpr ⟨ok_vret C rfl (show decode cX4_readText 62 = .ok (.return_, 1) by decide +kernel), ?_⟩
  exact fun _ h => absurd h List.not_mem_nil
def L_X5_copyFrom : List (Nat × ab_A) := [
  (0, ab_nx 1 (ab_aload 1)),
  (1, ab_nx 4 (ab_getf 5 0)),
  (4, ab_nx 5 (ab_lit (.int 0))),
  (5, ab_nx 6 (ab_aload 0)),
  (6, ab_nx 9 (ab_getf 5 0)),
  (9, ab_nx 10 (ab_lit (.int 0))),
  (10, ab_nx 12 (ab_lit (.int 40))),
  (12, ab_nx 15 ab_copy),
  (15, ab_nx 16 (ab_aload 1)),
  (16, ab_nx 19 (ab_getf 5 1)),
  (19, ab_nx 20 (ab_lit (.int 0))),
  (20, ab_nx 21 (ab_aload 0)),
  (21, ab_nx 24 (ab_getf 5 1)),
  (24, ab_nx 25 (ab_lit (.int 0))),
  (25, ab_nx 27 (ab_lit (.int 40))),
  (27, ab_nx 30 ab_copy),
  (30, ab_nx 31 (ab_aload 1)),
  (31, ab_nx 34 (ab_getf 5 2)),
  (34, ab_nx 35 (ab_lit (.int 0))),
  (35, ab_nx 36 (ab_aload 0)),
  (36, ab_nx 39 (ab_getf 5 2)),
  (39, ab_nx 40 (ab_lit (.int 0))),
  (40, ab_nx 42 (ab_lit (.int 40))),
  (42, ab_nx 45 ab_copy),
  (45, ab_nx 46 (ab_aload 0)),
  (46, ab_nx 47 (ab_aload 1)),
  (47, ab_nx 50 (ab_getf 5 3)),
  (50, ab_nx 53 (ab_putf 5 3 0)),
  (53, ab_nx 54 (ab_aload 0)),
  (54, ab_nx 55 (ab_aload 1)),
  (55, ab_nx 58 (ab_getf 5 4)),
  (58, ab_nx 61 (ab_putf 5 4 0)),
  (61, ab_nx 62 (ab_aload 0)),
  (62, ab_nx 63 (ab_aload 1)),
  (63, ab_nx 66 (ab_getf 5 5)),
  (66, ab_nx 69 (ab_putf 5 5 3)),
  (69, ab_vret 0 0)]
set_option maxRecDepth 100000 in
set_option maxHeartbeats 4000000 in
theorem M_X5_copyFrom {l : Launch} {b : ab_B} {D : va_G} {cA : Nat → ClassId} : ab_M l b D ab_cl cA (ab_E0 b) yX5_copyFrom (Cond.code yX5_copyFrom cX5_copyFrom 2 none :: ab_G) ({ frames := 2, cells := 0, slots := 0, locals := 200 } : Room) (ab_X (ab_T L_X5_copyFrom) 2) := by
  refine ab_meth (ret := none) L_X5_copyFrom (by decide) rfl fun p e R s m args below meth c o C => ?_
  unfold L_X5_copyFrom
  refine List.forall_mem_cons.mpr ⟨ok_aload_n C (show decode cX5_copyFrom 0 = .ok (.aload_n 1, 1) by decide +kernel) rfl rfl, ?_⟩
  refine List.forall_mem_cons.mpr ⟨ok_getf C (wi_X5) rfl (by decide) kw_294 (show decode cX5_copyFrom 1 = .ok (.getfield 11, 3) by decide +kernel) rfl, ?_⟩
  refine List.forall_mem_cons.mpr ⟨ok_iconst C (show decode cX5_copyFrom 4 = .ok (.iconst 0, 1) by decide +kernel) (by decide) rfl, ?_⟩
  refine List.forall_mem_cons.mpr ⟨ok_aload_n C (show decode cX5_copyFrom 5 = .ok (.aload_n 0, 1) by decide +kernel) rfl rfl, ?_⟩
  refine List.forall_mem_cons.mpr ⟨ok_getf C (wi_X5) rfl (by decide) kw_294 (show decode cX5_copyFrom 6 = .ok (.getfield 11, 3) by decide +kernel) rfl, ?_⟩
  refine List.forall_mem_cons.mpr ⟨ok_iconst C (show decode cX5_copyFrom 9 = .ok (.iconst 0, 1) by decide +kernel) (by decide) rfl, ?_⟩
  refine List.forall_mem_cons.mpr ⟨ok_bipush C (show decode cX5_copyFrom 10 = .ok (.bipush 40, 2) by decide +kernel) (by decide) rfl, ?_⟩
  refine List.forall_mem_cons.mpr ⟨ok_copy C kw_1054 kw_727 kw_726 kw_21 ⟨by decide, by decide +kernel⟩ (show decode cX5_copyFrom 12 = .ok (.invokestatic 21, 3) by decide +kernel) rfl, ?_⟩
  refine List.forall_mem_cons.mpr ⟨ok_aload_n C (show decode cX5_copyFrom 15 = .ok (.aload_n 1, 1) by decide +kernel) rfl rfl, ?_⟩
  refine List.forall_mem_cons.mpr ⟨ok_getf C (wi_X5) rfl (by decide) kw_295 (show decode cX5_copyFrom 16 = .ok (.getfield 15, 3) by decide +kernel) rfl, ?_⟩
  refine List.forall_mem_cons.mpr ⟨ok_iconst C (show decode cX5_copyFrom 19 = .ok (.iconst 0, 1) by decide +kernel) (by decide) rfl, ?_⟩
  refine List.forall_mem_cons.mpr ⟨ok_aload_n C (show decode cX5_copyFrom 20 = .ok (.aload_n 0, 1) by decide +kernel) rfl rfl, ?_⟩
  refine List.forall_mem_cons.mpr ⟨ok_getf C (wi_X5) rfl (by decide) kw_295 (show decode cX5_copyFrom 21 = .ok (.getfield 15, 3) by decide +kernel) rfl, ?_⟩
  refine List.forall_mem_cons.mpr ⟨ok_iconst C (show decode cX5_copyFrom 24 = .ok (.iconst 0, 1) by decide +kernel) (by decide) rfl, ?_⟩
  refine List.forall_mem_cons.mpr ⟨ok_bipush C (show decode cX5_copyFrom 25 = .ok (.bipush 40, 2) by decide +kernel) (by decide) rfl, ?_⟩
  refine List.forall_mem_cons.mpr ⟨ok_copy C kw_1054 kw_727 kw_726 kw_21 ⟨by decide, by decide +kernel⟩ (show decode cX5_copyFrom 27 = .ok (.invokestatic 21, 3) by decide +kernel) rfl, ?_⟩
  refine List.forall_mem_cons.mpr ⟨ok_aload_n C (show decode cX5_copyFrom 30 = .ok (.aload_n 1, 1) by decide +kernel) rfl rfl, ?_⟩
  refine List.forall_mem_cons.mpr ⟨ok_getf C (wi_X5) rfl (by decide) kw_296 (show decode cX5_copyFrom 31 = .ok (.getfield 18, 3) by decide +kernel) rfl, ?_⟩
  refine List.forall_mem_cons.mpr ⟨ok_iconst C (show decode cX5_copyFrom 34 = .ok (.iconst 0, 1) by decide +kernel) (by decide) rfl, ?_⟩
  refine List.forall_mem_cons.mpr ⟨ok_aload_n C (show decode cX5_copyFrom 35 = .ok (.aload_n 0, 1) by decide +kernel) rfl rfl, ?_⟩
  refine List.forall_mem_cons.mpr ⟨ok_getf C (wi_X5) rfl (by decide) kw_296 (show decode cX5_copyFrom 36 = .ok (.getfield 18, 3) by decide +kernel) rfl, ?_⟩
  refine List.forall_mem_cons.mpr ⟨ok_iconst C (show decode cX5_copyFrom 39 = .ok (.iconst 0, 1) by decide +kernel) (by decide) rfl, ?_⟩
  refine List.forall_mem_cons.mpr ⟨ok_bipush C (show decode cX5_copyFrom 40 = .ok (.bipush 40, 2) by decide +kernel) (by decide) rfl, ?_⟩
  refine List.forall_mem_cons.mpr ⟨ok_copy C kw_1054 kw_727 kw_726 kw_21 ⟨by decide, by decide +kernel⟩ (show decode cX5_copyFrom 42 = .ok (.invokestatic 21, 3) by decide +kernel) rfl, ?_⟩
  refine List.forall_mem_cons.mpr ⟨ok_aload_n C (show decode cX5_copyFrom 45 = .ok (.aload_n 0, 1) by decide +kernel) rfl rfl, ?_⟩
  refine List.forall_mem_cons.mpr ⟨ok_aload_n C (show decode cX5_copyFrom 46 = .ok (.aload_n 1, 1) by decide +kernel) rfl rfl, ?_⟩
  refine List.forall_mem_cons.mpr ⟨ok_getf C (wi_X5) rfl (by decide) kw_297 (show decode cX5_copyFrom 47 = .ok (.getfield 27, 3) by decide +kernel) rfl, ?_⟩
  refine List.forall_mem_cons.mpr ⟨ok_putf C (wi_X5) tyX5 tyX5_ok nmX5 rfl (by decide) kw_297 (Or.inl rfl) (Or.inl ⟨rfl, rfl⟩) (show decode cX5_copyFrom 50 = .ok (.putfield 27, 3) by decide +kernel) rfl, ?_⟩
  refine List.forall_mem_cons.mpr ⟨ok_aload_n C (show decode cX5_copyFrom 53 = .ok (.aload_n 0, 1) by decide +kernel) rfl rfl, ?_⟩
  refine List.forall_mem_cons.mpr ⟨ok_aload_n C (show decode cX5_copyFrom 54 = .ok (.aload_n 1, 1) by decide +kernel) rfl rfl, ?_⟩
  refine List.forall_mem_cons.mpr ⟨ok_getf C (wi_X5) rfl (by decide) kw_298 (show decode cX5_copyFrom 55 = .ok (.getfield 31, 3) by decide +kernel) rfl, ?_⟩
  refine List.forall_mem_cons.mpr ⟨ok_putf C (wi_X5) tyX5 tyX5_ok nmX5 rfl (by decide) kw_298 (Or.inl rfl) (Or.inl ⟨rfl, rfl⟩) (show decode cX5_copyFrom 58 = .ok (.putfield 31, 3) by decide +kernel) rfl, ?_⟩
  refine List.forall_mem_cons.mpr ⟨ok_aload_n C (show decode cX5_copyFrom 61 = .ok (.aload_n 0, 1) by decide +kernel) rfl rfl, ?_⟩
  refine List.forall_mem_cons.mpr ⟨ok_aload_n C (show decode cX5_copyFrom 62 = .ok (.aload_n 1, 1) by decide +kernel) rfl rfl, ?_⟩
  refine List.forall_mem_cons.mpr ⟨ok_getf C (wi_X5) rfl (by decide) kw_300 (show decode cX5_copyFrom 63 = .ok (.getfield 34, 3) by decide +kernel) rfl, ?_⟩
  refine List.forall_mem_cons.mpr ⟨ok_putf C (wi_X5) tyX5 tyX5_ok nmX5 rfl (by decide) kw_300 (Or.inl rfl) (Or.inr (Or.inr (Or.inr ⟨rfl, rfl⟩))) (show decode cX5_copyFrom 66 = .ok (.putfield 34, 3) by decide +kernel) rfl, ?_⟩
  refine List.forall_mem_cons.mpr ⟨ok_vret C rfl (show decode cX5_copyFrom 69 = .ok (.return_, 1) by decide +kernel), ?_⟩
  exact fun _ h => absurd h List.not_mem_nil
def L_X5_addOp : List (Nat × ab_A) := [
  (0, ab_nx 1 (ab_aload 0)),
  (1, ab_nx 4 (ab_getf 5 3)),
  (4, ab_nx 6 (ab_lit (.int 40))),
  (6, ab_icmp 9 11 (fun x y => decide (x < y))),
  (9, ab_nx 10 (ab_lit (.int 0))),
  (10, ab_zret 0 0),
  (11, ab_nx 12 (ab_aload 0)),
  (12, ab_nx 15 (ab_getf 5 0)),
  (15, ab_nx 16 (ab_aload 0)),
  (16, ab_nx 19 (ab_getf 5 3)),
  (19, ab_nx 20 (ab_iload 1)),
  (20, ab_nx 21 (ab_ast 1)),
  (21, ab_nx 22 (ab_aload 0)),
  (22, ab_nx 25 (ab_getf 5 1)),
  (25, ab_nx 26 (ab_aload 0)),
  (26, ab_nx 29 (ab_getf 5 3)),
  (29, ab_nx 30 (ab_iload 2)),
  (30, ab_nx 31 (ab_ast 1)),
  (31, ab_nx 32 (ab_aload 0)),
  (32, ab_nx 35 (ab_getf 5 2)),
  (35, ab_nx 36 (ab_aload 0)),
  (36, ab_nx 39 (ab_getf 5 3)),
  (39, ab_nx 40 (ab_iload 3)),
  (40, ab_nx 41 (ab_ast 1)),
  (41, ab_nx 42 (ab_aload 0)),
  (42, ab_nx 43 ab_dup),
  (43, ab_nx 46 (ab_getf 5 3)),
  (46, ab_nx 47 (ab_lit (.int 1))),
  (47, ab_nx 48 (ab_bin (fun x y => x + y))),
  (48, ab_nx 51 (ab_putf 5 3 0)),
  (51, ab_nx 52 (ab_lit (.int 1))),
  (52, ab_zret 0 0)]
set_option maxRecDepth 100000 in
set_option maxHeartbeats 4000000 in
theorem M_X5_addOp {l : Launch} {b : ab_B} {D : va_G} {cA : Nat → ClassId} : ab_M l b D ab_cl cA (ab_E0 b) yX5_addOp (Cond.code yX5_addOp cX5_addOp 4 (some .boolean) :: ab_G) ({ frames := 1, cells := 0, slots := 0, locals := 100 } : Room) (ab_X (ab_T L_X5_addOp) 4) := by
  refine ab_meth (ret := (some .boolean)) L_X5_addOp (by decide) rfl fun p e R s m args below meth c o C => ?_
  unfold L_X5_addOp
  refine List.forall_mem_cons.mpr ⟨ok_aload_n C (show decode cX5_addOp 0 = .ok (.aload_n 0, 1) by decide +kernel) rfl rfl, ?_⟩
  refine List.forall_mem_cons.mpr ⟨ok_getf C (wi_X5) rfl (by decide) kw_297 (show decode cX5_addOp 1 = .ok (.getfield 27, 3) by decide +kernel) rfl, ?_⟩
  refine List.forall_mem_cons.mpr ⟨ok_bipush C (show decode cX5_addOp 4 = .ok (.bipush 40, 2) by decide +kernel) (by decide) rfl, ?_⟩
  refine List.forall_mem_cons.mpr ⟨ok_icmplt C (show decode cX5_addOp 6 = .ok (.if_icmp .lt 5, 3) by decide +kernel) (tg := 11) (by decide) rfl rfl, ?_⟩
  refine List.forall_mem_cons.mpr ⟨ok_iconst C (show decode cX5_addOp 9 = .ok (.iconst 0, 1) by decide +kernel) (by decide) rfl, ?_⟩
  refine List.forall_mem_cons.mpr ⟨ok_zret C rfl (show decode cX5_addOp 10 = .ok (.ireturn, 1) by decide +kernel), ?_⟩
  refine List.forall_mem_cons.mpr ⟨ok_aload_n C (show decode cX5_addOp 11 = .ok (.aload_n 0, 1) by decide +kernel) rfl rfl, ?_⟩
  refine List.forall_mem_cons.mpr ⟨ok_getf C (wi_X5) rfl (by decide) kw_294 (show decode cX5_addOp 12 = .ok (.getfield 11, 3) by decide +kernel) rfl, ?_⟩
  refine List.forall_mem_cons.mpr ⟨ok_aload_n C (show decode cX5_addOp 15 = .ok (.aload_n 0, 1) by decide +kernel) rfl rfl, ?_⟩
  refine List.forall_mem_cons.mpr ⟨ok_getf C (wi_X5) rfl (by decide) kw_297 (show decode cX5_addOp 16 = .ok (.getfield 27, 3) by decide +kernel) rfl, ?_⟩
  refine List.forall_mem_cons.mpr ⟨ok_iload_n C (show decode cX5_addOp 19 = .ok (.iload_n 1, 1) by decide +kernel) rfl rfl, ?_⟩
  refine List.forall_mem_cons.mpr ⟨ok_iastore C (show decode cX5_addOp 20 = .ok (.iastore, 1) by decide +kernel) rfl, ?_⟩
  refine List.forall_mem_cons.mpr ⟨ok_aload_n C (show decode cX5_addOp 21 = .ok (.aload_n 0, 1) by decide +kernel) rfl rfl, ?_⟩
  refine List.forall_mem_cons.mpr ⟨ok_getf C (wi_X5) rfl (by decide) kw_295 (show decode cX5_addOp 22 = .ok (.getfield 15, 3) by decide +kernel) rfl, ?_⟩
  refine List.forall_mem_cons.mpr ⟨ok_aload_n C (show decode cX5_addOp 25 = .ok (.aload_n 0, 1) by decide +kernel) rfl rfl, ?_⟩
  refine List.forall_mem_cons.mpr ⟨ok_getf C (wi_X5) rfl (by decide) kw_297 (show decode cX5_addOp 26 = .ok (.getfield 27, 3) by decide +kernel) rfl, ?_⟩
  refine List.forall_mem_cons.mpr ⟨ok_iload_n C (show decode cX5_addOp 29 = .ok (.iload_n 2, 1) by decide +kernel) rfl rfl, ?_⟩
  refine List.forall_mem_cons.mpr ⟨ok_iastore C (show decode cX5_addOp 30 = .ok (.iastore, 1) by decide +kernel) rfl, ?_⟩
  refine List.forall_mem_cons.mpr ⟨ok_aload_n C (show decode cX5_addOp 31 = .ok (.aload_n 0, 1) by decide +kernel) rfl rfl, ?_⟩
  refine List.forall_mem_cons.mpr ⟨ok_getf C (wi_X5) rfl (by decide) kw_296 (show decode cX5_addOp 32 = .ok (.getfield 18, 3) by decide +kernel) rfl, ?_⟩
  refine List.forall_mem_cons.mpr ⟨ok_aload_n C (show decode cX5_addOp 35 = .ok (.aload_n 0, 1) by decide +kernel) rfl rfl, ?_⟩
  refine List.forall_mem_cons.mpr ⟨ok_getf C (wi_X5) rfl (by decide) kw_297 (show decode cX5_addOp 36 = .ok (.getfield 27, 3) by decide +kernel) rfl, ?_⟩
  refine List.forall_mem_cons.mpr ⟨ok_iload_n C (show decode cX5_addOp 39 = .ok (.iload_n 3, 1) by decide +kernel) rfl rfl, ?_⟩
  refine List.forall_mem_cons.mpr ⟨ok_iastore C (show decode cX5_addOp 40 = .ok (.iastore, 1) by decide +kernel) rfl, ?_⟩
  refine List.forall_mem_cons.mpr ⟨ok_aload_n C (show decode cX5_addOp 41 = .ok (.aload_n 0, 1) by decide +kernel) rfl rfl, ?_⟩
  refine List.forall_mem_cons.mpr ⟨ok_dup C (show decode cX5_addOp 42 = .ok (.dup, 1) by decide +kernel) rfl, ?_⟩
  refine List.forall_mem_cons.mpr ⟨ok_getf C (wi_X5) rfl (by decide) kw_297 (show decode cX5_addOp 43 = .ok (.getfield 27, 3) by decide +kernel) rfl, ?_⟩
  refine List.forall_mem_cons.mpr ⟨ok_iconst C (show decode cX5_addOp 46 = .ok (.iconst 1, 1) by decide +kernel) (by decide) rfl, ?_⟩
  refine List.forall_mem_cons.mpr ⟨ok_iadd C (show decode cX5_addOp 47 = .ok (.iadd, 1) by decide +kernel) rfl, ?_⟩
  refine List.forall_mem_cons.mpr ⟨ok_putf C (wi_X5) tyX5 tyX5_ok nmX5 rfl (by decide) kw_297 (Or.inl rfl) (Or.inl ⟨rfl, rfl⟩) (show decode cX5_addOp 48 = .ok (.putfield 27, 3) by decide +kernel) rfl, ?_⟩
  refine List.forall_mem_cons.mpr ⟨ok_iconst C (show decode cX5_addOp 51 = .ok (.iconst 1, 1) by decide +kernel) (by decide) rfl, ?_⟩
  refine List.forall_mem_cons.mpr ⟨ok_zret C rfl (show decode cX5_addOp 52 = .ok (.ireturn, 1) by decide +kernel), ?_⟩
  exact fun _ h => absurd h List.not_mem_nil
def L_X5_readOnShore (f_X9_takeNumber : List Value → ab_H → Option ab_O) (f_X9_step : List Value → ab_H → Option ab_O) (f_X5_addOp : List Value → ab_H → Option ab_O) : List (Nat × ab_A) := [
  (0, ab_nx 1 (ab_aload 1)),
  (1, ab_nx 2 (ab_lit (.int 0))),
  (2, ab_nx 3 (ab_lit (.int 1))),
  (3, ab_nx 6 (ab_callV 3 9 f_X9_takeNumber 0 0 0 0)),
  (6, ab_if 9 11 (fun x => !decide (x = 0))),
  (9, ab_nx 10 (ab_lit (.int 0))),
  (10, ab_zret 0 0),
  (11, ab_nx 12 (ab_aload 1)),
  (12, ab_nx 15 (ab_getf 9 7)),
  (15, ab_nx 16 (ab_istore 3)),
  (16, ab_nx 17 (ab_aload 1)),
  (17, ab_nx 20 (ab_callV 1 9 f_X9_step 0 0 0 0)),
  (20, ab_nx 21 (ab_aload 0)),
  (21, ab_nx 22 (ab_iload 2)),
  (22, ab_nx 23 (ab_iload 3)),
  (23, ab_nx 24 (ab_lit (.int 0))),
  (24, ab_nx 27 (ab_callV 4 5 f_X5_addOp 0 0 0 0)),
  (27, ab_zret 0 0)]
set_option maxRecDepth 100000 in
set_option maxHeartbeats 4000000 in
theorem M_X5_readOnShore {l : Launch} {b : ab_B} {D : va_G} {cA : Nat → ClassId} {f_X9_takeNumber : List Value → ab_H → Option ab_O} (h_X9_takeNumber : ab_M l b D ab_cl cA (ab_E0 b) yX9_takeNumber (Cond.code yX9_takeNumber cX9_takeNumber 3 (some .boolean) :: ab_G) ({ frames := 2, cells := 0, slots := 0, locals := 200 } : Room) f_X9_takeNumber) {f_X9_step : List Value → ab_H → Option ab_O} (h_X9_step : ab_M l b D ab_cl cA (ab_E0 b) yX9_step (Cond.code yX9_step cX9_step 1 none :: ab_G) ({ frames := 1, cells := 0, slots := 0, locals := 100 } : Room) f_X9_step) {f_X5_addOp : List Value → ab_H → Option ab_O} (h_X5_addOp : ab_M l b D ab_cl cA (ab_E0 b) yX5_addOp (Cond.code yX5_addOp cX5_addOp 4 (some .boolean) :: ab_G) ({ frames := 1, cells := 0, slots := 0, locals := 100 } : Room) f_X5_addOp) : ab_M l b D ab_cl cA (ab_E0 b) yX5_readOnShore (Cond.code yX5_readOnShore cX5_readOnShore 4 (some .boolean) :: ab_G) ({ frames := 3, cells := 0, slots := 0, locals := 300 } : Room) (ab_X (ab_T (L_X5_readOnShore f_X9_takeNumber f_X9_step f_X5_addOp)) 4) := by
  refine ab_meth (ret := (some .boolean)) (L_X5_readOnShore f_X9_takeNumber f_X9_step f_X5_addOp) (by decide) rfl fun p e R s m args below meth c o C => ?_
  unfold L_X5_readOnShore
  refine List.forall_mem_cons.mpr ⟨ok_aload_n C (show decode cX5_readOnShore 0 = .ok (.aload_n 1, 1) by decide +kernel) rfl rfl, ?_⟩
  refine List.forall_mem_cons.mpr ⟨ok_iconst C (show decode cX5_readOnShore 1 = .ok (.iconst 0, 1) by decide +kernel) (by decide) rfl, ?_⟩
  refine List.forall_mem_cons.mpr ⟨ok_iconst C (show decode cX5_readOnShore 2 = .ok (.iconst 1, 1) by decide +kernel) (by decide) rfl, ?_⟩
  refine List.forall_mem_cons.mpr ⟨ok_callV C h_X9_takeNumber ⟨rfl, rfl⟩ rfl kw_529 kw_987 kw_527 kw_528 kw_3 rfl ds_X9_takeNumber ⟨by decide, by decide⟩ (show decode cX5_readOnShore 3 = .ok (.invokevirtual 73, 3) by decide +kernel) rfl, ?_⟩
  refine List.forall_mem_cons.mpr ⟨ok_ifne C (show decode cX5_readOnShore 6 = .ok (.ifCond .ne 5, 3) by decide +kernel) (tg := 11) (by decide) rfl rfl, ?_⟩
  refine List.forall_mem_cons.mpr ⟨ok_iconst C (show decode cX5_readOnShore 9 = .ok (.iconst 0, 1) by decide +kernel) (by decide) rfl, ?_⟩
  refine List.forall_mem_cons.mpr ⟨ok_zret C rfl (show decode cX5_readOnShore 10 = .ok (.ireturn, 1) by decide +kernel), ?_⟩
  refine List.forall_mem_cons.mpr ⟨ok_aload_n C (show decode cX5_readOnShore 11 = .ok (.aload_n 1, 1) by decide +kernel) rfl rfl, ?_⟩
  refine List.forall_mem_cons.mpr ⟨ok_getf C (wi_X9) rfl (by decide) kw_69 (show decode cX5_readOnShore 12 = .ok (.getfield 77, 3) by decide +kernel) rfl, ?_⟩
  refine List.forall_mem_cons.mpr ⟨ok_istore_n C (show decode cX5_readOnShore 15 = .ok (.istore_n 3, 1) by decide +kernel) rfl (by decide) rfl, ?_⟩
  refine List.forall_mem_cons.mpr ⟨ok_aload_n C (show decode cX5_readOnShore 16 = .ok (.aload_n 1, 1) by decide +kernel) rfl rfl, ?_⟩
  refine List.forall_mem_cons.mpr ⟨ok_callV C h_X9_step ⟨rfl, rfl⟩ rfl kw_499 kw_961 kw_497 kw_498 kw_3 rfl ds_X9_step ⟨by decide, by decide⟩ (show decode cX5_readOnShore 17 = .ok (.invokevirtual 38, 3) by decide +kernel) rfl, ?_⟩
  refine List.forall_mem_cons.mpr ⟨ok_aload_n C (show decode cX5_readOnShore 20 = .ok (.aload_n 0, 1) by decide +kernel) rfl rfl, ?_⟩
  refine List.forall_mem_cons.mpr ⟨ok_iload_n C (show decode cX5_readOnShore 21 = .ok (.iload_n 2, 1) by decide +kernel) rfl rfl, ?_⟩
  refine List.forall_mem_cons.mpr ⟨ok_iload_n C (show decode cX5_readOnShore 22 = .ok (.iload_n 3, 1) by decide +kernel) rfl rfl, ?_⟩
  refine List.forall_mem_cons.mpr ⟨ok_iconst C (show decode cX5_readOnShore 23 = .ok (.iconst 0, 1) by decide +kernel) (by decide) rfl, ?_⟩
  refine List.forall_mem_cons.mpr ⟨ok_callV C h_X5_addOp ⟨rfl, rfl⟩ rfl kw_982 kw_979 kw_981 kp_42 kw_10 rfl ds_X5_addOp ⟨by decide, by decide⟩ (show decode cX5_readOnShore 24 = .ok (.invokevirtual 57, 3) by decide +kernel) rfl, ?_⟩
  refine List.forall_mem_cons.mpr ⟨ok_zret C rfl (show decode cX5_readOnShore 27 = .ok (.ireturn, 1) by decide +kernel), ?_⟩
  exact fun _ h => absurd h List.not_mem_nil
def L_X5_readCompared (f_X9_step : List Value → ab_H → Option ab_O) (f_X9_fail : List Value → ab_H → Option ab_O) (f_X9_takeNumber : List Value → ab_H → Option ab_O) (f_X5_addOp : List Value → ab_H → Option ab_O) : List (Nat × ab_A) := [
  (0, ab_nx 1 (ab_aload 1)),
  (1, ab_nx 4 (ab_callV 1 9 f_X9_step 0 0 0 0)),
  (4, ab_nx 5 (ab_aload 1)),
  (5, ab_nx 8 (ab_getf 9 5)),
  (8, ab_nx 9 (ab_istore 3)),
  (9, ab_nx 10 (ab_iload 3)),
  (10, ab_nx 12 (ab_lit (.int 60))),
  (12, ab_icmp 15 33 (fun x y => decide (x = y))),
  (15, ab_nx 16 (ab_iload 3)),
  (16, ab_nx 18 (ab_lit (.int 61))),
  (18, ab_icmp 21 33 (fun x y => decide (x = y))),
  (21, ab_nx 22 (ab_iload 3)),
  (22, ab_nx 24 (ab_lit (.int 62))),
  (24, ab_icmp 27 33 (fun x y => decide (x = y))),
  (27, ab_nx 28 (ab_aload 1)),
  (28, ab_nx 29 (ab_lit (.int 1))),
  (29, ab_nx 32 (ab_callV 2 9 f_X9_fail 0 0 0 0)),
  (32, ab_zret 0 0),
  (33, ab_nx 34 (ab_aload 1)),
  (34, ab_nx 35 (ab_lit (.int 0))),
  (35, ab_nx 38 (ab_lit (.int 999))),
  (38, ab_nx 41 (ab_callV 3 9 f_X9_takeNumber 0 0 0 0)),
  (41, ab_if 44 46 (fun x => !decide (x = 0))),
  (44, ab_nx 45 (ab_lit (.int 0))),
  (45, ab_zret 0 0),
  (46, ab_nx 47 (ab_aload 1)),
  (47, ab_nx 50 (ab_getf 9 7)),
  (50, ab_nx 52 (ab_istore 4)),
  (52, ab_nx 53 (ab_aload 1)),
  (53, ab_nx 56 (ab_callV 1 9 f_X9_step 0 0 0 0)),
  (56, ab_nx 57 (ab_aload 0)),
  (57, ab_nx 58 (ab_iload 2)),
  (58, ab_nx 59 (ab_iload 3)),
  (59, ab_nx 61 (ab_iload 4)),
  (61, ab_nx 64 (ab_callV 4 5 f_X5_addOp 0 0 0 0)),
  (64, ab_zret 0 0)]
set_option maxRecDepth 100000 in
set_option maxHeartbeats 4000000 in
theorem M_X5_readCompared {l : Launch} {b : ab_B} {D : va_G} {cA : Nat → ClassId} {f_X9_step : List Value → ab_H → Option ab_O} (h_X9_step : ab_M l b D ab_cl cA (ab_E0 b) yX9_step (Cond.code yX9_step cX9_step 1 none :: ab_G) ({ frames := 1, cells := 0, slots := 0, locals := 100 } : Room) f_X9_step) {f_X9_fail : List Value → ab_H → Option ab_O} (h_X9_fail : ab_M l b D ab_cl cA (ab_E0 b) yX9_fail (Cond.code yX9_fail cX9_fail 2 (some .boolean) :: ab_G) ({ frames := 1, cells := 0, slots := 0, locals := 100 } : Room) f_X9_fail) {f_X9_takeNumber : List Value → ab_H → Option ab_O} (h_X9_takeNumber : ab_M l b D ab_cl cA (ab_E0 b) yX9_takeNumber (Cond.code yX9_takeNumber cX9_takeNumber 3 (some .boolean) :: ab_G) ({ frames := 2, cells := 0, slots := 0, locals := 200 } : Room) f_X9_takeNumber) {f_X5_addOp : List Value → ab_H → Option ab_O} (h_X5_addOp : ab_M l b D ab_cl cA (ab_E0 b) yX5_addOp (Cond.code yX5_addOp cX5_addOp 4 (some .boolean) :: ab_G) ({ frames := 1, cells := 0, slots := 0, locals := 100 } : Room) f_X5_addOp) : ab_M l b D ab_cl cA (ab_E0 b) yX5_readCompared (Cond.code yX5_readCompared cX5_readCompared 5 (some .boolean) :: ab_G) ({ frames := 3, cells := 0, slots := 0, locals := 300 } : Room) (ab_X (ab_T (L_X5_readCompared f_X9_step f_X9_fail f_X9_takeNumber f_X5_addOp)) 5) := by
  refine ab_meth (ret := (some .boolean)) (L_X5_readCompared f_X9_step f_X9_fail f_X9_takeNumber f_X5_addOp) (by decide) rfl fun p e R s m args below meth c o C => ?_
  unfold L_X5_readCompared
  refine List.forall_mem_cons.mpr ⟨ok_aload_n C (show decode cX5_readCompared 0 = .ok (.aload_n 1, 1) by decide +kernel) rfl rfl, ?_⟩
  refine List.forall_mem_cons.mpr ⟨ok_callV C h_X9_step ⟨rfl, rfl⟩ rfl kw_499 kw_961 kw_497 kw_498 kw_3 rfl ds_X9_step ⟨by decide, by decide⟩ (show decode cX5_readCompared 1 = .ok (.invokevirtual 38, 3) by decide +kernel) rfl, ?_⟩
  refine List.forall_mem_cons.mpr ⟨ok_aload_n C (show decode cX5_readCompared 4 = .ok (.aload_n 1, 1) by decide +kernel) rfl rfl, ?_⟩
  refine List.forall_mem_cons.mpr ⟨ok_getf C (wi_X9) rfl (by decide) kw_62 (show decode cX5_readCompared 5 = .ok (.getfield 47, 3) by decide +kernel) rfl, ?_⟩
  refine List.forall_mem_cons.mpr ⟨ok_istore_n C (show decode cX5_readCompared 8 = .ok (.istore_n 3, 1) by decide +kernel) rfl (by decide) rfl, ?_⟩
  refine List.forall_mem_cons.mpr ⟨ok_iload_n C (show decode cX5_readCompared 9 = .ok (.iload_n 3, 1) by decide +kernel) rfl rfl, ?_⟩
  refine List.forall_mem_cons.mpr ⟨ok_bipush C (show decode cX5_readCompared 10 = .ok (.bipush 60, 2) by decide +kernel) (by decide) rfl, ?_⟩
  refine List.forall_mem_cons.mpr ⟨ok_icmpeq C (show decode cX5_readCompared 12 = .ok (.if_icmp .eq 21, 3) by decide +kernel) (tg := 33) (by decide) rfl rfl, ?_⟩
  refine List.forall_mem_cons.mpr ⟨ok_iload_n C (show decode cX5_readCompared 15 = .ok (.iload_n 3, 1) by decide +kernel) rfl rfl, ?_⟩
  refine List.forall_mem_cons.mpr ⟨ok_bipush C (show decode cX5_readCompared 16 = .ok (.bipush 61, 2) by decide +kernel) (by decide) rfl, ?_⟩
  refine List.forall_mem_cons.mpr ⟨ok_icmpeq C (show decode cX5_readCompared 18 = .ok (.if_icmp .eq 15, 3) by decide +kernel) (tg := 33) (by decide) rfl rfl, ?_⟩
  refine List.forall_mem_cons.mpr ⟨ok_iload_n C (show decode cX5_readCompared 21 = .ok (.iload_n 3, 1) by decide +kernel) rfl rfl, ?_⟩
  refine List.forall_mem_cons.mpr ⟨ok_bipush C (show decode cX5_readCompared 22 = .ok (.bipush 62, 2) by decide +kernel) (by decide) rfl, ?_⟩
  refine List.forall_mem_cons.mpr ⟨ok_icmpeq C (show decode cX5_readCompared 24 = .ok (.if_icmp .eq 9, 3) by decide +kernel) (tg := 33) (by decide) rfl rfl, ?_⟩
  refine List.forall_mem_cons.mpr ⟨ok_aload_n C (show decode cX5_readCompared 27 = .ok (.aload_n 1, 1) by decide +kernel) rfl rfl, ?_⟩
  refine List.forall_mem_cons.mpr ⟨ok_iconst C (show decode cX5_readCompared 28 = .ok (.iconst 1, 1) by decide +kernel) (by decide) rfl, ?_⟩
  refine List.forall_mem_cons.mpr ⟨ok_callV C h_X9_fail ⟨rfl, rfl⟩ rfl kw_520 kw_974 kw_518 kw_519 kw_3 rfl ds_X9_fail ⟨by decide, by decide⟩ (show decode cX5_readCompared 29 = .ok (.invokevirtual 50, 3) by decide +kernel) rfl, ?_⟩
  refine List.forall_mem_cons.mpr ⟨ok_zret C rfl (show decode cX5_readCompared 32 = .ok (.ireturn, 1) by decide +kernel), ?_⟩
  refine List.forall_mem_cons.mpr ⟨ok_aload_n C (show decode cX5_readCompared 33 = .ok (.aload_n 1, 1) by decide +kernel) rfl rfl, ?_⟩
  refine List.forall_mem_cons.mpr ⟨ok_iconst C (show decode cX5_readCompared 34 = .ok (.iconst 0, 1) by decide +kernel) (by decide) rfl, ?_⟩
  refine List.forall_mem_cons.mpr ⟨ok_sipush C (show decode cX5_readCompared 35 = .ok (.sipush 999, 3) by decide +kernel) (by decide) rfl, ?_⟩
  refine List.forall_mem_cons.mpr ⟨ok_callV C h_X9_takeNumber ⟨rfl, rfl⟩ rfl kw_529 kw_987 kw_527 kw_528 kw_3 rfl ds_X9_takeNumber ⟨by decide, by decide⟩ (show decode cX5_readCompared 38 = .ok (.invokevirtual 73, 3) by decide +kernel) rfl, ?_⟩
  refine List.forall_mem_cons.mpr ⟨ok_ifne C (show decode cX5_readCompared 41 = .ok (.ifCond .ne 5, 3) by decide +kernel) (tg := 46) (by decide) rfl rfl, ?_⟩
  refine List.forall_mem_cons.mpr ⟨ok_iconst C (show decode cX5_readCompared 44 = .ok (.iconst 0, 1) by decide +kernel) (by decide) rfl, ?_⟩
  refine List.forall_mem_cons.mpr ⟨ok_zret C rfl (show decode cX5_readCompared 45 = .ok (.ireturn, 1) by decide +kernel), ?_⟩
  refine List.forall_mem_cons.mpr ⟨ok_aload_n C (show decode cX5_readCompared 46 = .ok (.aload_n 1, 1) by decide +kernel) rfl rfl, ?_⟩
  refine List.forall_mem_cons.mpr ⟨ok_getf C (wi_X9) rfl (by decide) kw_69 (show decode cX5_readCompared 47 = .ok (.getfield 77, 3) by decide +kernel) rfl, ?_⟩
  refine List.forall_mem_cons.mpr ⟨ok_istore C (show decode cX5_readCompared 50 = .ok (.istore 4, 2) by decide +kernel) (by decide) rfl, ?_⟩
  refine List.forall_mem_cons.mpr ⟨ok_aload_n C (show decode cX5_readCompared 52 = .ok (.aload_n 1, 1) by decide +kernel) rfl rfl, ?_⟩
  refine List.forall_mem_cons.mpr ⟨ok_callV C h_X9_step ⟨rfl, rfl⟩ rfl kw_499 kw_961 kw_497 kw_498 kw_3 rfl ds_X9_step ⟨by decide, by decide⟩ (show decode cX5_readCompared 53 = .ok (.invokevirtual 38, 3) by decide +kernel) rfl, ?_⟩
  refine List.forall_mem_cons.mpr ⟨ok_aload_n C (show decode cX5_readCompared 56 = .ok (.aload_n 0, 1) by decide +kernel) rfl rfl, ?_⟩
  refine List.forall_mem_cons.mpr ⟨ok_iload_n C (show decode cX5_readCompared 57 = .ok (.iload_n 2, 1) by decide +kernel) rfl rfl, ?_⟩
  refine List.forall_mem_cons.mpr ⟨ok_iload_n C (show decode cX5_readCompared 58 = .ok (.iload_n 3, 1) by decide +kernel) rfl rfl, ?_⟩
  refine List.forall_mem_cons.mpr ⟨ok_iload C (show decode cX5_readCompared 59 = .ok (.iload 4, 2) by decide +kernel) rfl, ?_⟩
  refine List.forall_mem_cons.mpr ⟨ok_callV C h_X5_addOp ⟨rfl, rfl⟩ rfl kw_982 kw_979 kw_981 kp_42 kw_10 rfl ds_X5_addOp ⟨by decide, by decide⟩ (show decode cX5_readCompared 61 = .ok (.invokevirtual 57, 3) by decide +kernel) rfl, ?_⟩
  refine List.forall_mem_cons.mpr ⟨ok_zret C rfl (show decode cX5_readCompared 64 = .ok (.ireturn, 1) by decide +kernel), ?_⟩
  exact fun _ h => absurd h List.not_mem_nil
