def L_X10_days (f_X10_isWithin : List Value → ab_H → Option ab_O) (f_X2_keep : List Value → ab_H → Option ab_O) (f_X1_passDays : List Value → ab_H → Option ab_O) : List (Nat × ab_A) := [
  (0, ab_nx 1 (ab_iload 1)),
  (1, ab_nx 3 (ab_lit (.int 60))),
  (3, ab_nx 6 (ab_call 2 f_X10_isWithin 0 0 8 138)),
  (6, ab_if 9 11 (fun x => !decide (x = 0))),
  (9, ab_nx 10 (ab_lit (.int (-1)))),
  (10, ab_ret 8 138),
  (11, ab_nx 12 (ab_aload 0)),
  (12, ab_nx 15 (ab_getf 10 4)),
  (15, ab_nx 18 (ab_getf 6 7)),
  (18, ab_nx 21 (ab_lit (.int 400))),
  (21, ab_icmp 24 35 (fun x y => decide (y ≤ x))),
  (24, ab_nx 25 (ab_aload 0)),
  (25, ab_nx 28 (ab_getf 10 3)),
  (28, ab_nx 29 (ab_aload 0)),
  (29, ab_nx 32 (ab_getf 10 4)),
  (32, ab_nx 35 (ab_callV 2 2 f_X2_keep 8 138 8 138)),
  (35, ab_nx 36 (ab_aload 0)),
  (36, ab_nx 39 (ab_getf 10 2)),
  (39, ab_nx 40 (ab_aload 0)),
  (40, ab_nx 43 (ab_getf 10 13)),
  (43, ab_nx 44 (ab_aload 0)),
  (44, ab_nx 47 (ab_getf 10 4)),
  (47, ab_nx 48 (ab_iload 1)),
  (48, ab_nx 51 (ab_callV 4 1 f_X1_passDays 0 0 8 138)),
  (51, ab_ret 8 138)]
set_option maxRecDepth 100000 in
set_option maxHeartbeats 4000000 in
theorem M_X10_days {l : Launch} {b : ab_B} {D : va_G} {cA : Nat → ClassId} {f_X10_isWithin : List Value → ab_H → Option ab_O} (h_X10_isWithin : ab_M l b D ab_cl cA (ab_E0 b) yX10_isWithin (Cond.code yX10_isWithin cX10_isWithin 2 (some .boolean) :: ab_G) ({ frames := 1, cells := 0, slots := 0, locals := 100 } : Room) f_X10_isWithin) {f_X2_keep : List Value → ab_H → Option ab_O} (h_X2_keep : ab_M l b D ab_cl cA (ab_E0 b) yX2_keep (Cond.code yX2_keep cX2_keep 3 none :: ab_G) ({ frames := 3, cells := 8, slots := 138, locals := 300 } : Room) f_X2_keep) {f_X1_passDays : List Value → ab_H → Option ab_O} (h_X1_passDays : ab_M l b D ab_cl cA (ab_E0 b) yX1_passDays (Cond.code yX1_passDays cX1_passDays 6 (some .int) :: ab_G) ({ frames := 5, cells := 0, slots := 0, locals := 500 } : Room) f_X1_passDays) : ab_M l b D ab_cl cA (ab_E0 b) yX10_days (Cond.code yX10_days cX10_days 2 (some .int) :: ab_G) ({ frames := 6, cells := 8, slots := 138, locals := 600 } : Room) (ab_X (ab_T (L_X10_days f_X10_isWithin f_X2_keep f_X1_passDays)) 2) := by
  refine ab_meth (ret := (some .int)) (L_X10_days f_X10_isWithin f_X2_keep f_X1_passDays) (by decide) rfl fun p e R s m args below meth c o C => ?_
  unfold L_X10_days
  refine List.forall_mem_cons.mpr ⟨ok_iload_n C (show decode cX10_days 0 = .ok (.iload_n 1, 1) by decide +kernel) rfl rfl, ?_⟩
  refine List.forall_mem_cons.mpr ⟨ok_bipush C (show decode cX10_days 1 = .ok (.bipush 60, 2) by decide +kernel) (by decide) rfl, ?_⟩
  refine List.forall_mem_cons.mpr ⟨ok_callS C h_X10_isWithin ⟨rfl, rfl⟩ kw_707 kw_705 kw_706 kw_1 ds_X10_isWithin ⟨by decide, by decide⟩ (show decode cX10_days 3 = .ok (.invokestatic 251, 3) by decide +kernel) rfl, ?_⟩
  refine List.forall_mem_cons.mpr ⟨ok_ifne C (show decode cX10_days 6 = .ok (.ifCond .ne 5, 3) by decide +kernel) (tg := 11) (by decide) rfl rfl, ?_⟩
  refine List.forall_mem_cons.mpr ⟨ok_iconst C (show decode cX10_days 9 = .ok (.iconst (-1), 1) by decide +kernel) (by decide) rfl, ?_⟩
  refine List.forall_mem_cons.mpr ⟨ok_ret C rfl (show decode cX10_days 10 = .ok (.ireturn, 1) by decide +kernel), ?_⟩
  refine List.forall_mem_cons.mpr ⟨ok_aload_n C (show decode cX10_days 11 = .ok (.aload_n 0, 1) by decide +kernel) rfl rfl, ?_⟩
  refine List.forall_mem_cons.mpr ⟨ok_getf C (wi_X10) rfl (by decide) kw_319 (show decode cX10_days 12 = .ok (.getfield 40, 3) by decide +kernel) rfl, ?_⟩
  refine List.forall_mem_cons.mpr ⟨ok_getf C (wi_X6) rfl (by decide) kw_164 (show decode cX10_days 15 = .ok (.getfield 213, 3) by decide +kernel) rfl, ?_⟩
  refine List.forall_mem_cons.mpr ⟨ok_sipush C (show decode cX10_days 18 = .ok (.sipush 400, 3) by decide +kernel) (by decide) rfl, ?_⟩
  refine List.forall_mem_cons.mpr ⟨ok_icmpge C (show decode cX10_days 21 = .ok (.if_icmp .ge 14, 3) by decide +kernel) (tg := 35) (by decide) rfl rfl, ?_⟩
  refine List.forall_mem_cons.mpr ⟨ok_aload_n C (show decode cX10_days 24 = .ok (.aload_n 0, 1) by decide +kernel) rfl rfl, ?_⟩
  refine List.forall_mem_cons.mpr ⟨ok_getf C (wi_X10) rfl (by decide) kw_318 (show decode cX10_days 25 = .ok (.getfield 33, 3) by decide +kernel) rfl, ?_⟩
  refine List.forall_mem_cons.mpr ⟨ok_aload_n C (show decode cX10_days 28 = .ok (.aload_n 0, 1) by decide +kernel) rfl rfl, ?_⟩
  refine List.forall_mem_cons.mpr ⟨ok_getf C (wi_X10) rfl (by decide) kw_319 (show decode cX10_days 29 = .ok (.getfield 40, 3) by decide +kernel) rfl, ?_⟩
  refine List.forall_mem_cons.mpr ⟨ok_callV C h_X2_keep ⟨rfl, rfl⟩ rfl kw_715 kw_712 kw_713 kw_714 kw_5 rfl ds_X2_keep ⟨by decide, by decide⟩ (show decode cX10_days 32 = .ok (.invokevirtual 258, 3) by decide +kernel) rfl, ?_⟩
  refine List.forall_mem_cons.mpr ⟨ok_aload_n C (show decode cX10_days 35 = .ok (.aload_n 0, 1) by decide +kernel) rfl rfl, ?_⟩
  refine List.forall_mem_cons.mpr ⟨ok_getf C (wi_X10) rfl (by decide) kw_317 (show decode cX10_days 36 = .ok (.getfield 26, 3) by decide +kernel) rfl, ?_⟩
  refine List.forall_mem_cons.mpr ⟨ok_aload_n C (show decode cX10_days 39 = .ok (.aload_n 0, 1) by decide +kernel) rfl rfl, ?_⟩
  refine List.forall_mem_cons.mpr ⟨ok_getf C (wi_X10) rfl (by decide) kw_328 (show decode cX10_days 40 = .ok (.getfield 83, 3) by decide +kernel) rfl, ?_⟩
  refine List.forall_mem_cons.mpr ⟨ok_aload_n C (show decode cX10_days 43 = .ok (.aload_n 0, 1) by decide +kernel) rfl rfl, ?_⟩
  refine List.forall_mem_cons.mpr ⟨ok_getf C (wi_X10) rfl (by decide) kw_319 (show decode cX10_days 44 = .ok (.getfield 40, 3) by decide +kernel) rfl, ?_⟩
  refine List.forall_mem_cons.mpr ⟨ok_iload_n C (show decode cX10_days 47 = .ok (.iload_n 1, 1) by decide +kernel) rfl rfl, ?_⟩
  refine List.forall_mem_cons.mpr ⟨ok_callV C h_X1_passDays ⟨rfl, rfl⟩ rfl kw_751 kw_748 kw_749 kw_750 kw_4 rfl ds_X1_passDays ⟨by decide, by decide⟩ (show decode cX10_days 48 = .ok (.invokevirtual 266, 3) by decide +kernel) rfl, ?_⟩
  refine List.forall_mem_cons.mpr ⟨ok_ret C rfl (show decode cX10_days 51 = .ok (.ireturn, 1) by decide +kernel), ?_⟩
  exact fun _ h => absurd h List.not_mem_nil
def L_X10_undo (f_X2_takeBack : List Value → ab_H → Option ab_O) : List (Nat × ab_A) := [
  (0, ab_nx 1 (ab_aload 0)),
  (1, ab_nx 4 (ab_getf 10 3)),
  (4, ab_nx 5 (ab_aload 0)),
  (5, ab_nx 8 (ab_getf 10 4)),
  (8, ab_nx 11 (ab_callV 2 2 f_X2_takeBack 0 0 0 0)),
  (11, ab_ret 0 0)]
set_option maxRecDepth 100000 in
set_option maxHeartbeats 4000000 in
theorem M_X10_undo {l : Launch} {b : ab_B} {D : va_G} {cA : Nat → ClassId} {f_X2_takeBack : List Value → ab_H → Option ab_O} (h_X2_takeBack : ab_M l b D ab_cl cA (ab_E0 b) yX2_takeBack (Cond.code yX2_takeBack cX2_takeBack 3 (some .int) :: ab_G) ({ frames := 3, cells := 0, slots := 0, locals := 300 } : Room) f_X2_takeBack) : ab_M l b D ab_cl cA (ab_E0 b) yX10_undo (Cond.code yX10_undo cX10_undo 1 (some .int) :: ab_G) ({ frames := 4, cells := 0, slots := 0, locals := 400 } : Room) (ab_X (ab_T (L_X10_undo f_X2_takeBack)) 1) := by
  refine ab_meth (ret := (some .int)) (L_X10_undo f_X2_takeBack) (by decide) rfl fun p e R s m args below meth c o C => ?_
  unfold L_X10_undo
  refine List.forall_mem_cons.mpr ⟨ok_aload_n C (show decode cX10_undo 0 = .ok (.aload_n 0, 1) by decide +kernel) rfl rfl, ?_⟩
  refine List.forall_mem_cons.mpr ⟨ok_getf C (wi_X10) rfl (by decide) kw_318 (show decode cX10_undo 1 = .ok (.getfield 33, 3) by decide +kernel) rfl, ?_⟩
  refine List.forall_mem_cons.mpr ⟨ok_aload_n C (show decode cX10_undo 4 = .ok (.aload_n 0, 1) by decide +kernel) rfl rfl, ?_⟩
  refine List.forall_mem_cons.mpr ⟨ok_getf C (wi_X10) rfl (by decide) kw_319 (show decode cX10_undo 5 = .ok (.getfield 40, 3) by decide +kernel) rfl, ?_⟩
  refine List.forall_mem_cons.mpr ⟨ok_callV C h_X2_takeBack ⟨rfl, rfl⟩ rfl kw_792 kw_789 kw_790 kw_791 kw_5 rfl ds_X2_takeBack ⟨by decide, by decide⟩ (show decode cX10_undo 8 = .ok (.invokevirtual 270, 3) by decide +kernel) rfl, ?_⟩
  refine List.forall_mem_cons.mpr ⟨ok_ret C rfl (show decode cX10_undo 11 = .ok (.ireturn, 1) by decide +kernel), ?_⟩
  exact fun _ h => absurd h List.not_mem_nil
def L_X10_going (f_X1_plan : List Value → ab_H → Option ab_O) : List (Nat × ab_A) := [
  (0, ab_nx 1 (ab_aload 0)),
  (1, ab_nx 4 (ab_getf 10 2)),
  (4, ab_nx 5 (ab_aload 0)),
  (5, ab_nx 8 (ab_getf 10 13)),
  (8, ab_nx 9 (ab_aload 0)),
  (9, ab_nx 12 (ab_getf 10 4)),
  (12, ab_nx 15 (ab_callV 3 1 f_X1_plan 0 0 0 0)),
  (15, ab_nx 16 (ab_aload 0)),
  (16, ab_nx 19 (ab_getf 10 2)),
  (19, ab_nx 22 (ab_getf 1 2)),
  (22, ab_ret 0 0)]
set_option maxRecDepth 100000 in
set_option maxHeartbeats 4000000 in
theorem M_X10_going {l : Launch} {b : ab_B} {D : va_G} {cA : Nat → ClassId} {f_X1_plan : List Value → ab_H → Option ab_O} (h_X1_plan : ab_M l b D ab_cl cA (ab_E0 b) yX1_plan (Cond.code yX1_plan cX1_plan 8 none :: ab_G) ({ frames := 4, cells := 0, slots := 0, locals := 400 } : Room) f_X1_plan) : ab_M l b D ab_cl cA (ab_E0 b) yX10_going (Cond.code yX10_going cX10_going 1 (some .int) :: ab_G) ({ frames := 5, cells := 0, slots := 0, locals := 500 } : Room) (ab_X (ab_T (L_X10_going f_X1_plan)) 1) := by
  refine ab_meth (ret := (some .int)) (L_X10_going f_X1_plan) (by decide) rfl fun p e R s m args below meth c o C => ?_
  unfold L_X10_going
  refine List.forall_mem_cons.mpr ⟨ok_aload_n C (show decode cX10_going 0 = .ok (.aload_n 0, 1) by decide +kernel) rfl rfl, ?_⟩
  refine List.forall_mem_cons.mpr ⟨ok_getf C (wi_X10) rfl (by decide) kw_317 (show decode cX10_going 1 = .ok (.getfield 26, 3) by decide +kernel) rfl, ?_⟩
  refine List.forall_mem_cons.mpr ⟨ok_aload_n C (show decode cX10_going 4 = .ok (.aload_n 0, 1) by decide +kernel) rfl rfl, ?_⟩
  refine List.forall_mem_cons.mpr ⟨ok_getf C (wi_X10) rfl (by decide) kw_328 (show decode cX10_going 5 = .ok (.getfield 83, 3) by decide +kernel) rfl, ?_⟩
  refine List.forall_mem_cons.mpr ⟨ok_aload_n C (show decode cX10_going 8 = .ok (.aload_n 0, 1) by decide +kernel) rfl rfl, ?_⟩
  refine List.forall_mem_cons.mpr ⟨ok_getf C (wi_X10) rfl (by decide) kw_319 (show decode cX10_going 9 = .ok (.getfield 40, 3) by decide +kernel) rfl, ?_⟩
  refine List.forall_mem_cons.mpr ⟨ok_callV C h_X1_plan ⟨rfl, rfl⟩ rfl kw_755 kw_797 kw_753 kw_754 kw_4 rfl ds_X1_plan ⟨by decide, by decide⟩ (show decode cX10_going 12 = .ok (.invokevirtual 274, 3) by decide +kernel) rfl, ?_⟩
  refine List.forall_mem_cons.mpr ⟨ok_aload_n C (show decode cX10_going 15 = .ok (.aload_n 0, 1) by decide +kernel) rfl rfl, ?_⟩
  refine List.forall_mem_cons.mpr ⟨ok_getf C (wi_X10) rfl (by decide) kw_317 (show decode cX10_going 16 = .ok (.getfield 26, 3) by decide +kernel) rfl, ?_⟩
  refine List.forall_mem_cons.mpr ⟨ok_getf C (wi_X1) rfl (by decide) kw_110 (show decode cX10_going 19 = .ok (.getfield 278, 3) by decide +kernel) rfl, ?_⟩
  refine List.forall_mem_cons.mpr ⟨ok_ret C rfl (show decode cX10_going 22 = .ok (.ireturn, 1) by decide +kernel), ?_⟩
  exact fun _ h => absurd h List.not_mem_nil
def L_X10_goes (f_X10_isGood : List Value → ab_H → Option ab_O) (f_X1_plan : List Value → ab_H → Option ab_O) : List (Nat × ab_A) := [
  (0, ab_nx 1 (ab_aload 0)),
  (1, ab_nx 2 (ab_iload 1)),
  (2, ab_nx 5 (ab_callV 2 10 f_X10_isGood 0 0 0 0)),
  (5, ab_if 8 10 (fun x => !decide (x = 0))),
  (8, ab_nx 9 (ab_lit (.int (-1)))),
  (9, ab_ret 0 0),
  (10, ab_nx 11 (ab_aload 0)),
  (11, ab_nx 14 (ab_getf 10 2)),
  (14, ab_nx 15 (ab_aload 0)),
  (15, ab_nx 18 (ab_getf 10 13)),
  (18, ab_nx 19 (ab_aload 0)),
  (19, ab_nx 22 (ab_getf 10 4)),
  (22, ab_nx 25 (ab_callV 3 1 f_X1_plan 0 0 0 0)),
  (25, ab_nx 26 (ab_aload 0)),
  (26, ab_nx 29 (ab_getf 10 2)),
  (29, ab_nx 32 (ab_getf 1 0)),
  (32, ab_nx 33 (ab_iload 1)),
  (33, ab_nx 34 (ab_ald 1)),
  (34, ab_ret 0 0)]
set_option maxRecDepth 100000 in
set_option maxHeartbeats 4000000 in
theorem M_X10_goes {l : Launch} {b : ab_B} {D : va_G} {cA : Nat → ClassId} {f_X10_isGood : List Value → ab_H → Option ab_O} (h_X10_isGood : ab_M l b D ab_cl cA (ab_E0 b) yX10_isGood (Cond.code yX10_isGood cX10_isGood 2 (some .boolean) :: ab_G) ({ frames := 1, cells := 0, slots := 0, locals := 100 } : Room) f_X10_isGood) {f_X1_plan : List Value → ab_H → Option ab_O} (h_X1_plan : ab_M l b D ab_cl cA (ab_E0 b) yX1_plan (Cond.code yX1_plan cX1_plan 8 none :: ab_G) ({ frames := 4, cells := 0, slots := 0, locals := 400 } : Room) f_X1_plan) : ab_M l b D ab_cl cA (ab_E0 b) yX10_goes (Cond.code yX10_goes cX10_goes 2 (some .int) :: ab_G) ({ frames := 5, cells := 0, slots := 0, locals := 500 } : Room) (ab_X (ab_T (L_X10_goes f_X10_isGood f_X1_plan)) 2) := by
  refine ab_meth (ret := (some .int)) (L_X10_goes f_X10_isGood f_X1_plan) (by decide) rfl fun p e R s m args below meth c o C => ?_
  unfold L_X10_goes
  refine List.forall_mem_cons.mpr ⟨ok_aload_n C (show decode cX10_goes 0 = .ok (.aload_n 0, 1) by decide +kernel) rfl rfl, ?_⟩
  refine List.forall_mem_cons.mpr ⟨ok_iload_n C (show decode cX10_goes 1 = .ok (.iload_n 1, 1) by decide +kernel) rfl rfl, ?_⟩
  refine List.forall_mem_cons.mpr ⟨ok_callV C h_X10_isGood ⟨rfl, rfl⟩ rfl kw_596 kw_593 kw_595 kp_16 kw_1 rfl ds_X10_isGood ⟨by decide, by decide⟩ (show decode cX10_goes 2 = .ok (.invokevirtual 139, 3) by decide +kernel) rfl, ?_⟩
  refine List.forall_mem_cons.mpr ⟨ok_ifne C (show decode cX10_goes 5 = .ok (.ifCond .ne 5, 3) by decide +kernel) (tg := 10) (by decide) rfl rfl, ?_⟩
  refine List.forall_mem_cons.mpr ⟨ok_iconst C (show decode cX10_goes 8 = .ok (.iconst (-1), 1) by decide +kernel) (by decide) rfl, ?_⟩
  refine List.forall_mem_cons.mpr ⟨ok_ret C rfl (show decode cX10_goes 9 = .ok (.ireturn, 1) by decide +kernel), ?_⟩
  refine List.forall_mem_cons.mpr ⟨ok_aload_n C (show decode cX10_goes 10 = .ok (.aload_n 0, 1) by decide +kernel) rfl rfl, ?_⟩
  refine List.forall_mem_cons.mpr ⟨ok_getf C (wi_X10) rfl (by decide) kw_317 (show decode cX10_goes 11 = .ok (.getfield 26, 3) by decide +kernel) rfl, ?_⟩
  refine List.forall_mem_cons.mpr ⟨ok_aload_n C (show decode cX10_goes 14 = .ok (.aload_n 0, 1) by decide +kernel) rfl rfl, ?_⟩
  refine List.forall_mem_cons.mpr ⟨ok_getf C (wi_X10) rfl (by decide) kw_328 (show decode cX10_goes 15 = .ok (.getfield 83, 3) by decide +kernel) rfl, ?_⟩
  refine List.forall_mem_cons.mpr ⟨ok_aload_n C (show decode cX10_goes 18 = .ok (.aload_n 0, 1) by decide +kernel) rfl rfl, ?_⟩
  refine List.forall_mem_cons.mpr ⟨ok_getf C (wi_X10) rfl (by decide) kw_319 (show decode cX10_goes 19 = .ok (.getfield 40, 3) by decide +kernel) rfl, ?_⟩
  refine List.forall_mem_cons.mpr ⟨ok_callV C h_X1_plan ⟨rfl, rfl⟩ rfl kw_755 kw_797 kw_753 kw_754 kw_4 rfl ds_X1_plan ⟨by decide, by decide⟩ (show decode cX10_goes 22 = .ok (.invokevirtual 274, 3) by decide +kernel) rfl, ?_⟩
  refine List.forall_mem_cons.mpr ⟨ok_aload_n C (show decode cX10_goes 25 = .ok (.aload_n 0, 1) by decide +kernel) rfl rfl, ?_⟩
  refine List.forall_mem_cons.mpr ⟨ok_getf C (wi_X10) rfl (by decide) kw_317 (show decode cX10_goes 26 = .ok (.getfield 26, 3) by decide +kernel) rfl, ?_⟩
  refine List.forall_mem_cons.mpr ⟨ok_getf C (wi_X1) rfl (by decide) kw_106 (show decode cX10_goes 29 = .ok (.getfield 281, 3) by decide +kernel) rfl, ?_⟩
  refine List.forall_mem_cons.mpr ⟨ok_iload_n C (show decode cX10_goes 32 = .ok (.iload_n 1, 1) by decide +kernel) rfl rfl, ?_⟩
  refine List.forall_mem_cons.mpr ⟨ok_iaload C (show decode cX10_goes 33 = .ok (.iaload, 1) by decide +kernel) rfl, ?_⟩
  refine List.forall_mem_cons.mpr ⟨ok_ret C rfl (show decode cX10_goes 34 = .ok (.ireturn, 1) by decide +kernel), ?_⟩
  exact fun _ h => absurd h List.not_mem_nil
def L_X10_crosses (f_X10_isMan : List Value → ab_H → Option ab_O) (f_X6_isAlive : List Value → ab_H → Option ab_O) (f_X6_copyFrom : List Value → ab_H → Option ab_O) (f_X1_passDays : List Value → ab_H → Option ab_O) : List (Nat × ab_A) := [
  (0, ab_nx 1 (ab_aload 0)),
  (1, ab_nx 2 (ab_iload 1)),
  (2, ab_nx 5 (ab_callV 2 10 f_X10_isMan 0 0 0 0)),
  (5, ab_if 8 19 (fun x => decide (x = 0))),
  (8, ab_nx 9 (ab_aload 0)),
  (9, ab_nx 12 (ab_getf 10 4)),
  (12, ab_nx 13 (ab_iload 1)),
  (13, ab_nx 16 (ab_callV 2 6 f_X6_isAlive 0 0 0 0)),
  (16, ab_if 19 21 (fun x => !decide (x = 0))),
  (19, ab_nx 20 (ab_lit (.int (-1)))),
  (20, ab_ret 0 0),
  (21, ab_nx 22 (ab_aload 0)),
  (22, ab_nx 25 (ab_getf 10 5)),
  (25, ab_nx 26 (ab_aload 0)),
  (26, ab_nx 29 (ab_getf 10 4)),
  (29, ab_nx 32 (ab_callV 2 6 f_X6_copyFrom 0 0 0 0)),
  (32, ab_nx 33 (ab_lit (.int 0))),
  (33, ab_nx 34 (ab_istore 2)),
  (34, ab_nx 35 (ab_iload 2)),
  (35, ab_nx 37 (ab_lit (.int 100))),
  (37, ab_icmp 40 100 (fun x y => decide (y ≤ x))),
  (40, ab_nx 41 (ab_aload 0)),
  (41, ab_nx 44 (ab_getf 10 5)),
  (44, ab_nx 47 (ab_getf 6 7)),
  (47, ab_nx 50 (ab_lit (.int 400))),
  (50, ab_icmp 53 100 (fun x y => decide (y ≤ x))),
  (53, ab_nx 54 (ab_aload 0)),
  (54, ab_nx 57 (ab_getf 10 5)),
  (57, ab_nx 60 (ab_getf 6 7)),
  (60, ab_nx 61 (ab_istore 3)),
  (61, ab_nx 62 (ab_aload 0)),
  (62, ab_nx 65 (ab_getf 10 2)),
  (65, ab_nx 66 (ab_aload 0)),
  (66, ab_nx 69 (ab_getf 10 13)),
  (69, ab_nx 70 (ab_aload 0)),
  (70, ab_nx 73 (ab_getf 10 5)),
  (73, ab_nx 74 (ab_lit (.int 1))),
  (74, ab_nx 77 (ab_callV 4 1 f_X1_passDays 0 0 0 0)),
  (77, ab_nx 78 ab_pop),
  (78, ab_nx 79 (ab_aload 0)),
  (79, ab_nx 82 (ab_getf 10 2)),
  (82, ab_nx 85 (ab_getf 1 2)),
  (85, ab_nx 86 (ab_lit (.int 1))),
  (86, ab_nx 87 (ab_iload 1)),
  (87, ab_nx 88 (ab_bin (fun x y => x <<< (y &&& 31)))),
  (88, ab_nx 89 (ab_bin (fun x y => x &&& y))),
  (89, ab_if 92 94 (fun x => decide (x = 0))),
  (92, ab_nx 93 (ab_iload 3)),
  (93, ab_ret 0 0),
  (94, ab_nx 97 (ab_iinc 2 1)),
  (97, ab_goto 34),
  (100, ab_nx 101 (ab_lit (.int (-1)))),
  (101, ab_ret 0 0)]
set_option maxRecDepth 100000 in
set_option maxHeartbeats 4000000 in
theorem M_X10_crosses {l : Launch} {b : ab_B} {D : va_G} {cA : Nat → ClassId} {f_X10_isMan : List Value → ab_H → Option ab_O} (h_X10_isMan : ab_M l b D ab_cl cA (ab_E0 b) yX10_isMan (Cond.code yX10_isMan cX10_isMan 2 (some .boolean) :: ab_G) ({ frames := 1, cells := 0, slots := 0, locals := 100 } : Room) f_X10_isMan) {f_X6_isAlive : List Value → ab_H → Option ab_O} (h_X6_isAlive : ab_M l b D ab_cl cA (ab_E0 b) yX6_isAlive (Cond.code yX6_isAlive cX6_isAlive 2 (some .boolean) :: ab_G) ({ frames := 1, cells := 0, slots := 0, locals := 100 } : Room) f_X6_isAlive) {f_X6_copyFrom : List Value → ab_H → Option ab_O} (h_X6_copyFrom : ab_M l b D ab_cl cA (ab_E0 b) yX6_copyFrom (Cond.code yX6_copyFrom cX6_copyFrom 2 none :: ab_G) ({ frames := 2, cells := 0, slots := 0, locals := 200 } : Room) f_X6_copyFrom) {f_X1_passDays : List Value → ab_H → Option ab_O} (h_X1_passDays : ab_M l b D ab_cl cA (ab_E0 b) yX1_passDays (Cond.code yX1_passDays cX1_passDays 6 (some .int) :: ab_G) ({ frames := 5, cells := 0, slots := 0, locals := 500 } : Room) f_X1_passDays) : ab_M l b D ab_cl cA (ab_E0 b) yX10_crosses (Cond.code yX10_crosses cX10_crosses 4 (some .int) :: ab_G) ({ frames := 6, cells := 0, slots := 0, locals := 600 } : Room) (ab_X (ab_T (L_X10_crosses f_X10_isMan f_X6_isAlive f_X6_copyFrom f_X1_passDays)) 4) := by
  refine ab_meth (ret := (some .int)) (L_X10_crosses f_X10_isMan f_X6_isAlive f_X6_copyFrom f_X1_passDays) (by decide) rfl fun p e R s m args below meth c o C => ?_
  unfold L_X10_crosses
  refine List.forall_mem_cons.mpr ⟨ok_aload_n C (show decode cX10_crosses 0 = .ok (.aload_n 0, 1) by decide +kernel) rfl rfl, ?_⟩
  refine List.forall_mem_cons.mpr ⟨ok_iload_n C (show decode cX10_crosses 1 = .ok (.iload_n 1, 1) by decide +kernel) rfl rfl, ?_⟩
  refine List.forall_mem_cons.mpr ⟨ok_callV C h_X10_isMan ⟨rfl, rfl⟩ rfl kw_628 kw_625 kw_627 kp_18 kw_1 rfl ds_X10_isMan ⟨by decide, by decide⟩ (show decode cX10_crosses 2 = .ok (.invokevirtual 149, 3) by decide +kernel) rfl, ?_⟩
  refine List.forall_mem_cons.mpr ⟨ok_ifeq C (show decode cX10_crosses 5 = .ok (.ifCond .eq 14, 3) by decide +kernel) (tg := 19) (by decide) rfl rfl, ?_⟩
  refine List.forall_mem_cons.mpr ⟨ok_aload_n C (show decode cX10_crosses 8 = .ok (.aload_n 0, 1) by decide +kernel) rfl rfl, ?_⟩
  refine List.forall_mem_cons.mpr ⟨ok_getf C (wi_X10) rfl (by decide) kw_319 (show decode cX10_crosses 9 = .ok (.getfield 40, 3) by decide +kernel) rfl, ?_⟩
  refine List.forall_mem_cons.mpr ⟨ok_iload_n C (show decode cX10_crosses 12 = .ok (.iload_n 1, 1) by decide +kernel) rfl rfl, ?_⟩
  refine List.forall_mem_cons.mpr ⟨ok_callV C h_X6_isAlive ⟨rfl, rfl⟩ rfl kw_632 kw_629 kw_630 kw_631 kw_6 rfl ds_X6_isAlive ⟨by decide, by decide⟩ (show decode cX10_crosses 13 = .ok (.invokevirtual 152, 3) by decide +kernel) rfl, ?_⟩
  refine List.forall_mem_cons.mpr ⟨ok_ifne C (show decode cX10_crosses 16 = .ok (.ifCond .ne 5, 3) by decide +kernel) (tg := 21) (by decide) rfl rfl, ?_⟩
  refine List.forall_mem_cons.mpr ⟨ok_iconst C (show decode cX10_crosses 19 = .ok (.iconst (-1), 1) by decide +kernel) (by decide) rfl, ?_⟩
  refine List.forall_mem_cons.mpr ⟨ok_ret C rfl (show decode cX10_crosses 20 = .ok (.ireturn, 1) by decide +kernel), ?_⟩
  refine List.forall_mem_cons.mpr ⟨ok_aload_n C (show decode cX10_crosses 21 = .ok (.aload_n 0, 1) by decide +kernel) rfl rfl, ?_⟩
  refine List.forall_mem_cons.mpr ⟨ok_getf C (wi_X10) rfl (by decide) kw_320 (show decode cX10_crosses 22 = .ok (.getfield 44, 3) by decide +kernel) rfl, ?_⟩
  refine List.forall_mem_cons.mpr ⟨ok_aload_n C (show decode cX10_crosses 25 = .ok (.aload_n 0, 1) by decide +kernel) rfl rfl, ?_⟩
  refine List.forall_mem_cons.mpr ⟨ok_getf C (wi_X10) rfl (by decide) kw_319 (show decode cX10_crosses 26 = .ok (.getfield 40, 3) by decide +kernel) rfl, ?_⟩
  refine List.forall_mem_cons.mpr ⟨ok_callV C h_X6_copyFrom ⟨rfl, rfl⟩ rfl kw_724 kw_806 kw_722 kw_723 kw_6 rfl ds_X6_copyFrom ⟨by decide, by decide⟩ (show decode cX10_crosses 29 = .ok (.invokevirtual 284, 3) by decide +kernel) rfl, ?_⟩
  refine List.forall_mem_cons.mpr ⟨ok_iconst C (show decode cX10_crosses 32 = .ok (.iconst 0, 1) by decide +kernel) (by decide) rfl, ?_⟩
  refine List.forall_mem_cons.mpr ⟨ok_istore_n C (show decode cX10_crosses 33 = .ok (.istore_n 2, 1) by decide +kernel) rfl (by decide) rfl, ?_⟩
  refine List.forall_mem_cons.mpr ⟨ok_iload_n C (show decode cX10_crosses 34 = .ok (.iload_n 2, 1) by decide +kernel) rfl rfl, ?_⟩
  refine List.forall_mem_cons.mpr ⟨ok_bipush C (show decode cX10_crosses 35 = .ok (.bipush 100, 2) by decide +kernel) (by decide) rfl, ?_⟩
  refine List.forall_mem_cons.mpr ⟨ok_icmpge C (show decode cX10_crosses 37 = .ok (.if_icmp .ge 63, 3) by decide +kernel) (tg := 100) (by decide) rfl rfl, ?_⟩
  refine List.forall_mem_cons.mpr ⟨ok_aload_n C (show decode cX10_crosses 40 = .ok (.aload_n 0, 1) by decide +kernel) rfl rfl, ?_⟩
  refine List.forall_mem_cons.mpr ⟨ok_getf C (wi_X10) rfl (by decide) kw_320 (show decode cX10_crosses 41 = .ok (.getfield 44, 3) by decide +kernel) rfl, ?_⟩
  refine List.forall_mem_cons.mpr ⟨ok_getf C (wi_X6) rfl (by decide) kw_164 (show decode cX10_crosses 44 = .ok (.getfield 213, 3) by decide +kernel) rfl, ?_⟩
  refine List.forall_mem_cons.mpr ⟨ok_sipush C (show decode cX10_crosses 47 = .ok (.sipush 400, 3) by decide +kernel) (by decide) rfl, ?_⟩
  refine List.forall_mem_cons.mpr ⟨ok_icmpge C (show decode cX10_crosses 50 = .ok (.if_icmp .ge 50, 3) by decide +kernel) (tg := 100) (by decide) rfl rfl, ?_⟩
  refine List.forall_mem_cons.mpr ⟨ok_aload_n C (show decode cX10_crosses 53 = .ok (.aload_n 0, 1) by decide +kernel) rfl rfl, ?_⟩
  refine List.forall_mem_cons.mpr ⟨ok_getf C (wi_X10) rfl (by decide) kw_320 (show decode cX10_crosses 54 = .ok (.getfield 44, 3) by decide +kernel) rfl, ?_⟩
  refine List.forall_mem_cons.mpr ⟨ok_getf C (wi_X6) rfl (by decide) kw_164 (show decode cX10_crosses 57 = .ok (.getfield 213, 3) by decide +kernel) rfl, ?_⟩
  refine List.forall_mem_cons.mpr ⟨ok_istore_n C (show decode cX10_crosses 60 = .ok (.istore_n 3, 1) by decide +kernel) rfl (by decide) rfl, ?_⟩
  refine List.forall_mem_cons.mpr ⟨ok_aload_n C (show decode cX10_crosses 61 = .ok (.aload_n 0, 1) by decide +kernel) rfl rfl, ?_⟩
  refine List.forall_mem_cons.mpr ⟨ok_getf C (wi_X10) rfl (by decide) kw_317 (show decode cX10_crosses 62 = .ok (.getfield 26, 3) by decide +kernel) rfl, ?_⟩
  refine List.forall_mem_cons.mpr ⟨ok_aload_n C (show decode cX10_crosses 65 = .ok (.aload_n 0, 1) by decide +kernel) rfl rfl, ?_⟩
  refine List.forall_mem_cons.mpr ⟨ok_getf C (wi_X10) rfl (by decide) kw_328 (show decode cX10_crosses 66 = .ok (.getfield 83, 3) by decide +kernel) rfl, ?_⟩
  refine List.forall_mem_cons.mpr ⟨ok_aload_n C (show decode cX10_crosses 69 = .ok (.aload_n 0, 1) by decide +kernel) rfl rfl, ?_⟩
  refine List.forall_mem_cons.mpr ⟨ok_getf C (wi_X10) rfl (by decide) kw_320 (show decode cX10_crosses 70 = .ok (.getfield 44, 3) by decide +kernel) rfl, ?_⟩
  refine List.forall_mem_cons.mpr ⟨ok_iconst C (show decode cX10_crosses 73 = .ok (.iconst 1, 1) by decide +kernel) (by decide) rfl, ?_⟩
  refine List.forall_mem_cons.mpr ⟨ok_callV C h_X1_passDays ⟨rfl, rfl⟩ rfl kw_751 kw_748 kw_749 kw_750 kw_4 rfl ds_X1_passDays ⟨by decide, by decide⟩ (show decode cX10_crosses 74 = .ok (.invokevirtual 266, 3) by decide +kernel) rfl, ?_⟩
  refine List.forall_mem_cons.mpr ⟨ok_pop C (show decode cX10_crosses 77 = .ok (.pop, 1) by decide +kernel) rfl, ?_⟩
  refine List.forall_mem_cons.mpr ⟨ok_aload_n C (show decode cX10_crosses 78 = .ok (.aload_n 0, 1) by decide +kernel) rfl rfl, ?_⟩
  refine List.forall_mem_cons.mpr ⟨ok_getf C (wi_X10) rfl (by decide) kw_317 (show decode cX10_crosses 79 = .ok (.getfield 26, 3) by decide +kernel) rfl, ?_⟩
  refine List.forall_mem_cons.mpr ⟨ok_getf C (wi_X1) rfl (by decide) kw_110 (show decode cX10_crosses 82 = .ok (.getfield 278, 3) by decide +kernel) rfl, ?_⟩
  refine List.forall_mem_cons.mpr ⟨ok_iconst C (show decode cX10_crosses 85 = .ok (.iconst 1, 1) by decide +kernel) (by decide) rfl, ?_⟩
  refine List.forall_mem_cons.mpr ⟨ok_iload_n C (show decode cX10_crosses 86 = .ok (.iload_n 1, 1) by decide +kernel) rfl rfl, ?_⟩
  refine List.forall_mem_cons.mpr ⟨ok_ishl C (show decode cX10_crosses 87 = .ok (.ishl, 1) by decide +kernel) rfl, ?_⟩
  refine List.forall_mem_cons.mpr ⟨ok_iand C (show decode cX10_crosses 88 = .ok (.iand, 1) by decide +kernel) rfl, ?_⟩
  refine List.forall_mem_cons.mpr ⟨ok_ifeq C (show decode cX10_crosses 89 = .ok (.ifCond .eq 5, 3) by decide +kernel) (tg := 94) (by decide) rfl rfl, ?_⟩
  refine List.forall_mem_cons.mpr ⟨ok_iload_n C (show decode cX10_crosses 92 = .ok (.iload_n 3, 1) by decide +kernel) rfl rfl, ?_⟩
  refine List.forall_mem_cons.mpr ⟨ok_ret C rfl (show decode cX10_crosses 93 = .ok (.ireturn, 1) by decide +kernel), ?_⟩
  refine List.forall_mem_cons.mpr ⟨ok_iinc C (show decode cX10_crosses 94 = .ok (.iinc 2 1, 3) by decide +kernel) (by decide) (by decide) rfl, ?_⟩
  refine List.forall_mem_cons.mpr ⟨ok_goto C (show decode cX10_crosses 97 = .ok (.goto (-63), 3) by decide +kernel) (tg := 34) (by decide) rfl, ?_⟩
  refine List.forall_mem_cons.mpr ⟨ok_iconst C (show decode cX10_crosses 100 = .ok (.iconst (-1), 1) by decide +kernel) (by decide) rfl, ?_⟩
  refine List.forall_mem_cons.mpr ⟨ok_ret C rfl (show decode cX10_crosses 101 = .ok (.ireturn, 1) by decide +kernel), ?_⟩
  exact fun _ h => absurd h List.not_mem_nil
def L_X10_comes (f_X10_isSlot : List Value → ab_H → Option ab_O) (f_X6_copyFrom : List Value → ab_H → Option ab_O) (f_X6_ferryShore : List Value → ab_H → Option ab_O) (f_X1_passDays : List Value → ab_H → Option ab_O) : List (Nat × ab_A) := [
  (0, ab_nx 1 (ab_aload 0)),
  (1, ab_nx 2 (ab_iload 1)),
  (2, ab_nx 3 (ab_iload 2)),
  (3, ab_nx 6 (ab_callV 3 10 f_X10_isSlot 0 0 0 0)),
  (6, ab_if 9 11 (fun x => !decide (x = 0))),
  (9, ab_nx 10 (ab_lit (.int (-1)))),
  (10, ab_ret 0 0),
  (11, ab_nx 12 (ab_aload 0)),
  (12, ab_nx 15 (ab_getf 10 5)),
  (15, ab_nx 16 (ab_aload 0)),
  (16, ab_nx 19 (ab_getf 10 4)),
  (19, ab_nx 22 (ab_callV 2 6 f_X6_copyFrom 0 0 0 0)),
  (22, ab_nx 23 (ab_lit (.int 0))),
  (23, ab_nx 24 (ab_istore 3)),
  (24, ab_nx 25 (ab_iload 3)),
  (25, ab_nx 27 (ab_lit (.int 100))),
  (27, ab_icmp 30 113 (fun x y => decide (y ≤ x))),
  (30, ab_nx 31 (ab_aload 0)),
  (31, ab_nx 34 (ab_getf 10 5)),
  (34, ab_nx 37 (ab_getf 6 7)),
  (37, ab_nx 40 (ab_lit (.int 400))),
  (40, ab_icmp 43 113 (fun x y => decide (y ≤ x))),
  (43, ab_nx 44 (ab_aload 0)),
  (44, ab_nx 47 (ab_getf 10 5)),
  (47, ab_nx 50 (ab_getf 6 7)),
  (50, ab_nx 52 (ab_istore 4)),
  (52, ab_nx 53 (ab_aload 0)),
  (53, ab_nx 56 (ab_getf 10 5)),
  (56, ab_nx 59 (ab_callV 1 6 f_X6_ferryShore 0 0 0 0)),
  (59, ab_nx 60 (ab_iload 2)),
  (60, ab_icmp 63 67 (fun x y => decide (x = y))),
  (63, ab_nx 64 (ab_lit (.int 1))),
  (64, ab_goto 68),
  (67, ab_nx 68 (ab_lit (.int 0))),
  (68, ab_nx 70 (ab_istore 5)),
  (70, ab_nx 71 (ab_aload 0)),
  (71, ab_nx 74 (ab_getf 10 2)),
  (74, ab_nx 75 (ab_aload 0)),
  (75, ab_nx 78 (ab_getf 10 13)),
  (78, ab_nx 79 (ab_aload 0)),
  (79, ab_nx 82 (ab_getf 10 5)),
  (82, ab_nx 83 (ab_lit (.int 1))),
  (83, ab_nx 86 (ab_callV 4 1 f_X1_passDays 0 0 0 0)),
  (86, ab_nx 87 ab_pop),
  (87, ab_nx 89 (ab_iload 5)),
  (89, ab_if 92 107 (fun x => decide (x = 0))),
  (92, ab_nx 93 (ab_aload 0)),
  (93, ab_nx 96 (ab_getf 10 2)),
  (96, ab_nx 99 (ab_getf 1 0)),
  (99, ab_nx 100 (ab_iload 1)),
  (100, ab_nx 101 (ab_ald 1)),
  (101, ab_if 104 107 (fun x => decide (x ≤ 0))),
  (104, ab_nx 106 (ab_iload 4)),
  (106, ab_ret 0 0),
  (107, ab_nx 110 (ab_iinc 3 1)),
  (110, ab_goto 24),
  (113, ab_nx 114 (ab_lit (.int (-1)))),
  (114, ab_ret 0 0)]
set_option maxRecDepth 100000 in
set_option maxHeartbeats 4000000 in
theorem M_X10_comes {l : Launch} {b : ab_B} {D : va_G} {cA : Nat → ClassId} {f_X10_isSlot : List Value → ab_H → Option ab_O} (h_X10_isSlot : ab_M l b D ab_cl cA (ab_E0 b) yX10_isSlot (Cond.code yX10_isSlot cX10_isSlot 3 (some .boolean) :: ab_G) ({ frames := 2, cells := 0, slots := 0, locals := 200 } : Room) f_X10_isSlot) {f_X6_copyFrom : List Value → ab_H → Option ab_O} (h_X6_copyFrom : ab_M l b D ab_cl cA (ab_E0 b) yX6_copyFrom (Cond.code yX6_copyFrom cX6_copyFrom 2 none :: ab_G) ({ frames := 2, cells := 0, slots := 0, locals := 200 } : Room) f_X6_copyFrom) {f_X6_ferryShore : List Value → ab_H → Option ab_O} (h_X6_ferryShore : ab_M l b D ab_cl cA (ab_E0 b) yX6_ferryShore (Cond.code yX6_ferryShore cX6_ferryShore 1 (some .int) :: ab_G) ({ frames := 1, cells := 0, slots := 0, locals := 100 } : Room) f_X6_ferryShore) {f_X1_passDays : List Value → ab_H → Option ab_O} (h_X1_passDays : ab_M l b D ab_cl cA (ab_E0 b) yX1_passDays (Cond.code yX1_passDays cX1_passDays 6 (some .int) :: ab_G) ({ frames := 5, cells := 0, slots := 0, locals := 500 } : Room) f_X1_passDays) : ab_M l b D ab_cl cA (ab_E0 b) yX10_comes (Cond.code yX10_comes cX10_comes 6 (some .int) :: ab_G) ({ frames := 6, cells := 0, slots := 0, locals := 600 } : Room) (ab_X (ab_T (L_X10_comes f_X10_isSlot f_X6_copyFrom f_X6_ferryShore f_X1_passDays)) 6) := by
  refine ab_meth (ret := (some .int)) (L_X10_comes f_X10_isSlot f_X6_copyFrom f_X6_ferryShore f_X1_passDays) (by decide) rfl fun p e R s m args below meth c o C => ?_
  unfold L_X10_comes
  refine List.forall_mem_cons.mpr ⟨ok_aload_n C (show decode cX10_comes 0 = .ok (.aload_n 0, 1) by decide +kernel) rfl rfl, ?_⟩
  refine List.forall_mem_cons.mpr ⟨ok_iload_n C (show decode cX10_comes 1 = .ok (.iload_n 1, 1) by decide +kernel) rfl rfl, ?_⟩
  refine List.forall_mem_cons.mpr ⟨ok_iload_n C (show decode cX10_comes 2 = .ok (.iload_n 2, 1) by decide +kernel) rfl rfl, ?_⟩
  refine List.forall_mem_cons.mpr ⟨ok_callV C h_X10_isSlot ⟨rfl, rfl⟩ rfl kw_592 kw_589 kw_591 kp_15 kw_1 rfl ds_X10_isSlot ⟨by decide, by decide⟩ (show decode cX10_comes 3 = .ok (.invokevirtual 155, 3) by decide +kernel) rfl, ?_⟩
  refine List.forall_mem_cons.mpr ⟨ok_ifne C (show decode cX10_comes 6 = .ok (.ifCond .ne 5, 3) by decide +kernel) (tg := 11) (by decide) rfl rfl, ?_⟩
  refine List.forall_mem_cons.mpr ⟨ok_iconst C (show decode cX10_comes 9 = .ok (.iconst (-1), 1) by decide +kernel) (by decide) rfl, ?_⟩
  refine List.forall_mem_cons.mpr ⟨ok_ret C rfl (show decode cX10_comes 10 = .ok (.ireturn, 1) by decide +kernel), ?_⟩
  refine List.forall_mem_cons.mpr ⟨ok_aload_n C (show decode cX10_comes 11 = .ok (.aload_n 0, 1) by decide +kernel) rfl rfl, ?_⟩
  refine List.forall_mem_cons.mpr ⟨ok_getf C (wi_X10) rfl (by decide) kw_320 (show decode cX10_comes 12 = .ok (.getfield 44, 3) by decide +kernel) rfl, ?_⟩
  refine List.forall_mem_cons.mpr ⟨ok_aload_n C (show decode cX10_comes 15 = .ok (.aload_n 0, 1) by decide +kernel) rfl rfl, ?_⟩
  refine List.forall_mem_cons.mpr ⟨ok_getf C (wi_X10) rfl (by decide) kw_319 (show decode cX10_comes 16 = .ok (.getfield 40, 3) by decide +kernel) rfl, ?_⟩
  refine List.forall_mem_cons.mpr ⟨ok_callV C h_X6_copyFrom ⟨rfl, rfl⟩ rfl kw_724 kw_806 kw_722 kw_723 kw_6 rfl ds_X6_copyFrom ⟨by decide, by decide⟩ (show decode cX10_comes 19 = .ok (.invokevirtual 284, 3) by decide +kernel) rfl, ?_⟩
  refine List.forall_mem_cons.mpr ⟨ok_iconst C (show decode cX10_comes 22 = .ok (.iconst 0, 1) by decide +kernel) (by decide) rfl, ?_⟩
  refine List.forall_mem_cons.mpr ⟨ok_istore_n C (show decode cX10_comes 23 = .ok (.istore_n 3, 1) by decide +kernel) rfl (by decide) rfl, ?_⟩
  refine List.forall_mem_cons.mpr ⟨ok_iload_n C (show decode cX10_comes 24 = .ok (.iload_n 3, 1) by decide +kernel) rfl rfl, ?_⟩
  refine List.forall_mem_cons.mpr ⟨ok_bipush C (show decode cX10_comes 25 = .ok (.bipush 100, 2) by decide +kernel) (by decide) rfl, ?_⟩
  refine List.forall_mem_cons.mpr ⟨ok_icmpge C (show decode cX10_comes 27 = .ok (.if_icmp .ge 86, 3) by decide +kernel) (tg := 113) (by decide) rfl rfl, ?_⟩
  refine List.forall_mem_cons.mpr ⟨ok_aload_n C (show decode cX10_comes 30 = .ok (.aload_n 0, 1) by decide +kernel) rfl rfl, ?_⟩
  refine List.forall_mem_cons.mpr ⟨ok_getf C (wi_X10) rfl (by decide) kw_320 (show decode cX10_comes 31 = .ok (.getfield 44, 3) by decide +kernel) rfl, ?_⟩
  refine List.forall_mem_cons.mpr ⟨ok_getf C (wi_X6) rfl (by decide) kw_164 (show decode cX10_comes 34 = .ok (.getfield 213, 3) by decide +kernel) rfl, ?_⟩
  refine List.forall_mem_cons.mpr ⟨ok_sipush C (show decode cX10_comes 37 = .ok (.sipush 400, 3) by decide +kernel) (by decide) rfl, ?_⟩
  refine List.forall_mem_cons.mpr ⟨ok_icmpge C (show decode cX10_comes 40 = .ok (.if_icmp .ge 73, 3) by decide +kernel) (tg := 113) (by decide) rfl rfl, ?_⟩
  refine List.forall_mem_cons.mpr ⟨ok_aload_n C (show decode cX10_comes 43 = .ok (.aload_n 0, 1) by decide +kernel) rfl rfl, ?_⟩
  refine List.forall_mem_cons.mpr ⟨ok_getf C (wi_X10) rfl (by decide) kw_320 (show decode cX10_comes 44 = .ok (.getfield 44, 3) by decide +kernel) rfl, ?_⟩
  refine List.forall_mem_cons.mpr ⟨ok_getf C (wi_X6) rfl (by decide) kw_164 (show decode cX10_comes 47 = .ok (.getfield 213, 3) by decide +kernel) rfl, ?_⟩
  refine List.forall_mem_cons.mpr ⟨ok_istore C (show decode cX10_comes 50 = .ok (.istore 4, 2) by decide +kernel) (by decide) rfl, ?_⟩
  refine List.forall_mem_cons.mpr ⟨ok_aload_n C (show decode cX10_comes 52 = .ok (.aload_n 0, 1) by decide +kernel) rfl rfl, ?_⟩
  refine List.forall_mem_cons.mpr ⟨ok_getf C (wi_X10) rfl (by decide) kw_320 (show decode cX10_comes 53 = .ok (.getfield 44, 3) by decide +kernel) rfl, ?_⟩
  refine List.forall_mem_cons.mpr ⟨ok_callV C h_X6_ferryShore ⟨rfl, rfl⟩ rfl kw_644 kw_641 kw_642 kw_643 kw_6 rfl ds_X6_ferryShore ⟨by decide, by decide⟩ (show decode cX10_comes 56 = .ok (.invokevirtual 216, 3) by decide +kernel) rfl, ?_⟩
  refine List.forall_mem_cons.mpr ⟨ok_iload_n C (show decode cX10_comes 59 = .ok (.iload_n 2, 1) by decide +kernel) rfl rfl, ?_⟩
  refine List.forall_mem_cons.mpr ⟨ok_icmpeq C (show decode cX10_comes 60 = .ok (.if_icmp .eq 7, 3) by decide +kernel) (tg := 67) (by decide) rfl rfl, ?_⟩
  refine List.forall_mem_cons.mpr ⟨ok_iconst C (show decode cX10_comes 63 = .ok (.iconst 1, 1) by decide +kernel) (by decide) rfl, ?_⟩
  refine List.forall_mem_cons.mpr ⟨ok_goto C (show decode cX10_comes 64 = .ok (.goto 4, 3) by decide +kernel) (tg := 68) (by decide) rfl, ?_⟩
  refine List.forall_mem_cons.mpr ⟨ok_iconst C (show decode cX10_comes 67 = .ok (.iconst 0, 1) by decide +kernel) (by decide) rfl, ?_⟩
  refine List.forall_mem_cons.mpr ⟨ok_istore C (show decode cX10_comes 68 = .ok (.istore 5, 2) by decide +kernel) (by decide) rfl, ?_⟩
  refine List.forall_mem_cons.mpr ⟨ok_aload_n C (show decode cX10_comes 70 = .ok (.aload_n 0, 1) by decide +kernel) rfl rfl, ?_⟩
  refine List.forall_mem_cons.mpr ⟨ok_getf C (wi_X10) rfl (by decide) kw_317 (show decode cX10_comes 71 = .ok (.getfield 26, 3) by decide +kernel) rfl, ?_⟩
  refine List.forall_mem_cons.mpr ⟨ok_aload_n C (show decode cX10_comes 74 = .ok (.aload_n 0, 1) by decide +kernel) rfl rfl, ?_⟩
  refine List.forall_mem_cons.mpr ⟨ok_getf C (wi_X10) rfl (by decide) kw_328 (show decode cX10_comes 75 = .ok (.getfield 83, 3) by decide +kernel) rfl, ?_⟩
  refine List.forall_mem_cons.mpr ⟨ok_aload_n C (show decode cX10_comes 78 = .ok (.aload_n 0, 1) by decide +kernel) rfl rfl, ?_⟩
  refine List.forall_mem_cons.mpr ⟨ok_getf C (wi_X10) rfl (by decide) kw_320 (show decode cX10_comes 79 = .ok (.getfield 44, 3) by decide +kernel) rfl, ?_⟩
  refine List.forall_mem_cons.mpr ⟨ok_iconst C (show decode cX10_comes 82 = .ok (.iconst 1, 1) by decide +kernel) (by decide) rfl, ?_⟩
  refine List.forall_mem_cons.mpr ⟨ok_callV C h_X1_passDays ⟨rfl, rfl⟩ rfl kw_751 kw_748 kw_749 kw_750 kw_4 rfl ds_X1_passDays ⟨by decide, by decide⟩ (show decode cX10_comes 83 = .ok (.invokevirtual 266, 3) by decide +kernel) rfl, ?_⟩
  refine List.forall_mem_cons.mpr ⟨ok_pop C (show decode cX10_comes 86 = .ok (.pop, 1) by decide +kernel) rfl, ?_⟩
  refine List.forall_mem_cons.mpr ⟨ok_iload C (show decode cX10_comes 87 = .ok (.iload 5, 2) by decide +kernel) rfl, ?_⟩
  refine List.forall_mem_cons.mpr ⟨ok_ifeq C (show decode cX10_comes 89 = .ok (.ifCond .eq 18, 3) by decide +kernel) (tg := 107) (by decide) rfl rfl, ?_⟩
  refine List.forall_mem_cons.mpr ⟨ok_aload_n C (show decode cX10_comes 92 = .ok (.aload_n 0, 1) by decide +kernel) rfl rfl, ?_⟩
  refine List.forall_mem_cons.mpr ⟨ok_getf C (wi_X10) rfl (by decide) kw_317 (show decode cX10_comes 93 = .ok (.getfield 26, 3) by decide +kernel) rfl, ?_⟩
  refine List.forall_mem_cons.mpr ⟨ok_getf C (wi_X1) rfl (by decide) kw_106 (show decode cX10_comes 96 = .ok (.getfield 281, 3) by decide +kernel) rfl, ?_⟩
  refine List.forall_mem_cons.mpr ⟨ok_iload_n C (show decode cX10_comes 99 = .ok (.iload_n 1, 1) by decide +kernel) rfl rfl, ?_⟩
  refine List.forall_mem_cons.mpr ⟨ok_iaload C (show decode cX10_comes 100 = .ok (.iaload, 1) by decide +kernel) rfl, ?_⟩
  refine List.forall_mem_cons.mpr ⟨ok_ifle C (show decode cX10_comes 101 = .ok (.ifCond .le 6, 3) by decide +kernel) (tg := 107) (by decide) rfl rfl, ?_⟩
  refine List.forall_mem_cons.mpr ⟨ok_iload C (show decode cX10_comes 104 = .ok (.iload 4, 2) by decide +kernel) rfl, ?_⟩
  refine List.forall_mem_cons.mpr ⟨ok_ret C rfl (show decode cX10_comes 106 = .ok (.ireturn, 1) by decide +kernel), ?_⟩
  refine List.forall_mem_cons.mpr ⟨ok_iinc C (show decode cX10_comes 107 = .ok (.iinc 3 1, 3) by decide +kernel) (by decide) (by decide) rfl, ?_⟩
  refine List.forall_mem_cons.mpr ⟨ok_goto C (show decode cX10_comes 110 = .ok (.goto (-86), 3) by decide +kernel) (tg := 24) (by decide) rfl, ?_⟩
  refine List.forall_mem_cons.mpr ⟨ok_iconst C (show decode cX10_comes 113 = .ok (.iconst (-1), 1) by decide +kernel) (by decide) rfl, ?_⟩
  refine List.forall_mem_cons.mpr ⟨ok_ret C rfl (show decode cX10_comes 114 = .ok (.ireturn, 1) by decide +kernel), ?_⟩
  exact fun _ h => absurd h List.not_mem_nil
def L_X10_foreseeRoom (f_X6_copyFrom : List Value → ab_H → Option ab_O) (f_X1_passDays : List Value → ab_H → Option ab_O) : List (Nat × ab_A) := [
  (0, ab_nx 1 (ab_aload 0)),
  (1, ab_nx 4 (ab_getf 10 5)),
  (4, ab_nx 5 (ab_aload 0)),
  (5, ab_nx 8 (ab_getf 10 4)),
  (8, ab_nx 11 (ab_callV 2 6 f_X6_copyFrom 0 0 0 0)),
  (11, ab_nx 12 (ab_lit (.int 0))),
  (12, ab_nx 13 (ab_istore 3)),
  (13, ab_nx 14 (ab_lit (.int 0))),
  (14, ab_nx 16 (ab_istore 4)),
  (16, ab_nx 18 (ab_iload 4)),
  (18, ab_nx 19 (ab_iload 2)),
  (19, ab_icmp 22 84 (fun x y => decide (y ≤ x))),
  (22, ab_nx 24 (ab_iload 4)),
  (24, ab_nx 26 (ab_lit (.int 60))),
  (26, ab_icmp 29 84 (fun x y => decide (y ≤ x))),
  (29, ab_nx 30 (ab_aload 0)),
  (30, ab_nx 33 (ab_getf 10 5)),
  (33, ab_nx 36 (ab_getf 6 7)),
  (36, ab_nx 39 (ab_lit (.int 400))),
  (39, ab_icmp 42 84 (fun x y => decide (y ≤ x))),
  (42, ab_nx 43 (ab_aload 0)),
  (43, ab_nx 46 (ab_getf 10 2)),
  (46, ab_nx 47 (ab_aload 0)),
  (47, ab_nx 50 (ab_getf 10 13)),
  (50, ab_nx 51 (ab_aload 0)),
  (51, ab_nx 54 (ab_getf 10 5)),
  (54, ab_nx 55 (ab_lit (.int 1))),
  (55, ab_nx 58 (ab_callV 4 1 f_X1_passDays 0 0 0 0)),
  (58, ab_nx 59 ab_pop),
  (59, ab_nx 60 (ab_aload 0)),
  (60, ab_nx 63 (ab_getf 10 11)),
  (63, ab_nx 65 (ab_iload 4)),
  (65, ab_nx 66 (ab_aload 0)),
  (66, ab_nx 69 (ab_getf 10 2)),
  (69, ab_nx 72 (ab_getf 1 1)),
  (72, ab_nx 73 (ab_iload 1)),
  (73, ab_nx 74 (ab_ald 1)),
  (74, ab_nx 75 (ab_ast 1)),
  (75, ab_nx 78 (ab_iinc 3 1)),
  (78, ab_nx 81 (ab_iinc 4 1)),
  (81, ab_goto 16),
  (84, ab_nx 85 (ab_iload 3)),
  (85, ab_ret 0 0)]
set_option maxRecDepth 100000 in
set_option maxHeartbeats 4000000 in
theorem M_X10_foreseeRoom {l : Launch} {b : ab_B} {D : va_G} {cA : Nat → ClassId} {f_X6_copyFrom : List Value → ab_H → Option ab_O} (h_X6_copyFrom : ab_M l b D ab_cl cA (ab_E0 b) yX6_copyFrom (Cond.code yX6_copyFrom cX6_copyFrom 2 none :: ab_G) ({ frames := 2, cells := 0, slots := 0, locals := 200 } : Room) f_X6_copyFrom) {f_X1_passDays : List Value → ab_H → Option ab_O} (h_X1_passDays : ab_M l b D ab_cl cA (ab_E0 b) yX1_passDays (Cond.code yX1_passDays cX1_passDays 6 (some .int) :: ab_G) ({ frames := 5, cells := 0, slots := 0, locals := 500 } : Room) f_X1_passDays) : ab_M l b D ab_cl cA (ab_E0 b) yX10_foreseeRoom (Cond.code yX10_foreseeRoom cX10_foreseeRoom 5 (some .int) :: ab_G) ({ frames := 6, cells := 0, slots := 0, locals := 600 } : Room) (ab_X (ab_T (L_X10_foreseeRoom f_X6_copyFrom f_X1_passDays)) 5) := by
  refine ab_meth (ret := (some .int)) (L_X10_foreseeRoom f_X6_copyFrom f_X1_passDays) (by decide) rfl fun p e R s m args below meth c o C => ?_
  unfold L_X10_foreseeRoom
  refine List.forall_mem_cons.mpr ⟨ok_aload_n C (show decode cX10_foreseeRoom 0 = .ok (.aload_n 0, 1) by decide +kernel) rfl rfl, ?_⟩
  refine List.forall_mem_cons.mpr ⟨ok_getf C (wi_X10) rfl (by decide) kw_320 (show decode cX10_foreseeRoom 1 = .ok (.getfield 44, 3) by decide +kernel) rfl, ?_⟩
  refine List.forall_mem_cons.mpr ⟨ok_aload_n C (show decode cX10_foreseeRoom 4 = .ok (.aload_n 0, 1) by decide +kernel) rfl rfl, ?_⟩
  refine List.forall_mem_cons.mpr ⟨ok_getf C (wi_X10) rfl (by decide) kw_319 (show decode cX10_foreseeRoom 5 = .ok (.getfield 40, 3) by decide +kernel) rfl, ?_⟩
  refine List.forall_mem_cons.mpr ⟨ok_callV C h_X6_copyFrom ⟨rfl, rfl⟩ rfl kw_724 kw_806 kw_722 kw_723 kw_6 rfl ds_X6_copyFrom ⟨by decide, by decide⟩ (show decode cX10_foreseeRoom 8 = .ok (.invokevirtual 284, 3) by decide +kernel) rfl, ?_⟩
  refine List.forall_mem_cons.mpr ⟨ok_iconst C (show decode cX10_foreseeRoom 11 = .ok (.iconst 0, 1) by decide +kernel) (by decide) rfl, ?_⟩
  refine List.forall_mem_cons.mpr ⟨ok_istore_n C (show decode cX10_foreseeRoom 12 = .ok (.istore_n 3, 1) by decide +kernel) rfl (by decide) rfl, ?_⟩
  refine List.forall_mem_cons.mpr ⟨ok_iconst C (show decode cX10_foreseeRoom 13 = .ok (.iconst 0, 1) by decide +kernel) (by decide) rfl, ?_⟩
  refine List.forall_mem_cons.mpr ⟨ok_istore C (show decode cX10_foreseeRoom 14 = .ok (.istore 4, 2) by decide +kernel) (by decide) rfl, ?_⟩
  refine List.forall_mem_cons.mpr ⟨ok_iload C (show decode cX10_foreseeRoom 16 = .ok (.iload 4, 2) by decide +kernel) rfl, ?_⟩
  refine List.forall_mem_cons.mpr ⟨ok_iload_n C (show decode cX10_foreseeRoom 18 = .ok (.iload_n 2, 1) by decide +kernel) rfl rfl, ?_⟩
  refine List.forall_mem_cons.mpr ⟨ok_icmpge C (show decode cX10_foreseeRoom 19 = .ok (.if_icmp .ge 65, 3) by decide +kernel) (tg := 84) (by decide) rfl rfl, ?_⟩
  refine List.forall_mem_cons.mpr ⟨ok_iload C (show decode cX10_foreseeRoom 22 = .ok (.iload 4, 2) by decide +kernel) rfl, ?_⟩
  refine List.forall_mem_cons.mpr ⟨ok_bipush C (show decode cX10_foreseeRoom 24 = .ok (.bipush 60, 2) by decide +kernel) (by decide) rfl, ?_⟩
  refine List.forall_mem_cons.mpr ⟨ok_icmpge C (show decode cX10_foreseeRoom 26 = .ok (.if_icmp .ge 58, 3) by decide +kernel) (tg := 84) (by decide) rfl rfl, ?_⟩
  refine List.forall_mem_cons.mpr ⟨ok_aload_n C (show decode cX10_foreseeRoom 29 = .ok (.aload_n 0, 1) by decide +kernel) rfl rfl, ?_⟩
  refine List.forall_mem_cons.mpr ⟨ok_getf C (wi_X10) rfl (by decide) kw_320 (show decode cX10_foreseeRoom 30 = .ok (.getfield 44, 3) by decide +kernel) rfl, ?_⟩
  refine List.forall_mem_cons.mpr ⟨ok_getf C (wi_X6) rfl (by decide) kw_164 (show decode cX10_foreseeRoom 33 = .ok (.getfield 213, 3) by decide +kernel) rfl, ?_⟩
  refine List.forall_mem_cons.mpr ⟨ok_sipush C (show decode cX10_foreseeRoom 36 = .ok (.sipush 400, 3) by decide +kernel) (by decide) rfl, ?_⟩
  refine List.forall_mem_cons.mpr ⟨ok_icmpge C (show decode cX10_foreseeRoom 39 = .ok (.if_icmp .ge 45, 3) by decide +kernel) (tg := 84) (by decide) rfl rfl, ?_⟩
  refine List.forall_mem_cons.mpr ⟨ok_aload_n C (show decode cX10_foreseeRoom 42 = .ok (.aload_n 0, 1) by decide +kernel) rfl rfl, ?_⟩
  refine List.forall_mem_cons.mpr ⟨ok_getf C (wi_X10) rfl (by decide) kw_317 (show decode cX10_foreseeRoom 43 = .ok (.getfield 26, 3) by decide +kernel) rfl, ?_⟩
  refine List.forall_mem_cons.mpr ⟨ok_aload_n C (show decode cX10_foreseeRoom 46 = .ok (.aload_n 0, 1) by decide +kernel) rfl rfl, ?_⟩
  refine List.forall_mem_cons.mpr ⟨ok_getf C (wi_X10) rfl (by decide) kw_328 (show decode cX10_foreseeRoom 47 = .ok (.getfield 83, 3) by decide +kernel) rfl, ?_⟩
  refine List.forall_mem_cons.mpr ⟨ok_aload_n C (show decode cX10_foreseeRoom 50 = .ok (.aload_n 0, 1) by decide +kernel) rfl rfl, ?_⟩
  refine List.forall_mem_cons.mpr ⟨ok_getf C (wi_X10) rfl (by decide) kw_320 (show decode cX10_foreseeRoom 51 = .ok (.getfield 44, 3) by decide +kernel) rfl, ?_⟩
  refine List.forall_mem_cons.mpr ⟨ok_iconst C (show decode cX10_foreseeRoom 54 = .ok (.iconst 1, 1) by decide +kernel) (by decide) rfl, ?_⟩
  refine List.forall_mem_cons.mpr ⟨ok_callV C h_X1_passDays ⟨rfl, rfl⟩ rfl kw_751 kw_748 kw_749 kw_750 kw_4 rfl ds_X1_passDays ⟨by decide, by decide⟩ (show decode cX10_foreseeRoom 55 = .ok (.invokevirtual 266, 3) by decide +kernel) rfl, ?_⟩
  refine List.forall_mem_cons.mpr ⟨ok_pop C (show decode cX10_foreseeRoom 58 = .ok (.pop, 1) by decide +kernel) rfl, ?_⟩
  refine List.forall_mem_cons.mpr ⟨ok_aload_n C (show decode cX10_foreseeRoom 59 = .ok (.aload_n 0, 1) by decide +kernel) rfl rfl, ?_⟩
  refine List.forall_mem_cons.mpr ⟨ok_getf C (wi_X10) rfl (by decide) kw_326 (show decode cX10_foreseeRoom 60 = .ok (.getfield 74, 3) by decide +kernel) rfl, ?_⟩
  refine List.forall_mem_cons.mpr ⟨ok_iload C (show decode cX10_foreseeRoom 63 = .ok (.iload 4, 2) by decide +kernel) rfl, ?_⟩
  refine List.forall_mem_cons.mpr ⟨ok_aload_n C (show decode cX10_foreseeRoom 65 = .ok (.aload_n 0, 1) by decide +kernel) rfl rfl, ?_⟩
  refine List.forall_mem_cons.mpr ⟨ok_getf C (wi_X10) rfl (by decide) kw_317 (show decode cX10_foreseeRoom 66 = .ok (.getfield 26, 3) by decide +kernel) rfl, ?_⟩
  refine List.forall_mem_cons.mpr ⟨ok_getf C (wi_X1) rfl (by decide) kw_108 (show decode cX10_foreseeRoom 69 = .ok (.getfield 296, 3) by decide +kernel) rfl, ?_⟩
  refine List.forall_mem_cons.mpr ⟨ok_iload_n C (show decode cX10_foreseeRoom 72 = .ok (.iload_n 1, 1) by decide +kernel) rfl rfl, ?_⟩
  refine List.forall_mem_cons.mpr ⟨ok_iaload C (show decode cX10_foreseeRoom 73 = .ok (.iaload, 1) by decide +kernel) rfl, ?_⟩
  refine List.forall_mem_cons.mpr ⟨ok_iastore C (show decode cX10_foreseeRoom 74 = .ok (.iastore, 1) by decide +kernel) rfl, ?_⟩
  refine List.forall_mem_cons.mpr ⟨ok_iinc C (show decode cX10_foreseeRoom 75 = .ok (.iinc 3 1, 3) by decide +kernel) (by decide) (by decide) rfl, ?_⟩
  refine List.forall_mem_cons.mpr ⟨ok_iinc C (show decode cX10_foreseeRoom 78 = .ok (.iinc 4 1, 3) by decide +kernel) (by decide) (by decide) rfl, ?_⟩
  refine List.forall_mem_cons.mpr ⟨ok_goto C (show decode cX10_foreseeRoom 81 = .ok (.goto (-65), 3) by decide +kernel) (tg := 16) (by decide) rfl, ?_⟩
  refine List.forall_mem_cons.mpr ⟨ok_iload_n C (show decode cX10_foreseeRoom 84 = .ok (.iload_n 3, 1) by decide +kernel) rfl rfl, ?_⟩
  refine List.forall_mem_cons.mpr ⟨ok_ret C rfl (show decode cX10_foreseeRoom 85 = .ok (.ireturn, 1) by decide +kernel), ?_⟩
  exact fun _ h => absurd h List.not_mem_nil
def L_X10_roomTowards : List (Nat × ab_A) := [
  (0, ab_nx 1 (ab_lit (.int 0))),
  (1, ab_nx 2 (ab_istore 3)),
  (2, ab_nx 3 (ab_lit (.int 0))),
  (3, ab_nx 5 (ab_istore 4)),
  (5, ab_nx 7 (ab_iload 4)),
  (7, ab_nx 8 (ab_iload 2)),
  (8, ab_icmp 11 50 (fun x y => decide (y ≤ x))),
  (11, ab_nx 13 (ab_iload 4)),
  (13, ab_nx 15 (ab_lit (.int 60))),
  (15, ab_icmp 18 50 (fun x y => decide (y ≤ x))),
  (18, ab_nx 19 (ab_aload 0)),
  (19, ab_nx 22 (ab_getf 10 4)),
  (22, ab_nx 25 (ab_getf 6 7)),
  (25, ab_nx 27 (ab_iload 4)),
  (27, ab_nx 28 (ab_bin (fun x y => x + y))),
  (28, ab_nx 29 (ab_lit (.int 2))),
  (29, ab_nx 30 ab_irem),
  (30, ab_nx 31 (ab_iload 1)),
  (31, ab_icmp 34 44 (fun x y => decide (x = y))),
  (34, ab_nx 35 (ab_iload 3)),
  (35, ab_nx 36 (ab_aload 0)),
  (36, ab_nx 39 (ab_getf 10 11)),
  (39, ab_nx 41 (ab_iload 4)),
  (41, ab_nx 42 (ab_ald 1)),
  (42, ab_nx 43 (ab_bin (fun x y => x + y))),
  (43, ab_nx 44 (ab_istore 3)),
  (44, ab_nx 47 (ab_iinc 4 1)),
  (47, ab_goto 5),
  (50, ab_nx 51 (ab_iload 3)),
  (51, ab_ret 0 0)]
set_option maxRecDepth 100000 in
set_option maxHeartbeats 4000000 in
theorem M_X10_roomTowards {l : Launch} {b : ab_B} {D : va_G} {cA : Nat → ClassId} : ab_M l b D ab_cl cA (ab_E0 b) yX10_roomTowards (Cond.code yX10_roomTowards cX10_roomTowards 5 (some .int) :: ab_G) ({ frames := 1, cells := 0, slots := 0, locals := 100 } : Room) (ab_X (ab_T L_X10_roomTowards) 5) := by
  refine ab_meth (ret := (some .int)) L_X10_roomTowards (by decide) rfl fun p e R s m args below meth c o C => ?_
  unfold L_X10_roomTowards
  refine List.forall_mem_cons.mpr ⟨ok_iconst C (show decode cX10_roomTowards 0 = .ok (.iconst 0, 1) by decide +kernel) (by decide) rfl, ?_⟩
  refine List.forall_mem_cons.mpr ⟨ok_istore_n C (show decode cX10_roomTowards 1 = .ok (.istore_n 3, 1) by decide +kernel) rfl (by decide) rfl, ?_⟩
  refine List.forall_mem_cons.mpr ⟨ok_iconst C (show decode cX10_roomTowards 2 = .ok (.iconst 0, 1) by decide +kernel) (by decide) rfl, ?_⟩
  refine List.forall_mem_cons.mpr ⟨ok_istore C (show decode cX10_roomTowards 3 = .ok (.istore 4, 2) by decide +kernel) (by decide) rfl, ?_⟩
  refine List.forall_mem_cons.mpr ⟨ok_iload C (show decode cX10_roomTowards 5 = .ok (.iload 4, 2) by decide +kernel) rfl, ?_⟩
  refine List.forall_mem_cons.mpr ⟨ok_iload_n C (show decode cX10_roomTowards 7 = .ok (.iload_n 2, 1) by decide +kernel) rfl rfl, ?_⟩
  refine List.forall_mem_cons.mpr ⟨ok_icmpge C (show decode cX10_roomTowards 8 = .ok (.if_icmp .ge 42, 3) by decide +kernel) (tg := 50) (by decide) rfl rfl, ?_⟩
  refine List.forall_mem_cons.mpr ⟨ok_iload C (show decode cX10_roomTowards 11 = .ok (.iload 4, 2) by decide +kernel) rfl, ?_⟩
  refine List.forall_mem_cons.mpr ⟨ok_bipush C (show decode cX10_roomTowards 13 = .ok (.bipush 60, 2) by decide +kernel) (by decide) rfl, ?_⟩
  refine List.forall_mem_cons.mpr ⟨ok_icmpge C (show decode cX10_roomTowards 15 = .ok (.if_icmp .ge 35, 3) by decide +kernel) (tg := 50) (by decide) rfl rfl, ?_⟩
  refine List.forall_mem_cons.mpr ⟨ok_aload_n C (show decode cX10_roomTowards 18 = .ok (.aload_n 0, 1) by decide +kernel) rfl rfl, ?_⟩
  refine List.forall_mem_cons.mpr ⟨ok_getf C (wi_X10) rfl (by decide) kw_319 (show decode cX10_roomTowards 19 = .ok (.getfield 40, 3) by decide +kernel) rfl, ?_⟩
  refine List.forall_mem_cons.mpr ⟨ok_getf C (wi_X6) rfl (by decide) kw_164 (show decode cX10_roomTowards 22 = .ok (.getfield 213, 3) by decide +kernel) rfl, ?_⟩
  refine List.forall_mem_cons.mpr ⟨ok_iload C (show decode cX10_roomTowards 25 = .ok (.iload 4, 2) by decide +kernel) rfl, ?_⟩
  refine List.forall_mem_cons.mpr ⟨ok_iadd C (show decode cX10_roomTowards 27 = .ok (.iadd, 1) by decide +kernel) rfl, ?_⟩
  refine List.forall_mem_cons.mpr ⟨ok_iconst C (show decode cX10_roomTowards 28 = .ok (.iconst 2, 1) by decide +kernel) (by decide) rfl, ?_⟩
  refine List.forall_mem_cons.mpr ⟨ok_irem C (show decode cX10_roomTowards 29 = .ok (.irem, 1) by decide +kernel) rfl, ?_⟩
  refine List.forall_mem_cons.mpr ⟨ok_iload_n C (show decode cX10_roomTowards 30 = .ok (.iload_n 1, 1) by decide +kernel) rfl rfl, ?_⟩
  refine List.forall_mem_cons.mpr ⟨ok_icmpeq C (show decode cX10_roomTowards 31 = .ok (.if_icmp .eq 13, 3) by decide +kernel) (tg := 44) (by decide) rfl rfl, ?_⟩
  refine List.forall_mem_cons.mpr ⟨ok_iload_n C (show decode cX10_roomTowards 34 = .ok (.iload_n 3, 1) by decide +kernel) rfl rfl, ?_⟩
  refine List.forall_mem_cons.mpr ⟨ok_aload_n C (show decode cX10_roomTowards 35 = .ok (.aload_n 0, 1) by decide +kernel) rfl rfl, ?_⟩
  refine List.forall_mem_cons.mpr ⟨ok_getf C (wi_X10) rfl (by decide) kw_326 (show decode cX10_roomTowards 36 = .ok (.getfield 74, 3) by decide +kernel) rfl, ?_⟩
  refine List.forall_mem_cons.mpr ⟨ok_iload C (show decode cX10_roomTowards 39 = .ok (.iload 4, 2) by decide +kernel) rfl, ?_⟩
  refine List.forall_mem_cons.mpr ⟨ok_iaload C (show decode cX10_roomTowards 41 = .ok (.iaload, 1) by decide +kernel) rfl, ?_⟩
  refine List.forall_mem_cons.mpr ⟨ok_iadd C (show decode cX10_roomTowards 42 = .ok (.iadd, 1) by decide +kernel) rfl, ?_⟩
  refine List.forall_mem_cons.mpr ⟨ok_istore_n C (show decode cX10_roomTowards 43 = .ok (.istore_n 3, 1) by decide +kernel) rfl (by decide) rfl, ?_⟩
  refine List.forall_mem_cons.mpr ⟨ok_iinc C (show decode cX10_roomTowards 44 = .ok (.iinc 4 1, 3) by decide +kernel) (by decide) (by decide) rfl, ?_⟩
  refine List.forall_mem_cons.mpr ⟨ok_goto C (show decode cX10_roomTowards 47 = .ok (.goto (-42), 3) by decide +kernel) (tg := 5) (by decide) rfl, ?_⟩
  refine List.forall_mem_cons.mpr ⟨ok_iload_n C (show decode cX10_roomTowards 50 = .ok (.iload_n 3, 1) by decide +kernel) rfl rfl, ?_⟩
  refine List.forall_mem_cons.mpr ⟨ok_ret C rfl (show decode cX10_roomTowards 51 = .ok (.ireturn, 1) by decide +kernel), ?_⟩
  exact fun _ h => absurd h List.not_mem_nil
def L_X10_wouldCome (f_X10_slotOf : List Value → ab_H → Option ab_O) (f_X7_amountOf : List Value → ab_H → Option ab_O) (f_X1_amountMoved : List Value → ab_H → Option ab_O) (f_X7_stockAfter : List Value → ab_H → Option ab_O) : List (Nat × ab_A) := [
  (0, ab_nx 1 (ab_iload 1)),
  (1, ab_nx 2 (ab_iload 2)),
  (2, ab_nx 5 (ab_call 2 f_X10_slotOf 0 0 0 0)),
  (5, ab_nx 7 (ab_istore 5)),
  (7, ab_nx 8 (ab_iload 1)),
  (8, ab_nx 9 (ab_lit (.int 1))),
  (9, ab_nx 10 (ab_iload 2)),
  (10, ab_nx 11 (ab_bin (fun x y => x - y))),
  (11, ab_nx 14 (ab_call 2 f_X10_slotOf 0 0 0 0)),
  (14, ab_nx 16 (ab_istore 6)),
  (16, ab_nx 17 (ab_aload 0)),
  (17, ab_nx 20 (ab_getf 10 13)),
  (20, ab_nx 21 (ab_lit (.int 1))),
  (21, ab_nx 23 (ab_iload 5)),
  (23, ab_nx 26 (ab_callV 3 7 f_X7_amountOf 0 0 0 0)),
  (26, ab_nx 28 (ab_istore 7)),
  (28, ab_nx 29 (ab_aload 0)),
  (29, ab_nx 32 (ab_getf 10 13)),
  (32, ab_nx 33 (ab_lit (.int 1))),
  (33, ab_nx 35 (ab_iload 6)),
  (35, ab_nx 38 (ab_callV 3 7 f_X7_amountOf 0 0 0 0)),
  (38, ab_nx 40 (ab_istore 8)),
  (40, ab_nx 41 (ab_aload 0)),
  (41, ab_nx 44 (ab_getf 10 4)),
  (44, ab_nx 47 (ab_getf 6 0)),
  (47, ab_nx 49 (ab_iload 5)),
  (49, ab_nx 50 (ab_ald 1)),
  (50, ab_nx 51 (ab_iload 3)),
  (51, ab_nx 52 (ab_bin (fun x y => x - y))),
  (52, ab_nx 54 (ab_istore 9)),
  (54, ab_nx 55 (ab_aload 0)),
  (55, ab_nx 58 (ab_getf 10 4)),
  (58, ab_nx 61 (ab_getf 6 0)),
  (61, ab_nx 63 (ab_iload 6)),
  (63, ab_nx 64 (ab_ald 1)),
  (64, ab_nx 66 (ab_istore 10)),
  (66, ab_nx 67 (ab_lit (.int 0))),
  (67, ab_nx 69 (ab_istore 11)),
  (69, ab_nx 70 (ab_lit (.int 0))),
  (70, ab_nx 72 (ab_istore 12)),
  (72, ab_nx 74 (ab_iload 12)),
  (74, ab_nx 76 (ab_iload 4)),
  (76, ab_icmp 79 210 (fun x y => decide (y ≤ x))),
  (79, ab_nx 81 (ab_iload 12)),
  (81, ab_nx 83 (ab_lit (.int 60))),
  (83, ab_icmp 86 210 (fun x y => decide (y ≤ x))),
  (86, ab_nx 87 (ab_aload 0)),
  (87, ab_nx 90 (ab_getf 10 4)),
  (90, ab_nx 93 (ab_getf 6 7)),
  (93, ab_nx 95 (ab_iload 12)),
  (95, ab_nx 96 (ab_bin (fun x y => x + y))),
  (96, ab_nx 97 (ab_lit (.int 2))),
  (97, ab_nx 98 ab_irem),
  (98, ab_nx 99 (ab_iload 2)),
  (99, ab_icmp 102 138 (fun x y => !decide (x = y))),
  (102, ab_nx 104 (ab_iload 9)),
  (104, ab_nx 106 (ab_iload 8)),
  (106, ab_nx 108 (ab_iload 10)),
  (108, ab_nx 109 (ab_bin (fun x y => x - y))),
  (109, ab_nx 110 (ab_aload 0)),
  (110, ab_nx 113 (ab_getf 10 11)),
  (113, ab_nx 115 (ab_iload 12)),
  (115, ab_nx 116 (ab_ald 1)),
  (116, ab_nx 119 (ab_call 3 f_X1_amountMoved 0 0 0 0)),
  (119, ab_nx 121 (ab_istore 13)),
  (121, ab_nx 123 (ab_iload 9)),
  (123, ab_nx 125 (ab_iload 13)),
  (125, ab_nx 126 (ab_bin (fun x y => x - y))),
  (126, ab_nx 128 (ab_istore 9)),
  (128, ab_nx 130 (ab_iload 10)),
  (130, ab_nx 132 (ab_iload 13)),
  (132, ab_nx 133 (ab_bin (fun x y => x + y))),
  (133, ab_nx 135 (ab_istore 10)),
  (135, ab_goto 178),
  (138, ab_nx 140 (ab_iload 10)),
  (140, ab_nx 142 (ab_iload 7)),
  (142, ab_nx 144 (ab_iload 9)),
  (144, ab_nx 145 (ab_bin (fun x y => x - y))),
  (145, ab_nx 146 (ab_aload 0)),
  (146, ab_nx 149 (ab_getf 10 11)),
  (149, ab_nx 151 (ab_iload 12)),
  (151, ab_nx 152 (ab_ald 1)),
  (152, ab_nx 155 (ab_call 3 f_X1_amountMoved 0 0 0 0)),
  (155, ab_nx 157 (ab_istore 13)),
  (157, ab_nx 159 (ab_iload 9)),
  (159, ab_nx 161 (ab_iload 13)),
  (161, ab_nx 162 (ab_bin (fun x y => x + y))),
  (162, ab_nx 164 (ab_istore 9)),
  (164, ab_nx 166 (ab_iload 10)),
  (166, ab_nx 168 (ab_iload 13)),
  (168, ab_nx 169 (ab_bin (fun x y => x - y))),
  (169, ab_nx 171 (ab_istore 10)),
  (171, ab_nx 173 (ab_iload 11)),
  (173, ab_nx 175 (ab_iload 13)),
  (175, ab_nx 176 (ab_bin (fun x y => x + y))),
  (176, ab_nx 178 (ab_istore 11)),
  (178, ab_nx 179 (ab_aload 0)),
  (179, ab_nx 182 (ab_getf 10 13)),
  (182, ab_nx 184 (ab_iload 5)),
  (184, ab_nx 186 (ab_iload 9)),
  (186, ab_nx 189 (ab_callV 3 7 f_X7_stockAfter 0 0 0 0)),
  (189, ab_nx 191 (ab_istore 9)),
  (191, ab_nx 192 (ab_aload 0)),
  (192, ab_nx 195 (ab_getf 10 13)),
  (195, ab_nx 197 (ab_iload 6)),
  (197, ab_nx 199 (ab_iload 10)),
  (199, ab_nx 202 (ab_callV 3 7 f_X7_stockAfter 0 0 0 0)),
  (202, ab_nx 204 (ab_istore 10)),
  (204, ab_nx 207 (ab_iinc 12 1)),
  (207, ab_goto 72),
  (210, ab_nx 212 (ab_iload 11)),
  (212, ab_ret 0 0)]
set_option maxRecDepth 100000 in
set_option maxHeartbeats 4000000 in
theorem M_X10_wouldCome {l : Launch} {b : ab_B} {D : va_G} {cA : Nat → ClassId} {f_X10_slotOf : List Value → ab_H → Option ab_O} (h_X10_slotOf : ab_M l b D ab_cl cA (ab_E0 b) yX10_slotOf (Cond.code yX10_slotOf cX10_slotOf 2 (some .int) :: ab_G) ({ frames := 1, cells := 0, slots := 0, locals := 100 } : Room) f_X10_slotOf) {f_X7_amountOf : List Value → ab_H → Option ab_O} (h_X7_amountOf : ab_M l b D ab_cl cA (ab_E0 b) yX7_amountOf (Cond.code yX7_amountOf cX7_amountOf 3 (some .int) :: ab_G) ({ frames := 1, cells := 0, slots := 0, locals := 100 } : Room) f_X7_amountOf) {f_X1_amountMoved : List Value → ab_H → Option ab_O} (h_X1_amountMoved : ab_M l b D ab_cl cA (ab_E0 b) yX1_amountMoved (Cond.code yX1_amountMoved cX1_amountMoved 3 (some .int) :: ab_G) ({ frames := 2, cells := 0, slots := 0, locals := 200 } : Room) f_X1_amountMoved) {f_X7_stockAfter : List Value → ab_H → Option ab_O} (h_X7_stockAfter : ab_M l b D ab_cl cA (ab_E0 b) yX7_stockAfter (Cond.code yX7_stockAfter cX7_stockAfter 3 (some .int) :: ab_G) ({ frames := 3, cells := 0, slots := 0, locals := 300 } : Room) f_X7_stockAfter) : ab_M l b D ab_cl cA (ab_E0 b) yX10_wouldCome (Cond.code yX10_wouldCome cX10_wouldCome 14 (some .int) :: ab_G) ({ frames := 4, cells := 0, slots := 0, locals := 400 } : Room) (ab_X (ab_T (L_X10_wouldCome f_X10_slotOf f_X7_amountOf f_X1_amountMoved f_X7_stockAfter)) 14) := by
  refine ab_meth (ret := (some .int)) (L_X10_wouldCome f_X10_slotOf f_X7_amountOf f_X1_amountMoved f_X7_stockAfter) (by decide) rfl fun p e R s m args below meth c o C => ?_
  unfold L_X10_wouldCome
  refine List.forall_mem_cons.mpr ⟨ok_iload_n C (show decode cX10_wouldCome 0 = .ok (.iload_n 1, 1) by decide +kernel) rfl rfl, ?_⟩
  refine List.forall_mem_cons.mpr ⟨ok_iload_n C (show decode cX10_wouldCome 1 = .ok (.iload_n 2, 1) by decide +kernel) rfl rfl, ?_⟩
  refine List.forall_mem_cons.mpr ⟨ok_callS C h_X10_slotOf ⟨rfl, rfl⟩ kw_532 kw_600 kw_531 kw_1 ds_X10_slotOf ⟨by decide, by decide⟩ (show decode cX10_wouldCome 2 = .ok (.invokestatic 159, 3) by decide +kernel) rfl, ?_⟩
  refine List.forall_mem_cons.mpr ⟨ok_istore C (show decode cX10_wouldCome 5 = .ok (.istore 5, 2) by decide +kernel) (by decide) rfl, ?_⟩
  refine List.forall_mem_cons.mpr ⟨ok_iload_n C (show decode cX10_wouldCome 7 = .ok (.iload_n 1, 1) by decide +kernel) rfl rfl, ?_⟩
  refine List.forall_mem_cons.mpr ⟨ok_iconst C (show decode cX10_wouldCome 8 = .ok (.iconst 1, 1) by decide +kernel) (by decide) rfl, ?_⟩
  refine List.forall_mem_cons.mpr ⟨ok_iload_n C (show decode cX10_wouldCome 9 = .ok (.iload_n 2, 1) by decide +kernel) rfl rfl, ?_⟩
  refine List.forall_mem_cons.mpr ⟨ok_isub C (show decode cX10_wouldCome 10 = .ok (.isub, 1) by decide +kernel) rfl, ?_⟩
  refine List.forall_mem_cons.mpr ⟨ok_callS C h_X10_slotOf ⟨rfl, rfl⟩ kw_532 kw_600 kw_531 kw_1 ds_X10_slotOf ⟨by decide, by decide⟩ (show decode cX10_wouldCome 11 = .ok (.invokestatic 159, 3) by decide +kernel) rfl, ?_⟩
  refine List.forall_mem_cons.mpr ⟨ok_istore C (show decode cX10_wouldCome 14 = .ok (.istore 6, 2) by decide +kernel) (by decide) rfl, ?_⟩
  refine List.forall_mem_cons.mpr ⟨ok_aload_n C (show decode cX10_wouldCome 16 = .ok (.aload_n 0, 1) by decide +kernel) rfl rfl, ?_⟩
  refine List.forall_mem_cons.mpr ⟨ok_getf C (wi_X10) rfl (by decide) kw_328 (show decode cX10_wouldCome 17 = .ok (.getfield 83, 3) by decide +kernel) rfl, ?_⟩
  refine List.forall_mem_cons.mpr ⟨ok_iconst C (show decode cX10_wouldCome 20 = .ok (.iconst 1, 1) by decide +kernel) (by decide) rfl, ?_⟩
  refine List.forall_mem_cons.mpr ⟨ok_iload C (show decode cX10_wouldCome 21 = .ok (.iload 5, 2) by decide +kernel) rfl, ?_⟩
  refine List.forall_mem_cons.mpr ⟨ok_callV C h_X7_amountOf ⟨rfl, rfl⟩ rfl kw_576 kw_601 kw_574 kw_575 kw_9 rfl ds_X7_amountOf ⟨by decide, by decide⟩ (show decode cX10_wouldCome 23 = .ok (.invokevirtual 169, 3) by decide +kernel) rfl, ?_⟩
  refine List.forall_mem_cons.mpr ⟨ok_istore C (show decode cX10_wouldCome 26 = .ok (.istore 7, 2) by decide +kernel) (by decide) rfl, ?_⟩
  refine List.forall_mem_cons.mpr ⟨ok_aload_n C (show decode cX10_wouldCome 28 = .ok (.aload_n 0, 1) by decide +kernel) rfl rfl, ?_⟩
  refine List.forall_mem_cons.mpr ⟨ok_getf C (wi_X10) rfl (by decide) kw_328 (show decode cX10_wouldCome 29 = .ok (.getfield 83, 3) by decide +kernel) rfl, ?_⟩
  refine List.forall_mem_cons.mpr ⟨ok_iconst C (show decode cX10_wouldCome 32 = .ok (.iconst 1, 1) by decide +kernel) (by decide) rfl, ?_⟩
  refine List.forall_mem_cons.mpr ⟨ok_iload C (show decode cX10_wouldCome 33 = .ok (.iload 6, 2) by decide +kernel) rfl, ?_⟩
  refine List.forall_mem_cons.mpr ⟨ok_callV C h_X7_amountOf ⟨rfl, rfl⟩ rfl kw_576 kw_601 kw_574 kw_575 kw_9 rfl ds_X7_amountOf ⟨by decide, by decide⟩ (show decode cX10_wouldCome 35 = .ok (.invokevirtual 169, 3) by decide +kernel) rfl, ?_⟩
  refine List.forall_mem_cons.mpr ⟨ok_istore C (show decode cX10_wouldCome 38 = .ok (.istore 8, 2) by decide +kernel) (by decide) rfl, ?_⟩
  refine List.forall_mem_cons.mpr ⟨ok_aload_n C (show decode cX10_wouldCome 40 = .ok (.aload_n 0, 1) by decide +kernel) rfl rfl, ?_⟩
  refine List.forall_mem_cons.mpr ⟨ok_getf C (wi_X10) rfl (by decide) kw_319 (show decode cX10_wouldCome 41 = .ok (.getfield 40, 3) by decide +kernel) rfl, ?_⟩
  refine List.forall_mem_cons.mpr ⟨ok_getf C (wi_X6) rfl (by decide) kw_144 (show decode cX10_wouldCome 44 = .ok (.getfield 163, 3) by decide +kernel) rfl, ?_⟩
  refine List.forall_mem_cons.mpr ⟨ok_iload C (show decode cX10_wouldCome 47 = .ok (.iload 5, 2) by decide +kernel) rfl, ?_⟩
  refine List.forall_mem_cons.mpr ⟨ok_iaload C (show decode cX10_wouldCome 49 = .ok (.iaload, 1) by decide +kernel) rfl, ?_⟩
  refine List.forall_mem_cons.mpr ⟨ok_iload_n C (show decode cX10_wouldCome 50 = .ok (.iload_n 3, 1) by decide +kernel) rfl rfl, ?_⟩
  refine List.forall_mem_cons.mpr ⟨ok_isub C (show decode cX10_wouldCome 51 = .ok (.isub, 1) by decide +kernel) rfl, ?_⟩
  refine List.forall_mem_cons.mpr ⟨ok_istore C (show decode cX10_wouldCome 52 = .ok (.istore 9, 2) by decide +kernel) (by decide) rfl, ?_⟩
  refine List.forall_mem_cons.mpr ⟨ok_aload_n C (show decode cX10_wouldCome 54 = .ok (.aload_n 0, 1) by decide +kernel) rfl rfl, ?_⟩
  refine List.forall_mem_cons.mpr ⟨ok_getf C (wi_X10) rfl (by decide) kw_319 (show decode cX10_wouldCome 55 = .ok (.getfield 40, 3) by decide +kernel) rfl, ?_⟩
  refine List.forall_mem_cons.mpr ⟨ok_getf C (wi_X6) rfl (by decide) kw_144 (show decode cX10_wouldCome 58 = .ok (.getfield 163, 3) by decide +kernel) rfl, ?_⟩
  refine List.forall_mem_cons.mpr ⟨ok_iload C (show decode cX10_wouldCome 61 = .ok (.iload 6, 2) by decide +kernel) rfl, ?_⟩
  refine List.forall_mem_cons.mpr ⟨ok_iaload C (show decode cX10_wouldCome 63 = .ok (.iaload, 1) by decide +kernel) rfl, ?_⟩
  refine List.forall_mem_cons.mpr ⟨ok_istore C (show decode cX10_wouldCome 64 = .ok (.istore 10, 2) by decide +kernel) (by decide) rfl, ?_⟩
  refine List.forall_mem_cons.mpr ⟨ok_iconst C (show decode cX10_wouldCome 66 = .ok (.iconst 0, 1) by decide +kernel) (by decide) rfl, ?_⟩
  refine List.forall_mem_cons.mpr ⟨ok_istore C (show decode cX10_wouldCome 67 = .ok (.istore 11, 2) by decide +kernel) (by decide) rfl, ?_⟩
  refine List.forall_mem_cons.mpr ⟨ok_iconst C (show decode cX10_wouldCome 69 = .ok (.iconst 0, 1) by decide +kernel) (by decide) rfl, ?_⟩
  refine List.forall_mem_cons.mpr ⟨ok_istore C (show decode cX10_wouldCome 70 = .ok (.istore 12, 2) by decide +kernel) (by decide) rfl, ?_⟩
  refine List.forall_mem_cons.mpr ⟨ok_iload C (show decode cX10_wouldCome 72 = .ok (.iload 12, 2) by decide +kernel) rfl, ?_⟩
  refine List.forall_mem_cons.mpr ⟨ok_iload C (show decode cX10_wouldCome 74 = .ok (.iload 4, 2) by decide +kernel) rfl, ?_⟩
  refine List.forall_mem_cons.mpr ⟨ok_icmpge C (show decode cX10_wouldCome 76 = .ok (.if_icmp .ge 134, 3) by decide +kernel) (tg := 210) (by decide) rfl rfl, ?_⟩
  refine List.forall_mem_cons.mpr ⟨ok_iload C (show decode cX10_wouldCome 79 = .ok (.iload 12, 2) by decide +kernel) rfl, ?_⟩
  refine List.forall_mem_cons.mpr ⟨ok_bipush C (show decode cX10_wouldCome 81 = .ok (.bipush 60, 2) by decide +kernel) (by decide) rfl, ?_⟩
  refine List.forall_mem_cons.mpr ⟨ok_icmpge C (show decode cX10_wouldCome 83 = .ok (.if_icmp .ge 127, 3) by decide +kernel) (tg := 210) (by decide) rfl rfl, ?_⟩
  refine List.forall_mem_cons.mpr ⟨ok_aload_n C (show decode cX10_wouldCome 86 = .ok (.aload_n 0, 1) by decide +kernel) rfl rfl, ?_⟩
  refine List.forall_mem_cons.mpr ⟨ok_getf C (wi_X10) rfl (by decide) kw_319 (show decode cX10_wouldCome 87 = .ok (.getfield 40, 3) by decide +kernel) rfl, ?_⟩
  refine List.forall_mem_cons.mpr ⟨ok_getf C (wi_X6) rfl (by decide) kw_164 (show decode cX10_wouldCome 90 = .ok (.getfield 213, 3) by decide +kernel) rfl, ?_⟩
  refine List.forall_mem_cons.mpr ⟨ok_iload C (show decode cX10_wouldCome 93 = .ok (.iload 12, 2) by decide +kernel) rfl, ?_⟩
  refine List.forall_mem_cons.mpr ⟨ok_iadd C (show decode cX10_wouldCome 95 = .ok (.iadd, 1) by decide +kernel) rfl, ?_⟩
  refine List.forall_mem_cons.mpr ⟨ok_iconst C (show decode cX10_wouldCome 96 = .ok (.iconst 2, 1) by decide +kernel) (by decide) rfl, ?_⟩
  refine List.forall_mem_cons.mpr ⟨ok_irem C (show decode cX10_wouldCome 97 = .ok (.irem, 1) by decide +kernel) rfl, ?_⟩
  refine List.forall_mem_cons.mpr ⟨ok_iload_n C (show decode cX10_wouldCome 98 = .ok (.iload_n 2, 1) by decide +kernel) rfl rfl, ?_⟩
  refine List.forall_mem_cons.mpr ⟨ok_icmpne C (show decode cX10_wouldCome 99 = .ok (.if_icmp .ne 39, 3) by decide +kernel) (tg := 138) (by decide) rfl rfl, ?_⟩
  refine List.forall_mem_cons.mpr ⟨ok_iload C (show decode cX10_wouldCome 102 = .ok (.iload 9, 2) by decide +kernel) rfl, ?_⟩
  refine List.forall_mem_cons.mpr ⟨ok_iload C (show decode cX10_wouldCome 104 = .ok (.iload 8, 2) by decide +kernel) rfl, ?_⟩
  refine List.forall_mem_cons.mpr ⟨ok_iload C (show decode cX10_wouldCome 106 = .ok (.iload 10, 2) by decide +kernel) rfl, ?_⟩
  refine List.forall_mem_cons.mpr ⟨ok_isub C (show decode cX10_wouldCome 108 = .ok (.isub, 1) by decide +kernel) rfl, ?_⟩
  refine List.forall_mem_cons.mpr ⟨ok_aload_n C (show decode cX10_wouldCome 109 = .ok (.aload_n 0, 1) by decide +kernel) rfl rfl, ?_⟩
  refine List.forall_mem_cons.mpr ⟨ok_getf C (wi_X10) rfl (by decide) kw_326 (show decode cX10_wouldCome 110 = .ok (.getfield 74, 3) by decide +kernel) rfl, ?_⟩
  refine List.forall_mem_cons.mpr ⟨ok_iload C (show decode cX10_wouldCome 113 = .ok (.iload 12, 2) by decide +kernel) rfl, ?_⟩
  refine List.forall_mem_cons.mpr ⟨ok_iaload C (show decode cX10_wouldCome 115 = .ok (.iaload, 1) by decide +kernel) rfl, ?_⟩
  refine List.forall_mem_cons.mpr ⟨ok_callS C h_X1_amountMoved ⟨rfl, rfl⟩ kw_765 kw_827 kw_764 kw_4 ds_X1_amountMoved ⟨by decide, by decide⟩ (show decode cX10_wouldCome 116 = .ok (.invokestatic 299, 3) by decide +kernel) rfl, ?_⟩
  refine List.forall_mem_cons.mpr ⟨ok_istore C (show decode cX10_wouldCome 119 = .ok (.istore 13, 2) by decide +kernel) (by decide) rfl, ?_⟩
  refine List.forall_mem_cons.mpr ⟨ok_iload C (show decode cX10_wouldCome 121 = .ok (.iload 9, 2) by decide +kernel) rfl, ?_⟩
  refine List.forall_mem_cons.mpr ⟨ok_iload C (show decode cX10_wouldCome 123 = .ok (.iload 13, 2) by decide +kernel) rfl, ?_⟩
  refine List.forall_mem_cons.mpr ⟨ok_isub C (show decode cX10_wouldCome 125 = .ok (.isub, 1) by decide +kernel) rfl, ?_⟩
  refine List.forall_mem_cons.mpr ⟨ok_istore C (show decode cX10_wouldCome 126 = .ok (.istore 9, 2) by decide +kernel) (by decide) rfl, ?_⟩
  refine List.forall_mem_cons.mpr ⟨ok_iload C (show decode cX10_wouldCome 128 = .ok (.iload 10, 2) by decide +kernel) rfl, ?_⟩
  refine List.forall_mem_cons.mpr ⟨ok_iload C (show decode cX10_wouldCome 130 = .ok (.iload 13, 2) by decide +kernel) rfl, ?_⟩
  refine List.forall_mem_cons.mpr ⟨ok_iadd C (show decode cX10_wouldCome 132 = .ok (.iadd, 1) by decide +kernel) rfl, ?_⟩
  refine List.forall_mem_cons.mpr ⟨ok_istore C (show decode cX10_wouldCome 133 = .ok (.istore 10, 2) by decide +kernel) (by decide) rfl, ?_⟩
  refine List.forall_mem_cons.mpr ⟨ok_goto C (show decode cX10_wouldCome 135 = .ok (.goto 43, 3) by decide +kernel) (tg := 178) (by decide) rfl, ?_⟩
  refine List.forall_mem_cons.mpr ⟨ok_iload C (show decode cX10_wouldCome 138 = .ok (.iload 10, 2) by decide +kernel) rfl, ?_⟩
  refine List.forall_mem_cons.mpr ⟨ok_iload C (show decode cX10_wouldCome 140 = .ok (.iload 7, 2) by decide +kernel) rfl, ?_⟩
  refine List.forall_mem_cons.mpr ⟨ok_iload C (show decode cX10_wouldCome 142 = .ok (.iload 9, 2) by decide +kernel) rfl, ?_⟩
  refine List.forall_mem_cons.mpr ⟨ok_isub C (show decode cX10_wouldCome 144 = .ok (.isub, 1) by decide +kernel) rfl, ?_⟩
  refine List.forall_mem_cons.mpr ⟨ok_aload_n C (show decode cX10_wouldCome 145 = .ok (.aload_n 0, 1) by decide +kernel) rfl rfl, ?_⟩
  refine List.forall_mem_cons.mpr ⟨ok_getf C (wi_X10) rfl (by decide) kw_326 (show decode cX10_wouldCome 146 = .ok (.getfield 74, 3) by decide +kernel) rfl, ?_⟩
  refine List.forall_mem_cons.mpr ⟨ok_iload C (show decode cX10_wouldCome 149 = .ok (.iload 12, 2) by decide +kernel) rfl, ?_⟩
  refine List.forall_mem_cons.mpr ⟨ok_iaload C (show decode cX10_wouldCome 151 = .ok (.iaload, 1) by decide +kernel) rfl, ?_⟩
  refine List.forall_mem_cons.mpr ⟨ok_callS C h_X1_amountMoved ⟨rfl, rfl⟩ kw_765 kw_827 kw_764 kw_4 ds_X1_amountMoved ⟨by decide, by decide⟩ (show decode cX10_wouldCome 152 = .ok (.invokestatic 299, 3) by decide +kernel) rfl, ?_⟩
  refine List.forall_mem_cons.mpr ⟨ok_istore C (show decode cX10_wouldCome 155 = .ok (.istore 13, 2) by decide +kernel) (by decide) rfl, ?_⟩
  refine List.forall_mem_cons.mpr ⟨ok_iload C (show decode cX10_wouldCome 157 = .ok (.iload 9, 2) by decide +kernel) rfl, ?_⟩
  refine List.forall_mem_cons.mpr ⟨ok_iload C (show decode cX10_wouldCome 159 = .ok (.iload 13, 2) by decide +kernel) rfl, ?_⟩
  refine List.forall_mem_cons.mpr ⟨ok_iadd C (show decode cX10_wouldCome 161 = .ok (.iadd, 1) by decide +kernel) rfl, ?_⟩
  refine List.forall_mem_cons.mpr ⟨ok_istore C (show decode cX10_wouldCome 162 = .ok (.istore 9, 2) by decide +kernel) (by decide) rfl, ?_⟩
  refine List.forall_mem_cons.mpr ⟨ok_iload C (show decode cX10_wouldCome 164 = .ok (.iload 10, 2) by decide +kernel) rfl, ?_⟩
  refine List.forall_mem_cons.mpr ⟨ok_iload C (show decode cX10_wouldCome 166 = .ok (.iload 13, 2) by decide +kernel) rfl, ?_⟩
  refine List.forall_mem_cons.mpr ⟨ok_isub C (show decode cX10_wouldCome 168 = .ok (.isub, 1) by decide +kernel) rfl, ?_⟩
  refine List.forall_mem_cons.mpr ⟨ok_istore C (show decode cX10_wouldCome 169 = .ok (.istore 10, 2) by decide +kernel) (by decide) rfl, ?_⟩
  refine List.forall_mem_cons.mpr ⟨ok_iload C (show decode cX10_wouldCome 171 = .ok (.iload 11, 2) by decide +kernel) rfl, ?_⟩
  refine List.forall_mem_cons.mpr ⟨ok_iload C (show decode cX10_wouldCome 173 = .ok (.iload 13, 2) by decide +kernel) rfl, ?_⟩
  refine List.forall_mem_cons.mpr ⟨ok_iadd C (show decode cX10_wouldCome 175 = .ok (.iadd, 1) by decide +kernel) rfl, ?_⟩
  refine List.forall_mem_cons.mpr ⟨ok_istore C (show decode cX10_wouldCome 176 = .ok (.istore 11, 2) by decide +kernel) (by decide) rfl, ?_⟩
  refine List.forall_mem_cons.mpr ⟨ok_aload_n C (show decode cX10_wouldCome 178 = .ok (.aload_n 0, 1) by decide +kernel) rfl rfl, ?_⟩
  refine List.forall_mem_cons.mpr ⟨ok_getf C (wi_X10) rfl (by decide) kw_328 (show decode cX10_wouldCome 179 = .ok (.getfield 83, 3) by decide +kernel) rfl, ?_⟩
  refine List.forall_mem_cons.mpr ⟨ok_iload C (show decode cX10_wouldCome 182 = .ok (.iload 5, 2) by decide +kernel) rfl, ?_⟩
  refine List.forall_mem_cons.mpr ⟨ok_iload C (show decode cX10_wouldCome 184 = .ok (.iload 9, 2) by decide +kernel) rfl, ?_⟩
  refine List.forall_mem_cons.mpr ⟨ok_callV C h_X7_stockAfter ⟨rfl, rfl⟩ rfl kw_831 kw_828 kw_829 kw_830 kw_9 rfl ds_X7_stockAfter ⟨by decide, by decide⟩ (show decode cX10_wouldCome 186 = .ok (.invokevirtual 302, 3) by decide +kernel) rfl, ?_⟩
  refine List.forall_mem_cons.mpr ⟨ok_istore C (show decode cX10_wouldCome 189 = .ok (.istore 9, 2) by decide +kernel) (by decide) rfl, ?_⟩
  refine List.forall_mem_cons.mpr ⟨ok_aload_n C (show decode cX10_wouldCome 191 = .ok (.aload_n 0, 1) by decide +kernel) rfl rfl, ?_⟩
  refine List.forall_mem_cons.mpr ⟨ok_getf C (wi_X10) rfl (by decide) kw_328 (show decode cX10_wouldCome 192 = .ok (.getfield 83, 3) by decide +kernel) rfl, ?_⟩
  refine List.forall_mem_cons.mpr ⟨ok_iload C (show decode cX10_wouldCome 195 = .ok (.iload 6, 2) by decide +kernel) rfl, ?_⟩
  refine List.forall_mem_cons.mpr ⟨ok_iload C (show decode cX10_wouldCome 197 = .ok (.iload 10, 2) by decide +kernel) rfl, ?_⟩
  refine List.forall_mem_cons.mpr ⟨ok_callV C h_X7_stockAfter ⟨rfl, rfl⟩ rfl kw_831 kw_828 kw_829 kw_830 kw_9 rfl ds_X7_stockAfter ⟨by decide, by decide⟩ (show decode cX10_wouldCome 199 = .ok (.invokevirtual 302, 3) by decide +kernel) rfl, ?_⟩
  refine List.forall_mem_cons.mpr ⟨ok_istore C (show decode cX10_wouldCome 202 = .ok (.istore 10, 2) by decide +kernel) (by decide) rfl, ?_⟩
  refine List.forall_mem_cons.mpr ⟨ok_iinc C (show decode cX10_wouldCome 204 = .ok (.iinc 12 1, 3) by decide +kernel) (by decide) (by decide) rfl, ?_⟩
  refine List.forall_mem_cons.mpr ⟨ok_goto C (show decode cX10_wouldCome 207 = .ok (.goto (-135), 3) by decide +kernel) (tg := 72) (by decide) rfl, ?_⟩
  refine List.forall_mem_cons.mpr ⟨ok_iload C (show decode cX10_wouldCome 210 = .ok (.iload 11, 2) by decide +kernel) rfl, ?_⟩
  refine List.forall_mem_cons.mpr ⟨ok_ret C rfl (show decode cX10_wouldCome 212 = .ok (.ireturn, 1) by decide +kernel), ?_⟩
  exact fun _ h => absurd h List.not_mem_nil
def L_X10_without (f_X10_isSlot : List Value → ab_H → Option ab_O) (f_X10_isWithin : List Value → ab_H → Option ab_O) (f_X10_foreseeRoom : List Value → ab_H → Option ab_O) (f_X10_roomTowards : List Value → ab_H → Option ab_O) (f_X10_slotOf : List Value → ab_H → Option ab_O) (f_X10_wouldCome : List Value → ab_H → Option ab_O) : List (Nat × ab_A) := [
  (0, ab_nx 1 (ab_aload 0)),
  (1, ab_nx 2 (ab_iload 1)),
  (2, ab_nx 3 (ab_iload 2)),
  (3, ab_nx 6 (ab_callV 3 10 f_X10_isSlot 0 0 0 0)),
  (6, ab_if 9 29 (fun x => decide (x = 0))),
  (9, ab_nx 10 (ab_iload 3)),
  (10, ab_nx 13 (ab_lit (.int 250))),
  (13, ab_nx 16 (ab_call 2 f_X10_isWithin 0 0 0 0)),
  (16, ab_if 19 29 (fun x => decide (x = 0))),
  (19, ab_nx 21 (ab_iload 4)),
  (21, ab_nx 23 (ab_lit (.int 60))),
  (23, ab_nx 26 (ab_call 2 f_X10_isWithin 0 0 0 0)),
  (26, ab_if 29 31 (fun x => !decide (x = 0))),
  (29, ab_nx 30 (ab_lit (.int (-1)))),
  (30, ab_ret 0 0),
  (31, ab_nx 32 (ab_aload 0)),
  (32, ab_nx 33 (ab_iload 1)),
  (33, ab_nx 35 (ab_iload 4)),
  (35, ab_nx 38 (ab_callV 3 10 f_X10_foreseeRoom 0 0 0 0)),
  (38, ab_nx 40 (ab_istore 5)),
  (40, ab_nx 41 (ab_aload 0)),
  (41, ab_nx 42 (ab_iload 2)),
  (42, ab_nx 44 (ab_iload 5)),
  (44, ab_nx 47 (ab_callV 3 10 f_X10_roomTowards 0 0 0 0)),
  (47, ab_nx 48 (ab_iload 3)),
  (48, ab_icmp 51 53 (fun x y => decide (y ≤ x))),
  (51, ab_nx 52 (ab_lit (.int (-1)))),
  (52, ab_ret 0 0),
  (53, ab_nx 54 (ab_aload 0)),
  (54, ab_nx 57 (ab_getf 10 4)),
  (57, ab_nx 60 (ab_getf 6 0)),
  (60, ab_nx 61 (ab_iload 1)),
  (61, ab_nx 62 (ab_iload 2)),
  (62, ab_nx 65 (ab_call 2 f_X10_slotOf 0 0 0 0)),
  (65, ab_nx 66 (ab_ald 1)),
  (66, ab_nx 68 (ab_istore 6)),
  (68, ab_nx 69 (ab_lit (.int 0))),
  (69, ab_nx 71 (ab_istore 7)),
  (71, ab_nx 73 (ab_iload 7)),
  (73, ab_nx 75 (ab_iload 6)),
  (75, ab_icmp 78 101 (fun x y => decide (y < x))),
  (78, ab_nx 79 (ab_aload 0)),
  (79, ab_nx 80 (ab_iload 1)),
  (80, ab_nx 81 (ab_iload 2)),
  (81, ab_nx 83 (ab_iload 7)),
  (83, ab_nx 85 (ab_iload 5)),
  (85, ab_nx 88 (ab_callV 5 10 f_X10_wouldCome 0 0 0 0)),
  (88, ab_nx 89 (ab_iload 3)),
  (89, ab_icmp 92 95 (fun x y => decide (x < y))),
  (92, ab_nx 94 (ab_iload 7)),
  (94, ab_ret 0 0),
  (95, ab_nx 98 (ab_iinc 7 1)),
  (98, ab_goto 71),
  (101, ab_nx 102 (ab_lit (.int (-1)))),
  (102, ab_ret 0 0)]
set_option maxRecDepth 100000 in
set_option maxHeartbeats 4000000 in
theorem M_X10_without {l : Launch} {b : ab_B} {D : va_G} {cA : Nat → ClassId} {f_X10_isSlot : List Value → ab_H → Option ab_O} (h_X10_isSlot : ab_M l b D ab_cl cA (ab_E0 b) yX10_isSlot (Cond.code yX10_isSlot cX10_isSlot 3 (some .boolean) :: ab_G) ({ frames := 2, cells := 0, slots := 0, locals := 200 } : Room) f_X10_isSlot) {f_X10_isWithin : List Value → ab_H → Option ab_O} (h_X10_isWithin : ab_M l b D ab_cl cA (ab_E0 b) yX10_isWithin (Cond.code yX10_isWithin cX10_isWithin 2 (some .boolean) :: ab_G) ({ frames := 1, cells := 0, slots := 0, locals := 100 } : Room) f_X10_isWithin) {f_X10_foreseeRoom : List Value → ab_H → Option ab_O} (h_X10_foreseeRoom : ab_M l b D ab_cl cA (ab_E0 b) yX10_foreseeRoom (Cond.code yX10_foreseeRoom cX10_foreseeRoom 5 (some .int) :: ab_G) ({ frames := 6, cells := 0, slots := 0, locals := 600 } : Room) f_X10_foreseeRoom) {f_X10_roomTowards : List Value → ab_H → Option ab_O} (h_X10_roomTowards : ab_M l b D ab_cl cA (ab_E0 b) yX10_roomTowards (Cond.code yX10_roomTowards cX10_roomTowards 5 (some .int) :: ab_G) ({ frames := 1, cells := 0, slots := 0, locals := 100 } : Room) f_X10_roomTowards) {f_X10_slotOf : List Value → ab_H → Option ab_O} (h_X10_slotOf : ab_M l b D ab_cl cA (ab_E0 b) yX10_slotOf (Cond.code yX10_slotOf cX10_slotOf 2 (some .int) :: ab_G) ({ frames := 1, cells := 0, slots := 0, locals := 100 } : Room) f_X10_slotOf) {f_X10_wouldCome : List Value → ab_H → Option ab_O} (h_X10_wouldCome : ab_M l b D ab_cl cA (ab_E0 b) yX10_wouldCome (Cond.code yX10_wouldCome cX10_wouldCome 14 (some .int) :: ab_G) ({ frames := 4, cells := 0, slots := 0, locals := 400 } : Room) f_X10_wouldCome) : ab_M l b D ab_cl cA (ab_E0 b) yX10_without (Cond.code yX10_without cX10_without 8 (some .int) :: ab_G) ({ frames := 7, cells := 0, slots := 0, locals := 700 } : Room) (ab_X (ab_T (L_X10_without f_X10_isSlot f_X10_isWithin f_X10_foreseeRoom f_X10_roomTowards f_X10_slotOf f_X10_wouldCome)) 8) := by
  refine ab_meth (ret := (some .int)) (L_X10_without f_X10_isSlot f_X10_isWithin f_X10_foreseeRoom f_X10_roomTowards f_X10_slotOf f_X10_wouldCome) (by decide) rfl fun p e R s m args below meth c o C => ?_
  unfold L_X10_without
  refine List.forall_mem_cons.mpr ⟨ok_aload_n C (show decode cX10_without 0 = .ok (.aload_n 0, 1) by decide +kernel) rfl rfl, ?_⟩
  refine List.forall_mem_cons.mpr ⟨ok_iload_n C (show decode cX10_without 1 = .ok (.iload_n 1, 1) by decide +kernel) rfl rfl, ?_⟩
  refine List.forall_mem_cons.mpr ⟨ok_iload_n C (show decode cX10_without 2 = .ok (.iload_n 2, 1) by decide +kernel) rfl rfl, ?_⟩
  refine List.forall_mem_cons.mpr ⟨ok_callV C h_X10_isSlot ⟨rfl, rfl⟩ rfl kw_592 kw_589 kw_591 kp_15 kw_1 rfl ds_X10_isSlot ⟨by decide, by decide⟩ (show decode cX10_without 3 = .ok (.invokevirtual 155, 3) by decide +kernel) rfl, ?_⟩
  refine List.forall_mem_cons.mpr ⟨ok_ifeq C (show decode cX10_without 6 = .ok (.ifCond .eq 23, 3) by decide +kernel) (tg := 29) (by decide) rfl rfl, ?_⟩
  refine List.forall_mem_cons.mpr ⟨ok_iload_n C (show decode cX10_without 9 = .ok (.iload_n 3, 1) by decide +kernel) rfl rfl, ?_⟩
  refine List.forall_mem_cons.mpr ⟨ok_sipush C (show decode cX10_without 10 = .ok (.sipush 250, 3) by decide +kernel) (by decide) rfl, ?_⟩
  refine List.forall_mem_cons.mpr ⟨ok_callS C h_X10_isWithin ⟨rfl, rfl⟩ kw_707 kw_705 kw_706 kw_1 ds_X10_isWithin ⟨by decide, by decide⟩ (show decode cX10_without 13 = .ok (.invokestatic 251, 3) by decide +kernel) rfl, ?_⟩
  refine List.forall_mem_cons.mpr ⟨ok_ifeq C (show decode cX10_without 16 = .ok (.ifCond .eq 13, 3) by decide +kernel) (tg := 29) (by decide) rfl rfl, ?_⟩
  refine List.forall_mem_cons.mpr ⟨ok_iload C (show decode cX10_without 19 = .ok (.iload 4, 2) by decide +kernel) rfl, ?_⟩
  refine List.forall_mem_cons.mpr ⟨ok_bipush C (show decode cX10_without 21 = .ok (.bipush 60, 2) by decide +kernel) (by decide) rfl, ?_⟩
  refine List.forall_mem_cons.mpr ⟨ok_callS C h_X10_isWithin ⟨rfl, rfl⟩ kw_707 kw_705 kw_706 kw_1 ds_X10_isWithin ⟨by decide, by decide⟩ (show decode cX10_without 23 = .ok (.invokestatic 251, 3) by decide +kernel) rfl, ?_⟩
  refine List.forall_mem_cons.mpr ⟨ok_ifne C (show decode cX10_without 26 = .ok (.ifCond .ne 5, 3) by decide +kernel) (tg := 31) (by decide) rfl rfl, ?_⟩
  refine List.forall_mem_cons.mpr ⟨ok_iconst C (show decode cX10_without 29 = .ok (.iconst (-1), 1) by decide +kernel) (by decide) rfl, ?_⟩
  refine List.forall_mem_cons.mpr ⟨ok_ret C rfl (show decode cX10_without 30 = .ok (.ireturn, 1) by decide +kernel), ?_⟩
  refine List.forall_mem_cons.mpr ⟨ok_aload_n C (show decode cX10_without 31 = .ok (.aload_n 0, 1) by decide +kernel) rfl rfl, ?_⟩
  refine List.forall_mem_cons.mpr ⟨ok_iload_n C (show decode cX10_without 32 = .ok (.iload_n 1, 1) by decide +kernel) rfl rfl, ?_⟩
  refine List.forall_mem_cons.mpr ⟨ok_iload C (show decode cX10_without 33 = .ok (.iload 4, 2) by decide +kernel) rfl, ?_⟩
  refine List.forall_mem_cons.mpr ⟨ok_callV C h_X10_foreseeRoom ⟨rfl, rfl⟩ rfl kw_818 kw_815 kw_817 kp_23 kw_1 rfl ds_X10_foreseeRoom ⟨by decide, by decide⟩ (show decode cX10_without 35 = .ok (.invokevirtual 287, 3) by decide +kernel) rfl, ?_⟩
  refine List.forall_mem_cons.mpr ⟨ok_istore C (show decode cX10_without 38 = .ok (.istore 5, 2) by decide +kernel) (by decide) rfl, ?_⟩
  refine List.forall_mem_cons.mpr ⟨ok_aload_n C (show decode cX10_without 40 = .ok (.aload_n 0, 1) by decide +kernel) rfl rfl, ?_⟩
  refine List.forall_mem_cons.mpr ⟨ok_iload_n C (show decode cX10_without 41 = .ok (.iload_n 2, 1) by decide +kernel) rfl rfl, ?_⟩
  refine List.forall_mem_cons.mpr ⟨ok_iload C (show decode cX10_without 42 = .ok (.iload 5, 2) by decide +kernel) rfl, ?_⟩
  refine List.forall_mem_cons.mpr ⟨ok_callV C h_X10_roomTowards ⟨rfl, rfl⟩ rfl kw_822 kw_819 kw_821 kp_24 kw_1 rfl ds_X10_roomTowards ⟨by decide, by decide⟩ (show decode cX10_without 44 = .ok (.invokevirtual 290, 3) by decide +kernel) rfl, ?_⟩
  refine List.forall_mem_cons.mpr ⟨ok_iload_n C (show decode cX10_without 47 = .ok (.iload_n 3, 1) by decide +kernel) rfl rfl, ?_⟩
  refine List.forall_mem_cons.mpr ⟨ok_icmpge C (show decode cX10_without 48 = .ok (.if_icmp .ge 5, 3) by decide +kernel) (tg := 53) (by decide) rfl rfl, ?_⟩
  refine List.forall_mem_cons.mpr ⟨ok_iconst C (show decode cX10_without 51 = .ok (.iconst (-1), 1) by decide +kernel) (by decide) rfl, ?_⟩
  refine List.forall_mem_cons.mpr ⟨ok_ret C rfl (show decode cX10_without 52 = .ok (.ireturn, 1) by decide +kernel), ?_⟩
  refine List.forall_mem_cons.mpr ⟨ok_aload_n C (show decode cX10_without 53 = .ok (.aload_n 0, 1) by decide +kernel) rfl rfl, ?_⟩
  refine List.forall_mem_cons.mpr ⟨ok_getf C (wi_X10) rfl (by decide) kw_319 (show decode cX10_without 54 = .ok (.getfield 40, 3) by decide +kernel) rfl, ?_⟩
  refine List.forall_mem_cons.mpr ⟨ok_getf C (wi_X6) rfl (by decide) kw_144 (show decode cX10_without 57 = .ok (.getfield 163, 3) by decide +kernel) rfl, ?_⟩
  refine List.forall_mem_cons.mpr ⟨ok_iload_n C (show decode cX10_without 60 = .ok (.iload_n 1, 1) by decide +kernel) rfl rfl, ?_⟩
  refine List.forall_mem_cons.mpr ⟨ok_iload_n C (show decode cX10_without 61 = .ok (.iload_n 2, 1) by decide +kernel) rfl rfl, ?_⟩
  refine List.forall_mem_cons.mpr ⟨ok_callS C h_X10_slotOf ⟨rfl, rfl⟩ kw_532 kw_600 kw_531 kw_1 ds_X10_slotOf ⟨by decide, by decide⟩ (show decode cX10_without 62 = .ok (.invokestatic 159, 3) by decide +kernel) rfl, ?_⟩
  refine List.forall_mem_cons.mpr ⟨ok_iaload C (show decode cX10_without 65 = .ok (.iaload, 1) by decide +kernel) rfl, ?_⟩
  refine List.forall_mem_cons.mpr ⟨ok_istore C (show decode cX10_without 66 = .ok (.istore 6, 2) by decide +kernel) (by decide) rfl, ?_⟩
  refine List.forall_mem_cons.mpr ⟨ok_iconst C (show decode cX10_without 68 = .ok (.iconst 0, 1) by decide +kernel) (by decide) rfl, ?_⟩
  refine List.forall_mem_cons.mpr ⟨ok_istore C (show decode cX10_without 69 = .ok (.istore 7, 2) by decide +kernel) (by decide) rfl, ?_⟩
  refine List.forall_mem_cons.mpr ⟨ok_iload C (show decode cX10_without 71 = .ok (.iload 7, 2) by decide +kernel) rfl, ?_⟩
  refine List.forall_mem_cons.mpr ⟨ok_iload C (show decode cX10_without 73 = .ok (.iload 6, 2) by decide +kernel) rfl, ?_⟩
  refine List.forall_mem_cons.mpr ⟨ok_icmpgt C (show decode cX10_without 75 = .ok (.if_icmp .gt 26, 3) by decide +kernel) (tg := 101) (by decide) rfl rfl, ?_⟩
  refine List.forall_mem_cons.mpr ⟨ok_aload_n C (show decode cX10_without 78 = .ok (.aload_n 0, 1) by decide +kernel) rfl rfl, ?_⟩
  refine List.forall_mem_cons.mpr ⟨ok_iload_n C (show decode cX10_without 79 = .ok (.iload_n 1, 1) by decide +kernel) rfl rfl, ?_⟩
  refine List.forall_mem_cons.mpr ⟨ok_iload_n C (show decode cX10_without 80 = .ok (.iload_n 2, 1) by decide +kernel) rfl rfl, ?_⟩
  refine List.forall_mem_cons.mpr ⟨ok_iload C (show decode cX10_without 81 = .ok (.iload 7, 2) by decide +kernel) rfl, ?_⟩
  refine List.forall_mem_cons.mpr ⟨ok_iload C (show decode cX10_without 83 = .ok (.iload 5, 2) by decide +kernel) rfl, ?_⟩
  refine List.forall_mem_cons.mpr ⟨ok_callV C h_X10_wouldCome ⟨rfl, rfl⟩ rfl kw_826 kw_823 kw_825 kp_25 kw_1 rfl ds_X10_wouldCome ⟨by decide, by decide⟩ (show decode cX10_without 85 = .ok (.invokevirtual 293, 3) by decide +kernel) rfl, ?_⟩
  refine List.forall_mem_cons.mpr ⟨ok_iload_n C (show decode cX10_without 88 = .ok (.iload_n 3, 1) by decide +kernel) rfl rfl, ?_⟩
  refine List.forall_mem_cons.mpr ⟨ok_icmplt C (show decode cX10_without 89 = .ok (.if_icmp .lt 6, 3) by decide +kernel) (tg := 95) (by decide) rfl rfl, ?_⟩
  refine List.forall_mem_cons.mpr ⟨ok_iload C (show decode cX10_without 92 = .ok (.iload 7, 2) by decide +kernel) rfl, ?_⟩
  refine List.forall_mem_cons.mpr ⟨ok_ret C rfl (show decode cX10_without 94 = .ok (.ireturn, 1) by decide +kernel), ?_⟩
  refine List.forall_mem_cons.mpr ⟨ok_iinc C (show decode cX10_without 95 = .ok (.iinc 7 1, 3) by decide +kernel) (by decide) (by decide) rfl, ?_⟩
  refine List.forall_mem_cons.mpr ⟨ok_goto C (show decode cX10_without 98 = .ok (.goto (-27), 3) by decide +kernel) (tg := 71) (by decide) rfl, ?_⟩
  refine List.forall_mem_cons.mpr ⟨ok_iconst C (show decode cX10_without 101 = .ok (.iconst (-1), 1) by decide +kernel) (by decide) rfl, ?_⟩
  refine List.forall_mem_cons.mpr ⟨ok_ret C rfl (show decode cX10_without 102 = .ok (.ireturn, 1) by decide +kernel), ?_⟩
  exact fun _ h => absurd h List.not_mem_nil
