def L_X10_good (f_X10_isSlot : List Value → ab_H → Option ab_O) (f_X10_slotOf : List Value → ab_H → Option ab_O) (f_X7_amountOf : List Value → ab_H → Option ab_O) (f_X6_lackAt : List Value → ab_H → Option ab_O) (f_X6_isFalse : List Value → ab_H → Option ab_O) : List (Nat × ab_A) := [
  (0, ab_nx 1 (ab_aload 0)),
  (1, ab_nx 2 (ab_iload 1)),
  (2, ab_nx 3 (ab_iload 2)),
  (3, ab_nx 6 (ab_callV 3 10 f_X10_isSlot 0 0 0 0)),
  (6, ab_if 9 11 (fun x => !decide (x = 0))),
  (9, ab_nx 10 (ab_lit (.int (-1)))),
  (10, ab_ret 0 0),
  (11, ab_nx 12 (ab_iload 1)),
  (12, ab_nx 13 (ab_iload 2)),
  (13, ab_nx 16 (ab_call 2 f_X10_slotOf 0 0 0 0)),
  (16, ab_nx 18 (ab_istore 4)),
  (18, ab_nx 19 (ab_iload 3)),
  (19, ab_tab 0 [64, 75, 86, 97, 108, 119, 133, 155] 166),
  (64, ab_nx 65 (ab_aload 0)),
  (65, ab_nx 68 (ab_getf 10 4)),
  (68, ab_nx 71 (ab_getf 6 0)),
  (71, ab_nx 73 (ab_iload 4)),
  (73, ab_nx 74 (ab_ald 1)),
  (74, ab_ret 0 0),
  (75, ab_nx 76 (ab_aload 0)),
  (76, ab_nx 79 (ab_getf 10 4)),
  (79, ab_nx 82 (ab_getf 6 1)),
  (82, ab_nx 84 (ab_iload 4)),
  (84, ab_nx 85 (ab_ald 1)),
  (85, ab_ret 0 0),
  (86, ab_nx 87 (ab_aload 0)),
  (87, ab_nx 90 (ab_getf 10 13)),
  (90, ab_nx 91 (ab_lit (.int 1))),
  (91, ab_nx 93 (ab_iload 4)),
  (93, ab_nx 96 (ab_callV 3 7 f_X7_amountOf 0 0 0 0)),
  (96, ab_ret 0 0),
  (97, ab_nx 98 (ab_aload 0)),
  (98, ab_nx 101 (ab_getf 10 13)),
  (101, ab_nx 102 (ab_lit (.int 2))),
  (102, ab_nx 104 (ab_iload 4)),
  (104, ab_nx 107 (ab_callV 3 7 f_X7_amountOf 0 0 0 0)),
  (107, ab_ret 0 0),
  (108, ab_nx 109 (ab_aload 0)),
  (109, ab_nx 112 (ab_getf 10 13)),
  (112, ab_nx 113 (ab_lit (.int 3))),
  (113, ab_nx 115 (ab_iload 4)),
  (115, ab_nx 118 (ab_callV 3 7 f_X7_amountOf 0 0 0 0)),
  (118, ab_ret 0 0),
  (119, ab_nx 120 (ab_aload 0)),
  (120, ab_nx 123 (ab_getf 10 4)),
  (123, ab_nx 124 (ab_aload 0)),
  (124, ab_nx 127 (ab_getf 10 13)),
  (127, ab_nx 129 (ab_iload 4)),
  (129, ab_nx 132 (ab_callV 3 6 f_X6_lackAt 0 0 0 0)),
  (132, ab_ret 0 0),
  (133, ab_nx 134 (ab_aload 0)),
  (134, ab_nx 137 (ab_getf 10 4)),
  (137, ab_nx 138 (ab_aload 0)),
  (138, ab_nx 141 (ab_getf 10 13)),
  (141, ab_nx 143 (ab_iload 4)),
  (143, ab_nx 146 (ab_callV 3 6 f_X6_isFalse 0 0 0 0)),
  (146, ab_if 149 153 (fun x => decide (x = 0))),
  (149, ab_nx 150 (ab_lit (.int 1))),
  (150, ab_goto 154),
  (153, ab_nx 154 (ab_lit (.int 0))),
  (154, ab_ret 0 0),
  (155, ab_nx 156 (ab_aload 0)),
  (156, ab_nx 159 (ab_getf 10 4)),
  (159, ab_nx 162 (ab_getf 6 2)),
  (162, ab_nx 164 (ab_iload 4)),
  (164, ab_nx 165 (ab_ald 1)),
  (165, ab_ret 0 0),
  (166, ab_nx 167 (ab_lit (.int (-1)))),
  (167, ab_ret 0 0)]
set_option maxRecDepth 100000 in
set_option maxHeartbeats 4000000 in
theorem M_X10_good {l : Launch} {b : ab_B} {D : va_G} {cA : Nat → ClassId} {f_X10_isSlot : List Value → ab_H → Option ab_O} (h_X10_isSlot : ab_M l b D ab_cl cA (ab_E0 b) yX10_isSlot (Cond.code yX10_isSlot cX10_isSlot 3 (some .boolean) :: ab_G) ({ frames := 2, cells := 0, slots := 0, locals := 200 } : Room) f_X10_isSlot) {f_X10_slotOf : List Value → ab_H → Option ab_O} (h_X10_slotOf : ab_M l b D ab_cl cA (ab_E0 b) yX10_slotOf (Cond.code yX10_slotOf cX10_slotOf 2 (some .int) :: ab_G) ({ frames := 1, cells := 0, slots := 0, locals := 100 } : Room) f_X10_slotOf) {f_X7_amountOf : List Value → ab_H → Option ab_O} (h_X7_amountOf : ab_M l b D ab_cl cA (ab_E0 b) yX7_amountOf (Cond.code yX7_amountOf cX7_amountOf 3 (some .int) :: ab_G) ({ frames := 1, cells := 0, slots := 0, locals := 100 } : Room) f_X7_amountOf) {f_X6_lackAt : List Value → ab_H → Option ab_O} (h_X6_lackAt : ab_M l b D ab_cl cA (ab_E0 b) yX6_lackAt (Cond.code yX6_lackAt cX6_lackAt 3 (some .int) :: ab_G) ({ frames := 2, cells := 0, slots := 0, locals := 200 } : Room) f_X6_lackAt) {f_X6_isFalse : List Value → ab_H → Option ab_O} (h_X6_isFalse : ab_M l b D ab_cl cA (ab_E0 b) yX6_isFalse (Cond.code yX6_isFalse cX6_isFalse 4 (some .boolean) :: ab_G) ({ frames := 2, cells := 0, slots := 0, locals := 200 } : Room) f_X6_isFalse) : ab_M l b D ab_cl cA (ab_E0 b) yX10_good (Cond.code yX10_good cX10_good 5 (some .int) :: ab_G) ({ frames := 3, cells := 0, slots := 0, locals := 300 } : Room) (ab_X (ab_T (L_X10_good f_X10_isSlot f_X10_slotOf f_X7_amountOf f_X6_lackAt f_X6_isFalse)) 5) := by
  refine ab_meth (ret := (some .int)) (L_X10_good f_X10_isSlot f_X10_slotOf f_X7_amountOf f_X6_lackAt f_X6_isFalse) (by decide) rfl fun p e R s m args below meth c o C => ?_
  unfold L_X10_good
  refine List.forall_mem_cons.mpr ⟨ok_aload_n C (show decode cX10_good 0 = .ok (.aload_n 0, 1) by decide +kernel) rfl rfl, ?_⟩
  refine List.forall_mem_cons.mpr ⟨ok_iload_n C (show decode cX10_good 1 = .ok (.iload_n 1, 1) by decide +kernel) rfl rfl, ?_⟩
  refine List.forall_mem_cons.mpr ⟨ok_iload_n C (show decode cX10_good 2 = .ok (.iload_n 2, 1) by decide +kernel) rfl rfl, ?_⟩
  refine List.forall_mem_cons.mpr ⟨ok_callV C h_X10_isSlot ⟨rfl, rfl⟩ rfl kw_592 kw_589 kw_591 kp_15 kw_1 rfl ds_X10_isSlot ⟨by decide, by decide⟩ (show decode cX10_good 3 = .ok (.invokevirtual 155, 3) by decide +kernel) rfl, ?_⟩
  refine List.forall_mem_cons.mpr ⟨ok_ifne C (show decode cX10_good 6 = .ok (.ifCond .ne 5, 3) by decide +kernel) (tg := 11) (by decide) rfl rfl, ?_⟩
  refine List.forall_mem_cons.mpr ⟨ok_iconst C (show decode cX10_good 9 = .ok (.iconst (-1), 1) by decide +kernel) (by decide) rfl, ?_⟩
  refine List.forall_mem_cons.mpr ⟨ok_ret C rfl (show decode cX10_good 10 = .ok (.ireturn, 1) by decide +kernel), ?_⟩
  refine List.forall_mem_cons.mpr ⟨ok_iload_n C (show decode cX10_good 11 = .ok (.iload_n 1, 1) by decide +kernel) rfl rfl, ?_⟩
  refine List.forall_mem_cons.mpr ⟨ok_iload_n C (show decode cX10_good 12 = .ok (.iload_n 2, 1) by decide +kernel) rfl rfl, ?_⟩
  refine List.forall_mem_cons.mpr ⟨ok_callS C h_X10_slotOf ⟨rfl, rfl⟩ kw_532 kw_600 kw_531 kw_1 ds_X10_slotOf ⟨by decide, by decide⟩ (show decode cX10_good 13 = .ok (.invokestatic 159, 3) by decide +kernel) rfl, ?_⟩
  refine List.forall_mem_cons.mpr ⟨ok_istore C (show decode cX10_good 16 = .ok (.istore 4, 2) by decide +kernel) (by decide) rfl, ?_⟩
  refine List.forall_mem_cons.mpr ⟨ok_iload_n C (show decode cX10_good 18 = .ok (.iload_n 3, 1) by decide +kernel) rfl rfl, ?_⟩
  refine List.forall_mem_cons.mpr ⟨ok_tab C (show decode cX10_good 19 = .ok (.tableswitch 147 0 7 #[45, 56, 67, 78, 89, 100, 114, 136], 45) by decide +kernel) (by decide) (by decide) (by decide), ?_⟩
  refine List.forall_mem_cons.mpr ⟨ok_aload_n C (show decode cX10_good 64 = .ok (.aload_n 0, 1) by decide +kernel) rfl rfl, ?_⟩
  refine List.forall_mem_cons.mpr ⟨ok_getf C (wi_X10) rfl (by decide) kw_319 (show decode cX10_good 65 = .ok (.getfield 40, 3) by decide +kernel) rfl, ?_⟩
  refine List.forall_mem_cons.mpr ⟨ok_getf C (wi_X6) rfl (by decide) kw_144 (show decode cX10_good 68 = .ok (.getfield 163, 3) by decide +kernel) rfl, ?_⟩
  refine List.forall_mem_cons.mpr ⟨ok_iload C (show decode cX10_good 71 = .ok (.iload 4, 2) by decide +kernel) rfl, ?_⟩
  refine List.forall_mem_cons.mpr ⟨ok_iaload C (show decode cX10_good 73 = .ok (.iaload, 1) by decide +kernel) rfl, ?_⟩
  refine List.forall_mem_cons.mpr ⟨ok_ret C rfl (show decode cX10_good 74 = .ok (.ireturn, 1) by decide +kernel), ?_⟩
  refine List.forall_mem_cons.mpr ⟨ok_aload_n C (show decode cX10_good 75 = .ok (.aload_n 0, 1) by decide +kernel) rfl rfl, ?_⟩
  refine List.forall_mem_cons.mpr ⟨ok_getf C (wi_X10) rfl (by decide) kw_319 (show decode cX10_good 76 = .ok (.getfield 40, 3) by decide +kernel) rfl, ?_⟩
  refine List.forall_mem_cons.mpr ⟨ok_getf C (wi_X6) rfl (by decide) kw_148 (show decode cX10_good 79 = .ok (.getfield 166, 3) by decide +kernel) rfl, ?_⟩
  refine List.forall_mem_cons.mpr ⟨ok_iload C (show decode cX10_good 82 = .ok (.iload 4, 2) by decide +kernel) rfl, ?_⟩
  refine List.forall_mem_cons.mpr ⟨ok_iaload C (show decode cX10_good 84 = .ok (.iaload, 1) by decide +kernel) rfl, ?_⟩
  refine List.forall_mem_cons.mpr ⟨ok_ret C rfl (show decode cX10_good 85 = .ok (.ireturn, 1) by decide +kernel), ?_⟩
  refine List.forall_mem_cons.mpr ⟨ok_aload_n C (show decode cX10_good 86 = .ok (.aload_n 0, 1) by decide +kernel) rfl rfl, ?_⟩
  refine List.forall_mem_cons.mpr ⟨ok_getf C (wi_X10) rfl (by decide) kw_328 (show decode cX10_good 87 = .ok (.getfield 83, 3) by decide +kernel) rfl, ?_⟩
  refine List.forall_mem_cons.mpr ⟨ok_iconst C (show decode cX10_good 90 = .ok (.iconst 1, 1) by decide +kernel) (by decide) rfl, ?_⟩
  refine List.forall_mem_cons.mpr ⟨ok_iload C (show decode cX10_good 91 = .ok (.iload 4, 2) by decide +kernel) rfl, ?_⟩
  refine List.forall_mem_cons.mpr ⟨ok_callV C h_X7_amountOf ⟨rfl, rfl⟩ rfl kw_576 kw_601 kw_574 kw_575 kw_9 rfl ds_X7_amountOf ⟨by decide, by decide⟩ (show decode cX10_good 93 = .ok (.invokevirtual 169, 3) by decide +kernel) rfl, ?_⟩
  refine List.forall_mem_cons.mpr ⟨ok_ret C rfl (show decode cX10_good 96 = .ok (.ireturn, 1) by decide +kernel), ?_⟩
  refine List.forall_mem_cons.mpr ⟨ok_aload_n C (show decode cX10_good 97 = .ok (.aload_n 0, 1) by decide +kernel) rfl rfl, ?_⟩
  refine List.forall_mem_cons.mpr ⟨ok_getf C (wi_X10) rfl (by decide) kw_328 (show decode cX10_good 98 = .ok (.getfield 83, 3) by decide +kernel) rfl, ?_⟩
  refine List.forall_mem_cons.mpr ⟨ok_iconst C (show decode cX10_good 101 = .ok (.iconst 2, 1) by decide +kernel) (by decide) rfl, ?_⟩
  refine List.forall_mem_cons.mpr ⟨ok_iload C (show decode cX10_good 102 = .ok (.iload 4, 2) by decide +kernel) rfl, ?_⟩
  refine List.forall_mem_cons.mpr ⟨ok_callV C h_X7_amountOf ⟨rfl, rfl⟩ rfl kw_576 kw_601 kw_574 kw_575 kw_9 rfl ds_X7_amountOf ⟨by decide, by decide⟩ (show decode cX10_good 104 = .ok (.invokevirtual 169, 3) by decide +kernel) rfl, ?_⟩
  refine List.forall_mem_cons.mpr ⟨ok_ret C rfl (show decode cX10_good 107 = .ok (.ireturn, 1) by decide +kernel), ?_⟩
  refine List.forall_mem_cons.mpr ⟨ok_aload_n C (show decode cX10_good 108 = .ok (.aload_n 0, 1) by decide +kernel) rfl rfl, ?_⟩
  refine List.forall_mem_cons.mpr ⟨ok_getf C (wi_X10) rfl (by decide) kw_328 (show decode cX10_good 109 = .ok (.getfield 83, 3) by decide +kernel) rfl, ?_⟩
  refine List.forall_mem_cons.mpr ⟨ok_iconst C (show decode cX10_good 112 = .ok (.iconst 3, 1) by decide +kernel) (by decide) rfl, ?_⟩
  refine List.forall_mem_cons.mpr ⟨ok_iload C (show decode cX10_good 113 = .ok (.iload 4, 2) by decide +kernel) rfl, ?_⟩
  refine List.forall_mem_cons.mpr ⟨ok_callV C h_X7_amountOf ⟨rfl, rfl⟩ rfl kw_576 kw_601 kw_574 kw_575 kw_9 rfl ds_X7_amountOf ⟨by decide, by decide⟩ (show decode cX10_good 115 = .ok (.invokevirtual 169, 3) by decide +kernel) rfl, ?_⟩
  refine List.forall_mem_cons.mpr ⟨ok_ret C rfl (show decode cX10_good 118 = .ok (.ireturn, 1) by decide +kernel), ?_⟩
  refine List.forall_mem_cons.mpr ⟨ok_aload_n C (show decode cX10_good 119 = .ok (.aload_n 0, 1) by decide +kernel) rfl rfl, ?_⟩
  refine List.forall_mem_cons.mpr ⟨ok_getf C (wi_X10) rfl (by decide) kw_319 (show decode cX10_good 120 = .ok (.getfield 40, 3) by decide +kernel) rfl, ?_⟩
  refine List.forall_mem_cons.mpr ⟨ok_aload_n C (show decode cX10_good 123 = .ok (.aload_n 0, 1) by decide +kernel) rfl rfl, ?_⟩
  refine List.forall_mem_cons.mpr ⟨ok_getf C (wi_X10) rfl (by decide) kw_328 (show decode cX10_good 124 = .ok (.getfield 83, 3) by decide +kernel) rfl, ?_⟩
  refine List.forall_mem_cons.mpr ⟨ok_iload C (show decode cX10_good 127 = .ok (.iload 4, 2) by decide +kernel) rfl, ?_⟩
  refine List.forall_mem_cons.mpr ⟨ok_callV C h_X6_lackAt ⟨rfl, rfl⟩ rfl kw_605 kw_602 kw_603 kw_604 kw_6 rfl ds_X6_lackAt ⟨by decide, by decide⟩ (show decode cX10_good 129 = .ok (.invokevirtual 172, 3) by decide +kernel) rfl, ?_⟩
  refine List.forall_mem_cons.mpr ⟨ok_ret C rfl (show decode cX10_good 132 = .ok (.ireturn, 1) by decide +kernel), ?_⟩
  refine List.forall_mem_cons.mpr ⟨ok_aload_n C (show decode cX10_good 133 = .ok (.aload_n 0, 1) by decide +kernel) rfl rfl, ?_⟩
  refine List.forall_mem_cons.mpr ⟨ok_getf C (wi_X10) rfl (by decide) kw_319 (show decode cX10_good 134 = .ok (.getfield 40, 3) by decide +kernel) rfl, ?_⟩
  refine List.forall_mem_cons.mpr ⟨ok_aload_n C (show decode cX10_good 137 = .ok (.aload_n 0, 1) by decide +kernel) rfl rfl, ?_⟩
  refine List.forall_mem_cons.mpr ⟨ok_getf C (wi_X10) rfl (by decide) kw_328 (show decode cX10_good 138 = .ok (.getfield 83, 3) by decide +kernel) rfl, ?_⟩
  refine List.forall_mem_cons.mpr ⟨ok_iload C (show decode cX10_good 141 = .ok (.iload 4, 2) by decide +kernel) rfl, ?_⟩
  refine List.forall_mem_cons.mpr ⟨ok_callV C h_X6_isFalse ⟨rfl, rfl⟩ rfl kw_612 kw_609 kw_610 kw_611 kw_6 rfl ds_X6_isFalse ⟨by decide, by decide⟩ (show decode cX10_good 143 = .ok (.invokevirtual 176, 3) by decide +kernel) rfl, ?_⟩
  refine List.forall_mem_cons.mpr ⟨ok_ifeq C (show decode cX10_good 146 = .ok (.ifCond .eq 7, 3) by decide +kernel) (tg := 153) (by decide) rfl rfl, ?_⟩
  refine List.forall_mem_cons.mpr ⟨ok_iconst C (show decode cX10_good 149 = .ok (.iconst 1, 1) by decide +kernel) (by decide) rfl, ?_⟩
  refine List.forall_mem_cons.mpr ⟨ok_goto C (show decode cX10_good 150 = .ok (.goto 4, 3) by decide +kernel) (tg := 154) (by decide) rfl, ?_⟩
  refine List.forall_mem_cons.mpr ⟨ok_iconst C (show decode cX10_good 153 = .ok (.iconst 0, 1) by decide +kernel) (by decide) rfl, ?_⟩
  refine List.forall_mem_cons.mpr ⟨ok_ret C rfl (show decode cX10_good 154 = .ok (.ireturn, 1) by decide +kernel), ?_⟩
  refine List.forall_mem_cons.mpr ⟨ok_aload_n C (show decode cX10_good 155 = .ok (.aload_n 0, 1) by decide +kernel) rfl rfl, ?_⟩
  refine List.forall_mem_cons.mpr ⟨ok_getf C (wi_X10) rfl (by decide) kw_319 (show decode cX10_good 156 = .ok (.getfield 40, 3) by decide +kernel) rfl, ?_⟩
  refine List.forall_mem_cons.mpr ⟨ok_getf C (wi_X6) rfl (by decide) kw_150 (show decode cX10_good 159 = .ok (.getfield 180, 3) by decide +kernel) rfl, ?_⟩
  refine List.forall_mem_cons.mpr ⟨ok_iload C (show decode cX10_good 162 = .ok (.iload 4, 2) by decide +kernel) rfl, ?_⟩
  refine List.forall_mem_cons.mpr ⟨ok_iaload C (show decode cX10_good 164 = .ok (.iaload, 1) by decide +kernel) rfl, ?_⟩
  refine List.forall_mem_cons.mpr ⟨ok_ret C rfl (show decode cX10_good 165 = .ok (.ireturn, 1) by decide +kernel), ?_⟩
  refine List.forall_mem_cons.mpr ⟨ok_iconst C (show decode cX10_good 166 = .ok (.iconst (-1), 1) by decide +kernel) (by decide) rfl, ?_⟩
  refine List.forall_mem_cons.mpr ⟨ok_ret C rfl (show decode cX10_good 167 = .ok (.ireturn, 1) by decide +kernel), ?_⟩
  exact fun _ h => absurd h List.not_mem_nil
def L_X10_crossed (f_X10_isSlot : List Value → ab_H → Option ab_O) (f_X10_slotOf : List Value → ab_H → Option ab_O) : List (Nat × ab_A) := [
  (0, ab_nx 1 (ab_aload 0)),
  (1, ab_nx 2 (ab_iload 1)),
  (2, ab_nx 3 (ab_iload 2)),
  (3, ab_nx 6 (ab_callV 3 10 f_X10_isSlot 0 0 0 0)),
  (6, ab_if 9 25 (fun x => decide (x = 0))),
  (9, ab_nx 10 (ab_aload 0)),
  (10, ab_nx 13 (ab_getf 10 4)),
  (13, ab_nx 16 (ab_getf 6 3)),
  (16, ab_nx 17 (ab_iload 1)),
  (17, ab_nx 18 (ab_iload 2)),
  (18, ab_nx 21 (ab_call 2 f_X10_slotOf 0 0 0 0)),
  (21, ab_nx 22 (ab_ald 1)),
  (22, ab_goto 26),
  (25, ab_nx 26 (ab_lit (.int (-1)))),
  (26, ab_ret 0 0)]
set_option maxRecDepth 100000 in
set_option maxHeartbeats 4000000 in
theorem M_X10_crossed {l : Launch} {b : ab_B} {D : va_G} {cA : Nat → ClassId} {f_X10_isSlot : List Value → ab_H → Option ab_O} (h_X10_isSlot : ab_M l b D ab_cl cA (ab_E0 b) yX10_isSlot (Cond.code yX10_isSlot cX10_isSlot 3 (some .boolean) :: ab_G) ({ frames := 2, cells := 0, slots := 0, locals := 200 } : Room) f_X10_isSlot) {f_X10_slotOf : List Value → ab_H → Option ab_O} (h_X10_slotOf : ab_M l b D ab_cl cA (ab_E0 b) yX10_slotOf (Cond.code yX10_slotOf cX10_slotOf 2 (some .int) :: ab_G) ({ frames := 1, cells := 0, slots := 0, locals := 100 } : Room) f_X10_slotOf) : ab_M l b D ab_cl cA (ab_E0 b) yX10_crossed (Cond.code yX10_crossed cX10_crossed 3 (some .int) :: ab_G) ({ frames := 3, cells := 0, slots := 0, locals := 300 } : Room) (ab_X (ab_T (L_X10_crossed f_X10_isSlot f_X10_slotOf)) 3) := by
  refine ab_meth (ret := (some .int)) (L_X10_crossed f_X10_isSlot f_X10_slotOf) (by decide) rfl fun p e R s m args below meth c o C => ?_
  unfold L_X10_crossed
  refine List.forall_mem_cons.mpr ⟨ok_aload_n C (show decode cX10_crossed 0 = .ok (.aload_n 0, 1) by decide +kernel) rfl rfl, ?_⟩
  refine List.forall_mem_cons.mpr ⟨ok_iload_n C (show decode cX10_crossed 1 = .ok (.iload_n 1, 1) by decide +kernel) rfl rfl, ?_⟩
  refine List.forall_mem_cons.mpr ⟨ok_iload_n C (show decode cX10_crossed 2 = .ok (.iload_n 2, 1) by decide +kernel) rfl rfl, ?_⟩
  refine List.forall_mem_cons.mpr ⟨ok_callV C h_X10_isSlot ⟨rfl, rfl⟩ rfl kw_592 kw_589 kw_591 kp_15 kw_1 rfl ds_X10_isSlot ⟨by decide, by decide⟩ (show decode cX10_crossed 3 = .ok (.invokevirtual 155, 3) by decide +kernel) rfl, ?_⟩
  refine List.forall_mem_cons.mpr ⟨ok_ifeq C (show decode cX10_crossed 6 = .ok (.ifCond .eq 19, 3) by decide +kernel) (tg := 25) (by decide) rfl rfl, ?_⟩
  refine List.forall_mem_cons.mpr ⟨ok_aload_n C (show decode cX10_crossed 9 = .ok (.aload_n 0, 1) by decide +kernel) rfl rfl, ?_⟩
  refine List.forall_mem_cons.mpr ⟨ok_getf C (wi_X10) rfl (by decide) kw_319 (show decode cX10_crossed 10 = .ok (.getfield 40, 3) by decide +kernel) rfl, ?_⟩
  refine List.forall_mem_cons.mpr ⟨ok_getf C (wi_X6) rfl (by decide) kw_153 (show decode cX10_crossed 13 = .ok (.getfield 183, 3) by decide +kernel) rfl, ?_⟩
  refine List.forall_mem_cons.mpr ⟨ok_iload_n C (show decode cX10_crossed 16 = .ok (.iload_n 1, 1) by decide +kernel) rfl rfl, ?_⟩
  refine List.forall_mem_cons.mpr ⟨ok_iload_n C (show decode cX10_crossed 17 = .ok (.iload_n 2, 1) by decide +kernel) rfl rfl, ?_⟩
  refine List.forall_mem_cons.mpr ⟨ok_callS C h_X10_slotOf ⟨rfl, rfl⟩ kw_532 kw_600 kw_531 kw_1 ds_X10_slotOf ⟨by decide, by decide⟩ (show decode cX10_crossed 18 = .ok (.invokestatic 159, 3) by decide +kernel) rfl, ?_⟩
  refine List.forall_mem_cons.mpr ⟨ok_iaload C (show decode cX10_crossed 21 = .ok (.iaload, 1) by decide +kernel) rfl, ?_⟩
  refine List.forall_mem_cons.mpr ⟨ok_goto C (show decode cX10_crossed 22 = .ok (.goto 4, 3) by decide +kernel) (tg := 26) (by decide) rfl, ?_⟩
  refine List.forall_mem_cons.mpr ⟨ok_iconst C (show decode cX10_crossed 25 = .ok (.iconst (-1), 1) by decide +kernel) (by decide) rfl, ?_⟩
  refine List.forall_mem_cons.mpr ⟨ok_ret C rfl (show decode cX10_crossed 26 = .ok (.ireturn, 1) by decide +kernel), ?_⟩
  exact fun _ h => absurd h List.not_mem_nil
def L_X10_apart (f_X10_areLivingTwo : List Value → ab_H → Option ab_O) (f_X6_apartOf : List Value → ab_H → Option ab_O) : List (Nat × ab_A) := [
  (0, ab_nx 1 (ab_aload 0)),
  (1, ab_nx 2 (ab_iload 1)),
  (2, ab_nx 3 (ab_iload 2)),
  (3, ab_nx 6 (ab_callV 3 10 f_X10_areLivingTwo 0 0 0 0)),
  (6, ab_if 9 21 (fun x => decide (x = 0))),
  (9, ab_nx 10 (ab_aload 0)),
  (10, ab_nx 13 (ab_getf 10 4)),
  (13, ab_nx 14 (ab_iload 1)),
  (14, ab_nx 15 (ab_iload 2)),
  (15, ab_nx 18 (ab_callV 3 6 f_X6_apartOf 0 0 0 0)),
  (18, ab_goto 22),
  (21, ab_nx 22 (ab_lit (.int (-1)))),
  (22, ab_ret 0 0)]
set_option maxRecDepth 100000 in
set_option maxHeartbeats 4000000 in
theorem M_X10_apart {l : Launch} {b : ab_B} {D : va_G} {cA : Nat → ClassId} {f_X10_areLivingTwo : List Value → ab_H → Option ab_O} (h_X10_areLivingTwo : ab_M l b D ab_cl cA (ab_E0 b) yX10_areLivingTwo (Cond.code yX10_areLivingTwo cX10_areLivingTwo 3 (some .boolean) :: ab_G) ({ frames := 2, cells := 0, slots := 0, locals := 200 } : Room) f_X10_areLivingTwo) {f_X6_apartOf : List Value → ab_H → Option ab_O} (h_X6_apartOf : ab_M l b D ab_cl cA (ab_E0 b) yX6_apartOf (Cond.code yX6_apartOf cX6_apartOf 3 (some .int) :: ab_G) ({ frames := 1, cells := 0, slots := 0, locals := 100 } : Room) f_X6_apartOf) : ab_M l b D ab_cl cA (ab_E0 b) yX10_apart (Cond.code yX10_apart cX10_apart 3 (some .int) :: ab_G) ({ frames := 3, cells := 0, slots := 0, locals := 300 } : Room) (ab_X (ab_T (L_X10_apart f_X10_areLivingTwo f_X6_apartOf)) 3) := by
  refine ab_meth (ret := (some .int)) (L_X10_apart f_X10_areLivingTwo f_X6_apartOf) (by decide) rfl fun p e R s m args below meth c o C => ?_
  unfold L_X10_apart
  refine List.forall_mem_cons.mpr ⟨ok_aload_n C (show decode cX10_apart 0 = .ok (.aload_n 0, 1) by decide +kernel) rfl rfl, ?_⟩
  refine List.forall_mem_cons.mpr ⟨ok_iload_n C (show decode cX10_apart 1 = .ok (.iload_n 1, 1) by decide +kernel) rfl rfl, ?_⟩
  refine List.forall_mem_cons.mpr ⟨ok_iload_n C (show decode cX10_apart 2 = .ok (.iload_n 2, 1) by decide +kernel) rfl rfl, ?_⟩
  refine List.forall_mem_cons.mpr ⟨ok_callV C h_X10_areLivingTwo ⟨rfl, rfl⟩ rfl kw_624 kw_621 kw_623 kp_17 kw_1 rfl ds_X10_areLivingTwo ⟨by decide, by decide⟩ (show decode cX10_apart 3 = .ok (.invokevirtual 207, 3) by decide +kernel) rfl, ?_⟩
  refine List.forall_mem_cons.mpr ⟨ok_ifeq C (show decode cX10_apart 6 = .ok (.ifCond .eq 15, 3) by decide +kernel) (tg := 21) (by decide) rfl rfl, ?_⟩
  refine List.forall_mem_cons.mpr ⟨ok_aload_n C (show decode cX10_apart 9 = .ok (.aload_n 0, 1) by decide +kernel) rfl rfl, ?_⟩
  refine List.forall_mem_cons.mpr ⟨ok_getf C (wi_X10) rfl (by decide) kw_319 (show decode cX10_apart 10 = .ok (.getfield 40, 3) by decide +kernel) rfl, ?_⟩
  refine List.forall_mem_cons.mpr ⟨ok_iload_n C (show decode cX10_apart 13 = .ok (.iload_n 1, 1) by decide +kernel) rfl rfl, ?_⟩
  refine List.forall_mem_cons.mpr ⟨ok_iload_n C (show decode cX10_apart 14 = .ok (.iload_n 2, 1) by decide +kernel) rfl rfl, ?_⟩
  refine List.forall_mem_cons.mpr ⟨ok_callV C h_X6_apartOf ⟨rfl, rfl⟩ rfl kw_636 kw_633 kw_634 kw_635 kw_6 rfl ds_X6_apartOf ⟨by decide, by decide⟩ (show decode cX10_apart 15 = .ok (.invokevirtual 210, 3) by decide +kernel) rfl, ?_⟩
  refine List.forall_mem_cons.mpr ⟨ok_goto C (show decode cX10_apart 18 = .ok (.goto 4, 3) by decide +kernel) (tg := 22) (by decide) rfl, ?_⟩
  refine List.forall_mem_cons.mpr ⟨ok_iconst C (show decode cX10_apart 21 = .ok (.iconst (-1), 1) by decide +kernel) (by decide) rfl, ?_⟩
  refine List.forall_mem_cons.mpr ⟨ok_ret C rfl (show decode cX10_apart 22 = .ok (.ireturn, 1) by decide +kernel), ?_⟩
  exact fun _ h => absurd h List.not_mem_nil
def L_X10_now (f_X6_ferryShore : List Value → ab_H → Option ab_O) (f_X6_menOn : List Value → ab_H → Option ab_O) (f_X6_hungerInAll : List Value → ab_H → Option ab_O) : List (Nat × ab_A) := [
  (0, ab_nx 1 (ab_iload 1)),
  (1, ab_tab 0 [44, 52, 60, 73, 86, 94, 102] 110),
  (44, ab_nx 45 (ab_aload 0)),
  (45, ab_nx 48 (ab_getf 10 4)),
  (48, ab_nx 51 (ab_getf 6 7)),
  (51, ab_ret 0 0),
  (52, ab_nx 53 (ab_aload 0)),
  (53, ab_nx 56 (ab_getf 10 4)),
  (56, ab_nx 59 (ab_callV 1 6 f_X6_ferryShore 0 0 0 0)),
  (59, ab_ret 0 0),
  (60, ab_nx 61 (ab_aload 0)),
  (61, ab_nx 64 (ab_getf 10 4)),
  (64, ab_nx 65 (ab_aload 0)),
  (65, ab_nx 68 (ab_getf 10 13)),
  (68, ab_nx 69 (ab_lit (.int 0))),
  (69, ab_nx 72 (ab_callV 3 6 f_X6_menOn 0 0 0 0)),
  (72, ab_ret 0 0),
  (73, ab_nx 74 (ab_aload 0)),
  (74, ab_nx 77 (ab_getf 10 4)),
  (77, ab_nx 78 (ab_aload 0)),
  (78, ab_nx 81 (ab_getf 10 13)),
  (81, ab_nx 82 (ab_lit (.int 1))),
  (82, ab_nx 85 (ab_callV 3 6 f_X6_menOn 0 0 0 0)),
  (85, ab_ret 0 0),
  (86, ab_nx 87 (ab_aload 0)),
  (87, ab_nx 90 (ab_getf 10 4)),
  (90, ab_nx 93 (ab_getf 6 8)),
  (93, ab_ret 0 0),
  (94, ab_nx 95 (ab_aload 0)),
  (95, ab_nx 98 (ab_getf 10 4)),
  (98, ab_nx 101 (ab_getf 6 9)),
  (101, ab_ret 0 0),
  (102, ab_nx 103 (ab_aload 0)),
  (103, ab_nx 106 (ab_getf 10 4)),
  (106, ab_nx 109 (ab_callV 1 6 f_X6_hungerInAll 0 0 0 0)),
  (109, ab_ret 0 0),
  (110, ab_nx 111 (ab_lit (.int (-1)))),
  (111, ab_ret 0 0)]
set_option maxRecDepth 100000 in
set_option maxHeartbeats 4000000 in
theorem M_X10_now {l : Launch} {b : ab_B} {D : va_G} {cA : Nat → ClassId} {f_X6_ferryShore : List Value → ab_H → Option ab_O} (h_X6_ferryShore : ab_M l b D ab_cl cA (ab_E0 b) yX6_ferryShore (Cond.code yX6_ferryShore cX6_ferryShore 1 (some .int) :: ab_G) ({ frames := 1, cells := 0, slots := 0, locals := 100 } : Room) f_X6_ferryShore) {f_X6_menOn : List Value → ab_H → Option ab_O} (h_X6_menOn : ab_M l b D ab_cl cA (ab_E0 b) yX6_menOn (Cond.code yX6_menOn cX6_menOn 5 (some .int) :: ab_G) ({ frames := 1, cells := 0, slots := 0, locals := 100 } : Room) f_X6_menOn) {f_X6_hungerInAll : List Value → ab_H → Option ab_O} (h_X6_hungerInAll : ab_M l b D ab_cl cA (ab_E0 b) yX6_hungerInAll (Cond.code yX6_hungerInAll cX6_hungerInAll 3 (some .int) :: ab_G) ({ frames := 1, cells := 0, slots := 0, locals := 100 } : Room) f_X6_hungerInAll) : ab_M l b D ab_cl cA (ab_E0 b) yX10_now (Cond.code yX10_now cX10_now 2 (some .int) :: ab_G) ({ frames := 2, cells := 0, slots := 0, locals := 200 } : Room) (ab_X (ab_T (L_X10_now f_X6_ferryShore f_X6_menOn f_X6_hungerInAll)) 2) := by
  refine ab_meth (ret := (some .int)) (L_X10_now f_X6_ferryShore f_X6_menOn f_X6_hungerInAll) (by decide) rfl fun p e R s m args below meth c o C => ?_
  unfold L_X10_now
  refine List.forall_mem_cons.mpr ⟨ok_iload_n C (show decode cX10_now 0 = .ok (.iload_n 1, 1) by decide +kernel) rfl rfl, ?_⟩
  refine List.forall_mem_cons.mpr ⟨ok_tab C (show decode cX10_now 1 = .ok (.tableswitch 109 0 6 #[43, 51, 59, 72, 85, 93, 101], 43) by decide +kernel) (by decide) (by decide) (by decide), ?_⟩
  refine List.forall_mem_cons.mpr ⟨ok_aload_n C (show decode cX10_now 44 = .ok (.aload_n 0, 1) by decide +kernel) rfl rfl, ?_⟩
  refine List.forall_mem_cons.mpr ⟨ok_getf C (wi_X10) rfl (by decide) kw_319 (show decode cX10_now 45 = .ok (.getfield 40, 3) by decide +kernel) rfl, ?_⟩
  refine List.forall_mem_cons.mpr ⟨ok_getf C (wi_X6) rfl (by decide) kw_164 (show decode cX10_now 48 = .ok (.getfield 213, 3) by decide +kernel) rfl, ?_⟩
  refine List.forall_mem_cons.mpr ⟨ok_ret C rfl (show decode cX10_now 51 = .ok (.ireturn, 1) by decide +kernel), ?_⟩
  refine List.forall_mem_cons.mpr ⟨ok_aload_n C (show decode cX10_now 52 = .ok (.aload_n 0, 1) by decide +kernel) rfl rfl, ?_⟩
  refine List.forall_mem_cons.mpr ⟨ok_getf C (wi_X10) rfl (by decide) kw_319 (show decode cX10_now 53 = .ok (.getfield 40, 3) by decide +kernel) rfl, ?_⟩
  refine List.forall_mem_cons.mpr ⟨ok_callV C h_X6_ferryShore ⟨rfl, rfl⟩ rfl kw_644 kw_641 kw_642 kw_643 kw_6 rfl ds_X6_ferryShore ⟨by decide, by decide⟩ (show decode cX10_now 56 = .ok (.invokevirtual 216, 3) by decide +kernel) rfl, ?_⟩
  refine List.forall_mem_cons.mpr ⟨ok_ret C rfl (show decode cX10_now 59 = .ok (.ireturn, 1) by decide +kernel), ?_⟩
  refine List.forall_mem_cons.mpr ⟨ok_aload_n C (show decode cX10_now 60 = .ok (.aload_n 0, 1) by decide +kernel) rfl rfl, ?_⟩
  refine List.forall_mem_cons.mpr ⟨ok_getf C (wi_X10) rfl (by decide) kw_319 (show decode cX10_now 61 = .ok (.getfield 40, 3) by decide +kernel) rfl, ?_⟩
  refine List.forall_mem_cons.mpr ⟨ok_aload_n C (show decode cX10_now 64 = .ok (.aload_n 0, 1) by decide +kernel) rfl rfl, ?_⟩
  refine List.forall_mem_cons.mpr ⟨ok_getf C (wi_X10) rfl (by decide) kw_328 (show decode cX10_now 65 = .ok (.getfield 83, 3) by decide +kernel) rfl, ?_⟩
  refine List.forall_mem_cons.mpr ⟨ok_iconst C (show decode cX10_now 68 = .ok (.iconst 0, 1) by decide +kernel) (by decide) rfl, ?_⟩
  refine List.forall_mem_cons.mpr ⟨ok_callV C h_X6_menOn ⟨rfl, rfl⟩ rfl kw_648 kw_645 kw_646 kw_647 kw_6 rfl ds_X6_menOn ⟨by decide, by decide⟩ (show decode cX10_now 69 = .ok (.invokevirtual 220, 3) by decide +kernel) rfl, ?_⟩
  refine List.forall_mem_cons.mpr ⟨ok_ret C rfl (show decode cX10_now 72 = .ok (.ireturn, 1) by decide +kernel), ?_⟩
  refine List.forall_mem_cons.mpr ⟨ok_aload_n C (show decode cX10_now 73 = .ok (.aload_n 0, 1) by decide +kernel) rfl rfl, ?_⟩
  refine List.forall_mem_cons.mpr ⟨ok_getf C (wi_X10) rfl (by decide) kw_319 (show decode cX10_now 74 = .ok (.getfield 40, 3) by decide +kernel) rfl, ?_⟩
  refine List.forall_mem_cons.mpr ⟨ok_aload_n C (show decode cX10_now 77 = .ok (.aload_n 0, 1) by decide +kernel) rfl rfl, ?_⟩
  refine List.forall_mem_cons.mpr ⟨ok_getf C (wi_X10) rfl (by decide) kw_328 (show decode cX10_now 78 = .ok (.getfield 83, 3) by decide +kernel) rfl, ?_⟩
  refine List.forall_mem_cons.mpr ⟨ok_iconst C (show decode cX10_now 81 = .ok (.iconst 1, 1) by decide +kernel) (by decide) rfl, ?_⟩
  refine List.forall_mem_cons.mpr ⟨ok_callV C h_X6_menOn ⟨rfl, rfl⟩ rfl kw_648 kw_645 kw_646 kw_647 kw_6 rfl ds_X6_menOn ⟨by decide, by decide⟩ (show decode cX10_now 82 = .ok (.invokevirtual 220, 3) by decide +kernel) rfl, ?_⟩
  refine List.forall_mem_cons.mpr ⟨ok_ret C rfl (show decode cX10_now 85 = .ok (.ireturn, 1) by decide +kernel), ?_⟩
  refine List.forall_mem_cons.mpr ⟨ok_aload_n C (show decode cX10_now 86 = .ok (.aload_n 0, 1) by decide +kernel) rfl rfl, ?_⟩
  refine List.forall_mem_cons.mpr ⟨ok_getf C (wi_X10) rfl (by decide) kw_319 (show decode cX10_now 87 = .ok (.getfield 40, 3) by decide +kernel) rfl, ?_⟩
  refine List.forall_mem_cons.mpr ⟨ok_getf C (wi_X6) rfl (by decide) kw_167 (show decode cX10_now 90 = .ok (.getfield 223, 3) by decide +kernel) rfl, ?_⟩
  refine List.forall_mem_cons.mpr ⟨ok_ret C rfl (show decode cX10_now 93 = .ok (.ireturn, 1) by decide +kernel), ?_⟩
  refine List.forall_mem_cons.mpr ⟨ok_aload_n C (show decode cX10_now 94 = .ok (.aload_n 0, 1) by decide +kernel) rfl rfl, ?_⟩
  refine List.forall_mem_cons.mpr ⟨ok_getf C (wi_X10) rfl (by decide) kw_319 (show decode cX10_now 95 = .ok (.getfield 40, 3) by decide +kernel) rfl, ?_⟩
  refine List.forall_mem_cons.mpr ⟨ok_getf C (wi_X6) rfl (by decide) kw_170 (show decode cX10_now 98 = .ok (.getfield 226, 3) by decide +kernel) rfl, ?_⟩
  refine List.forall_mem_cons.mpr ⟨ok_ret C rfl (show decode cX10_now 101 = .ok (.ireturn, 1) by decide +kernel), ?_⟩
  refine List.forall_mem_cons.mpr ⟨ok_aload_n C (show decode cX10_now 102 = .ok (.aload_n 0, 1) by decide +kernel) rfl rfl, ?_⟩
  refine List.forall_mem_cons.mpr ⟨ok_getf C (wi_X10) rfl (by decide) kw_319 (show decode cX10_now 103 = .ok (.getfield 40, 3) by decide +kernel) rfl, ?_⟩
  refine List.forall_mem_cons.mpr ⟨ok_callV C h_X6_hungerInAll ⟨rfl, rfl⟩ rfl kw_652 kw_649 kw_650 kw_651 kw_6 rfl ds_X6_hungerInAll ⟨by decide, by decide⟩ (show decode cX10_now 106 = .ok (.invokevirtual 229, 3) by decide +kernel) rfl, ?_⟩
  refine List.forall_mem_cons.mpr ⟨ok_ret C rfl (show decode cX10_now 109 = .ok (.ireturn, 1) by decide +kernel), ?_⟩
  refine List.forall_mem_cons.mpr ⟨ok_iconst C (show decode cX10_now 110 = .ok (.iconst (-1), 1) by decide +kernel) (by decide) rfl, ?_⟩
  refine List.forall_mem_cons.mpr ⟨ok_ret C rfl (show decode cX10_now 111 = .ok (.ireturn, 1) by decide +kernel), ?_⟩
  exact fun _ h => absurd h List.not_mem_nil
def L_X10_lacks (f_X10_isShore : List Value → ab_H → Option ab_O) (f_X10_slotOf : List Value → ab_H → Option ab_O) (f_X6_lackAt : List Value → ab_H → Option ab_O) : List (Nat × ab_A) := [
  (0, ab_nx 1 (ab_iload 1)),
  (1, ab_nx 4 (ab_call 1 f_X10_isShore 0 0 0 0)),
  (4, ab_if 7 9 (fun x => !decide (x = 0))),
  (7, ab_nx 8 (ab_lit (.int (-1)))),
  (8, ab_ret 0 0),
  (9, ab_nx 10 (ab_lit (.int 0))),
  (10, ab_nx 11 (ab_istore 2)),
  (11, ab_nx 12 (ab_lit (.int 0))),
  (12, ab_nx 13 (ab_istore 3)),
  (13, ab_nx 14 (ab_iload 3)),
  (14, ab_nx 15 (ab_aload 0)),
  (15, ab_nx 18 (ab_getf 10 13)),
  (18, ab_nx 21 (ab_getf 7 8)),
  (21, ab_icmp 24 55 (fun x y => decide (y ≤ x))),
  (24, ab_nx 25 (ab_aload 0)),
  (25, ab_nx 28 (ab_getf 10 4)),
  (28, ab_nx 29 (ab_aload 0)),
  (29, ab_nx 32 (ab_getf 10 13)),
  (32, ab_nx 33 (ab_iload 3)),
  (33, ab_nx 34 (ab_iload 1)),
  (34, ab_nx 37 (ab_call 2 f_X10_slotOf 0 0 0 0)),
  (37, ab_nx 40 (ab_callV 3 6 f_X6_lackAt 0 0 0 0)),
  (40, ab_if 43 49 (fun x => decide (x ≤ 0))),
  (43, ab_nx 44 (ab_iload 2)),
  (44, ab_nx 45 (ab_lit (.int 1))),
  (45, ab_nx 46 (ab_iload 3)),
  (46, ab_nx 47 (ab_bin (fun x y => x <<< (y &&& 31)))),
  (47, ab_nx 48 (ab_bin (fun x y => x ||| y))),
  (48, ab_nx 49 (ab_istore 2)),
  (49, ab_nx 52 (ab_iinc 3 1)),
  (52, ab_goto 13),
  (55, ab_nx 56 (ab_iload 2)),
  (56, ab_ret 0 0)]
set_option maxRecDepth 100000 in
set_option maxHeartbeats 4000000 in
theorem M_X10_lacks {l : Launch} {b : ab_B} {D : va_G} {cA : Nat → ClassId} {f_X10_isShore : List Value → ab_H → Option ab_O} (h_X10_isShore : ab_M l b D ab_cl cA (ab_E0 b) yX10_isShore (Cond.code yX10_isShore cX10_isShore 1 (some .boolean) :: ab_G) ({ frames := 1, cells := 0, slots := 0, locals := 100 } : Room) f_X10_isShore) {f_X10_slotOf : List Value → ab_H → Option ab_O} (h_X10_slotOf : ab_M l b D ab_cl cA (ab_E0 b) yX10_slotOf (Cond.code yX10_slotOf cX10_slotOf 2 (some .int) :: ab_G) ({ frames := 1, cells := 0, slots := 0, locals := 100 } : Room) f_X10_slotOf) {f_X6_lackAt : List Value → ab_H → Option ab_O} (h_X6_lackAt : ab_M l b D ab_cl cA (ab_E0 b) yX6_lackAt (Cond.code yX6_lackAt cX6_lackAt 3 (some .int) :: ab_G) ({ frames := 2, cells := 0, slots := 0, locals := 200 } : Room) f_X6_lackAt) : ab_M l b D ab_cl cA (ab_E0 b) yX10_lacks (Cond.code yX10_lacks cX10_lacks 4 (some .int) :: ab_G) ({ frames := 3, cells := 0, slots := 0, locals := 300 } : Room) (ab_X (ab_T (L_X10_lacks f_X10_isShore f_X10_slotOf f_X6_lackAt)) 4) := by
  refine ab_meth (ret := (some .int)) (L_X10_lacks f_X10_isShore f_X10_slotOf f_X6_lackAt) (by decide) rfl fun p e R s m args below meth c o C => ?_
  unfold L_X10_lacks
  refine List.forall_mem_cons.mpr ⟨ok_iload_n C (show decode cX10_lacks 0 = .ok (.iload_n 1, 1) by decide +kernel) rfl rfl, ?_⟩
  refine List.forall_mem_cons.mpr ⟨ok_callS C h_X10_isShore ⟨rfl, rfl⟩ kw_599 kw_597 kw_598 kw_1 ds_X10_isShore ⟨by decide, by decide⟩ (show decode cX10_lacks 1 = .ok (.invokestatic 143, 3) by decide +kernel) rfl, ?_⟩
  refine List.forall_mem_cons.mpr ⟨ok_ifne C (show decode cX10_lacks 4 = .ok (.ifCond .ne 5, 3) by decide +kernel) (tg := 9) (by decide) rfl rfl, ?_⟩
  refine List.forall_mem_cons.mpr ⟨ok_iconst C (show decode cX10_lacks 7 = .ok (.iconst (-1), 1) by decide +kernel) (by decide) rfl, ?_⟩
  refine List.forall_mem_cons.mpr ⟨ok_ret C rfl (show decode cX10_lacks 8 = .ok (.ireturn, 1) by decide +kernel), ?_⟩
  refine List.forall_mem_cons.mpr ⟨ok_iconst C (show decode cX10_lacks 9 = .ok (.iconst 0, 1) by decide +kernel) (by decide) rfl, ?_⟩
  refine List.forall_mem_cons.mpr ⟨ok_istore_n C (show decode cX10_lacks 10 = .ok (.istore_n 2, 1) by decide +kernel) rfl (by decide) rfl, ?_⟩
  refine List.forall_mem_cons.mpr ⟨ok_iconst C (show decode cX10_lacks 11 = .ok (.iconst 0, 1) by decide +kernel) (by decide) rfl, ?_⟩
  refine List.forall_mem_cons.mpr ⟨ok_istore_n C (show decode cX10_lacks 12 = .ok (.istore_n 3, 1) by decide +kernel) rfl (by decide) rfl, ?_⟩
  refine List.forall_mem_cons.mpr ⟨ok_iload_n C (show decode cX10_lacks 13 = .ok (.iload_n 3, 1) by decide +kernel) rfl rfl, ?_⟩
  refine List.forall_mem_cons.mpr ⟨ok_aload_n C (show decode cX10_lacks 14 = .ok (.aload_n 0, 1) by decide +kernel) rfl rfl, ?_⟩
  refine List.forall_mem_cons.mpr ⟨ok_getf C (wi_X10) rfl (by decide) kw_328 (show decode cX10_lacks 15 = .ok (.getfield 83, 3) by decide +kernel) rfl, ?_⟩
  refine List.forall_mem_cons.mpr ⟨ok_getf C (wi_X7) rfl (by decide) kw_250 (show decode cX10_lacks 18 = .ok (.getfield 136, 3) by decide +kernel) rfl, ?_⟩
  refine List.forall_mem_cons.mpr ⟨ok_icmpge C (show decode cX10_lacks 21 = .ok (.if_icmp .ge 34, 3) by decide +kernel) (tg := 55) (by decide) rfl rfl, ?_⟩
  refine List.forall_mem_cons.mpr ⟨ok_aload_n C (show decode cX10_lacks 24 = .ok (.aload_n 0, 1) by decide +kernel) rfl rfl, ?_⟩
  refine List.forall_mem_cons.mpr ⟨ok_getf C (wi_X10) rfl (by decide) kw_319 (show decode cX10_lacks 25 = .ok (.getfield 40, 3) by decide +kernel) rfl, ?_⟩
  refine List.forall_mem_cons.mpr ⟨ok_aload_n C (show decode cX10_lacks 28 = .ok (.aload_n 0, 1) by decide +kernel) rfl rfl, ?_⟩
  refine List.forall_mem_cons.mpr ⟨ok_getf C (wi_X10) rfl (by decide) kw_328 (show decode cX10_lacks 29 = .ok (.getfield 83, 3) by decide +kernel) rfl, ?_⟩
  refine List.forall_mem_cons.mpr ⟨ok_iload_n C (show decode cX10_lacks 32 = .ok (.iload_n 3, 1) by decide +kernel) rfl rfl, ?_⟩
  refine List.forall_mem_cons.mpr ⟨ok_iload_n C (show decode cX10_lacks 33 = .ok (.iload_n 1, 1) by decide +kernel) rfl rfl, ?_⟩
  refine List.forall_mem_cons.mpr ⟨ok_callS C h_X10_slotOf ⟨rfl, rfl⟩ kw_532 kw_600 kw_531 kw_1 ds_X10_slotOf ⟨by decide, by decide⟩ (show decode cX10_lacks 34 = .ok (.invokestatic 159, 3) by decide +kernel) rfl, ?_⟩
  refine List.forall_mem_cons.mpr ⟨ok_callV C h_X6_lackAt ⟨rfl, rfl⟩ rfl kw_605 kw_602 kw_603 kw_604 kw_6 rfl ds_X6_lackAt ⟨by decide, by decide⟩ (show decode cX10_lacks 37 = .ok (.invokevirtual 172, 3) by decide +kernel) rfl, ?_⟩
  refine List.forall_mem_cons.mpr ⟨ok_ifle C (show decode cX10_lacks 40 = .ok (.ifCond .le 9, 3) by decide +kernel) (tg := 49) (by decide) rfl rfl, ?_⟩
  refine List.forall_mem_cons.mpr ⟨ok_iload_n C (show decode cX10_lacks 43 = .ok (.iload_n 2, 1) by decide +kernel) rfl rfl, ?_⟩
  refine List.forall_mem_cons.mpr ⟨ok_iconst C (show decode cX10_lacks 44 = .ok (.iconst 1, 1) by decide +kernel) (by decide) rfl, ?_⟩
  refine List.forall_mem_cons.mpr ⟨ok_iload_n C (show decode cX10_lacks 45 = .ok (.iload_n 3, 1) by decide +kernel) rfl rfl, ?_⟩
  refine List.forall_mem_cons.mpr ⟨ok_ishl C (show decode cX10_lacks 46 = .ok (.ishl, 1) by decide +kernel) rfl, ?_⟩
  refine List.forall_mem_cons.mpr ⟨ok_ior C (show decode cX10_lacks 47 = .ok (.ior, 1) by decide +kernel) rfl, ?_⟩
  refine List.forall_mem_cons.mpr ⟨ok_istore_n C (show decode cX10_lacks 48 = .ok (.istore_n 2, 1) by decide +kernel) rfl (by decide) rfl, ?_⟩
  refine List.forall_mem_cons.mpr ⟨ok_iinc C (show decode cX10_lacks 49 = .ok (.iinc 3 1, 3) by decide +kernel) (by decide) (by decide) rfl, ?_⟩
  refine List.forall_mem_cons.mpr ⟨ok_goto C (show decode cX10_lacks 52 = .ok (.goto (-39), 3) by decide +kernel) (tg := 13) (by decide) rfl, ?_⟩
  refine List.forall_mem_cons.mpr ⟨ok_iload_n C (show decode cX10_lacks 55 = .ok (.iload_n 2, 1) by decide +kernel) rfl rfl, ?_⟩
  refine List.forall_mem_cons.mpr ⟨ok_ret C rfl (show decode cX10_lacks 56 = .ok (.ireturn, 1) by decide +kernel), ?_⟩
  exact fun _ h => absurd h List.not_mem_nil
def L_X10_falses (f_X10_isShore : List Value → ab_H → Option ab_O) (f_X10_slotOf : List Value → ab_H → Option ab_O) (f_X6_isFalse : List Value → ab_H → Option ab_O) : List (Nat × ab_A) := [
  (0, ab_nx 1 (ab_iload 1)),
  (1, ab_nx 4 (ab_call 1 f_X10_isShore 0 0 0 0)),
  (4, ab_if 7 9 (fun x => !decide (x = 0))),
  (7, ab_nx 8 (ab_lit (.int (-1)))),
  (8, ab_ret 0 0),
  (9, ab_nx 10 (ab_lit (.int 0))),
  (10, ab_nx 11 (ab_istore 2)),
  (11, ab_nx 12 (ab_lit (.int 0))),
  (12, ab_nx 13 (ab_istore 3)),
  (13, ab_nx 14 (ab_iload 3)),
  (14, ab_nx 15 (ab_aload 0)),
  (15, ab_nx 18 (ab_getf 10 13)),
  (18, ab_nx 21 (ab_getf 7 8)),
  (21, ab_icmp 24 55 (fun x y => decide (y ≤ x))),
  (24, ab_nx 25 (ab_aload 0)),
  (25, ab_nx 28 (ab_getf 10 4)),
  (28, ab_nx 29 (ab_aload 0)),
  (29, ab_nx 32 (ab_getf 10 13)),
  (32, ab_nx 33 (ab_iload 3)),
  (33, ab_nx 34 (ab_iload 1)),
  (34, ab_nx 37 (ab_call 2 f_X10_slotOf 0 0 0 0)),
  (37, ab_nx 40 (ab_callV 3 6 f_X6_isFalse 0 0 0 0)),
  (40, ab_if 43 49 (fun x => decide (x = 0))),
  (43, ab_nx 44 (ab_iload 2)),
  (44, ab_nx 45 (ab_lit (.int 1))),
  (45, ab_nx 46 (ab_iload 3)),
  (46, ab_nx 47 (ab_bin (fun x y => x <<< (y &&& 31)))),
  (47, ab_nx 48 (ab_bin (fun x y => x ||| y))),
  (48, ab_nx 49 (ab_istore 2)),
  (49, ab_nx 52 (ab_iinc 3 1)),
  (52, ab_goto 13),
  (55, ab_nx 56 (ab_iload 2)),
  (56, ab_ret 0 0)]
set_option maxRecDepth 100000 in
set_option maxHeartbeats 4000000 in
theorem M_X10_falses {l : Launch} {b : ab_B} {D : va_G} {cA : Nat → ClassId} {f_X10_isShore : List Value → ab_H → Option ab_O} (h_X10_isShore : ab_M l b D ab_cl cA (ab_E0 b) yX10_isShore (Cond.code yX10_isShore cX10_isShore 1 (some .boolean) :: ab_G) ({ frames := 1, cells := 0, slots := 0, locals := 100 } : Room) f_X10_isShore) {f_X10_slotOf : List Value → ab_H → Option ab_O} (h_X10_slotOf : ab_M l b D ab_cl cA (ab_E0 b) yX10_slotOf (Cond.code yX10_slotOf cX10_slotOf 2 (some .int) :: ab_G) ({ frames := 1, cells := 0, slots := 0, locals := 100 } : Room) f_X10_slotOf) {f_X6_isFalse : List Value → ab_H → Option ab_O} (h_X6_isFalse : ab_M l b D ab_cl cA (ab_E0 b) yX6_isFalse (Cond.code yX6_isFalse cX6_isFalse 4 (some .boolean) :: ab_G) ({ frames := 2, cells := 0, slots := 0, locals := 200 } : Room) f_X6_isFalse) : ab_M l b D ab_cl cA (ab_E0 b) yX10_falses (Cond.code yX10_falses cX10_falses 4 (some .int) :: ab_G) ({ frames := 3, cells := 0, slots := 0, locals := 300 } : Room) (ab_X (ab_T (L_X10_falses f_X10_isShore f_X10_slotOf f_X6_isFalse)) 4) := by
  refine ab_meth (ret := (some .int)) (L_X10_falses f_X10_isShore f_X10_slotOf f_X6_isFalse) (by decide) rfl fun p e R s m args below meth c o C => ?_
  unfold L_X10_falses
  refine List.forall_mem_cons.mpr ⟨ok_iload_n C (show decode cX10_falses 0 = .ok (.iload_n 1, 1) by decide +kernel) rfl rfl, ?_⟩
  refine List.forall_mem_cons.mpr ⟨ok_callS C h_X10_isShore ⟨rfl, rfl⟩ kw_599 kw_597 kw_598 kw_1 ds_X10_isShore ⟨by decide, by decide⟩ (show decode cX10_falses 1 = .ok (.invokestatic 143, 3) by decide +kernel) rfl, ?_⟩
  refine List.forall_mem_cons.mpr ⟨ok_ifne C (show decode cX10_falses 4 = .ok (.ifCond .ne 5, 3) by decide +kernel) (tg := 9) (by decide) rfl rfl, ?_⟩
  refine List.forall_mem_cons.mpr ⟨ok_iconst C (show decode cX10_falses 7 = .ok (.iconst (-1), 1) by decide +kernel) (by decide) rfl, ?_⟩
  refine List.forall_mem_cons.mpr ⟨ok_ret C rfl (show decode cX10_falses 8 = .ok (.ireturn, 1) by decide +kernel), ?_⟩
  refine List.forall_mem_cons.mpr ⟨ok_iconst C (show decode cX10_falses 9 = .ok (.iconst 0, 1) by decide +kernel) (by decide) rfl, ?_⟩
  refine List.forall_mem_cons.mpr ⟨ok_istore_n C (show decode cX10_falses 10 = .ok (.istore_n 2, 1) by decide +kernel) rfl (by decide) rfl, ?_⟩
  refine List.forall_mem_cons.mpr ⟨ok_iconst C (show decode cX10_falses 11 = .ok (.iconst 0, 1) by decide +kernel) (by decide) rfl, ?_⟩
  refine List.forall_mem_cons.mpr ⟨ok_istore_n C (show decode cX10_falses 12 = .ok (.istore_n 3, 1) by decide +kernel) rfl (by decide) rfl, ?_⟩
  refine List.forall_mem_cons.mpr ⟨ok_iload_n C (show decode cX10_falses 13 = .ok (.iload_n 3, 1) by decide +kernel) rfl rfl, ?_⟩
  refine List.forall_mem_cons.mpr ⟨ok_aload_n C (show decode cX10_falses 14 = .ok (.aload_n 0, 1) by decide +kernel) rfl rfl, ?_⟩
  refine List.forall_mem_cons.mpr ⟨ok_getf C (wi_X10) rfl (by decide) kw_328 (show decode cX10_falses 15 = .ok (.getfield 83, 3) by decide +kernel) rfl, ?_⟩
  refine List.forall_mem_cons.mpr ⟨ok_getf C (wi_X7) rfl (by decide) kw_250 (show decode cX10_falses 18 = .ok (.getfield 136, 3) by decide +kernel) rfl, ?_⟩
  refine List.forall_mem_cons.mpr ⟨ok_icmpge C (show decode cX10_falses 21 = .ok (.if_icmp .ge 34, 3) by decide +kernel) (tg := 55) (by decide) rfl rfl, ?_⟩
  refine List.forall_mem_cons.mpr ⟨ok_aload_n C (show decode cX10_falses 24 = .ok (.aload_n 0, 1) by decide +kernel) rfl rfl, ?_⟩
  refine List.forall_mem_cons.mpr ⟨ok_getf C (wi_X10) rfl (by decide) kw_319 (show decode cX10_falses 25 = .ok (.getfield 40, 3) by decide +kernel) rfl, ?_⟩
  refine List.forall_mem_cons.mpr ⟨ok_aload_n C (show decode cX10_falses 28 = .ok (.aload_n 0, 1) by decide +kernel) rfl rfl, ?_⟩
  refine List.forall_mem_cons.mpr ⟨ok_getf C (wi_X10) rfl (by decide) kw_328 (show decode cX10_falses 29 = .ok (.getfield 83, 3) by decide +kernel) rfl, ?_⟩
  refine List.forall_mem_cons.mpr ⟨ok_iload_n C (show decode cX10_falses 32 = .ok (.iload_n 3, 1) by decide +kernel) rfl rfl, ?_⟩
  refine List.forall_mem_cons.mpr ⟨ok_iload_n C (show decode cX10_falses 33 = .ok (.iload_n 1, 1) by decide +kernel) rfl rfl, ?_⟩
  refine List.forall_mem_cons.mpr ⟨ok_callS C h_X10_slotOf ⟨rfl, rfl⟩ kw_532 kw_600 kw_531 kw_1 ds_X10_slotOf ⟨by decide, by decide⟩ (show decode cX10_falses 34 = .ok (.invokestatic 159, 3) by decide +kernel) rfl, ?_⟩
  refine List.forall_mem_cons.mpr ⟨ok_callV C h_X6_isFalse ⟨rfl, rfl⟩ rfl kw_612 kw_609 kw_610 kw_611 kw_6 rfl ds_X6_isFalse ⟨by decide, by decide⟩ (show decode cX10_falses 37 = .ok (.invokevirtual 176, 3) by decide +kernel) rfl, ?_⟩
  refine List.forall_mem_cons.mpr ⟨ok_ifeq C (show decode cX10_falses 40 = .ok (.ifCond .eq 9, 3) by decide +kernel) (tg := 49) (by decide) rfl rfl, ?_⟩
  refine List.forall_mem_cons.mpr ⟨ok_iload_n C (show decode cX10_falses 43 = .ok (.iload_n 2, 1) by decide +kernel) rfl rfl, ?_⟩
  refine List.forall_mem_cons.mpr ⟨ok_iconst C (show decode cX10_falses 44 = .ok (.iconst 1, 1) by decide +kernel) (by decide) rfl, ?_⟩
  refine List.forall_mem_cons.mpr ⟨ok_iload_n C (show decode cX10_falses 45 = .ok (.iload_n 3, 1) by decide +kernel) rfl rfl, ?_⟩
  refine List.forall_mem_cons.mpr ⟨ok_ishl C (show decode cX10_falses 46 = .ok (.ishl, 1) by decide +kernel) rfl, ?_⟩
  refine List.forall_mem_cons.mpr ⟨ok_ior C (show decode cX10_falses 47 = .ok (.ior, 1) by decide +kernel) rfl, ?_⟩
  refine List.forall_mem_cons.mpr ⟨ok_istore_n C (show decode cX10_falses 48 = .ok (.istore_n 2, 1) by decide +kernel) rfl (by decide) rfl, ?_⟩
  refine List.forall_mem_cons.mpr ⟨ok_iinc C (show decode cX10_falses 49 = .ok (.iinc 3 1, 3) by decide +kernel) (by decide) (by decide) rfl, ?_⟩
  refine List.forall_mem_cons.mpr ⟨ok_goto C (show decode cX10_falses 52 = .ok (.goto (-39), 3) by decide +kernel) (tg := 13) (by decide) rfl, ?_⟩
  refine List.forall_mem_cons.mpr ⟨ok_iload_n C (show decode cX10_falses 55 = .ok (.iload_n 2, 1) by decide +kernel) rfl rfl, ?_⟩
  refine List.forall_mem_cons.mpr ⟨ok_ret C rfl (show decode cX10_falses 56 = .ok (.ireturn, 1) by decide +kernel), ?_⟩
  exact fun _ h => absurd h List.not_mem_nil
def L_J6_bitCount_0f7a4 : List (Nat × ab_A) := [
  (0, ab_nx 1 (ab_iload 0)),
  (1, ab_nx 2 (ab_iload 0)),
  (2, ab_nx 3 (ab_lit (.int 1))),
  (3, ab_nx 4 (ab_bin (fun x y => (x.toUInt32 >>> (y.toUInt32 &&& Int32.toUInt32 31)).toInt32))),
  (4, ab_nx 7 (ab_lit (.int 1431655765))),
  (7, ab_nx 8 (ab_bin (fun x y => x &&& y))),
  (8, ab_nx 9 (ab_bin (fun x y => x - y))),
  (9, ab_nx 10 (ab_istore 0)),
  (10, ab_nx 11 (ab_iload 0)),
  (11, ab_nx 14 (ab_lit (.int 858993459))),
  (14, ab_nx 15 (ab_bin (fun x y => x &&& y))),
  (15, ab_nx 16 (ab_iload 0)),
  (16, ab_nx 17 (ab_lit (.int 2))),
  (17, ab_nx 18 (ab_bin (fun x y => (x.toUInt32 >>> (y.toUInt32 &&& Int32.toUInt32 31)).toInt32))),
  (18, ab_nx 21 (ab_lit (.int 858993459))),
  (21, ab_nx 22 (ab_bin (fun x y => x &&& y))),
  (22, ab_nx 23 (ab_bin (fun x y => x + y))),
  (23, ab_nx 24 (ab_istore 0)),
  (24, ab_nx 25 (ab_iload 0)),
  (25, ab_nx 26 (ab_iload 0)),
  (26, ab_nx 27 (ab_lit (.int 4))),
  (27, ab_nx 28 (ab_bin (fun x y => (x.toUInt32 >>> (y.toUInt32 &&& Int32.toUInt32 31)).toInt32))),
  (28, ab_nx 29 (ab_bin (fun x y => x + y))),
  (29, ab_nx 32 (ab_lit (.int 252645135))),
  (32, ab_nx 33 (ab_bin (fun x y => x &&& y))),
  (33, ab_nx 34 (ab_istore 0)),
  (34, ab_nx 35 (ab_iload 0)),
  (35, ab_nx 36 (ab_iload 0)),
  (36, ab_nx 38 (ab_lit (.int 8))),
  (38, ab_nx 39 (ab_bin (fun x y => (x.toUInt32 >>> (y.toUInt32 &&& Int32.toUInt32 31)).toInt32))),
  (39, ab_nx 40 (ab_bin (fun x y => x + y))),
  (40, ab_nx 41 (ab_istore 0)),
  (41, ab_nx 42 (ab_iload 0)),
  (42, ab_nx 43 (ab_iload 0)),
  (43, ab_nx 45 (ab_lit (.int 16))),
  (45, ab_nx 46 (ab_bin (fun x y => (x.toUInt32 >>> (y.toUInt32 &&& Int32.toUInt32 31)).toInt32))),
  (46, ab_nx 47 (ab_bin (fun x y => x + y))),
  (47, ab_nx 48 (ab_istore 0)),
  (48, ab_nx 49 (ab_iload 0)),
  (49, ab_nx 51 (ab_lit (.int 63))),
  (51, ab_nx 52 (ab_bin (fun x y => x &&& y))),
  (52, ab_ret 0 0)]
set_option maxRecDepth 100000 in
set_option maxHeartbeats 4000000 in
theorem M_J6_bitCount_0f7a4 {l : Launch} {b : ab_B} {D : va_G} {cA : Nat → ClassId} : ab_M l b D ab_cl cA (ab_E0 b) yJ6_bitCount_0f7a4 (Cond.code yJ6_bitCount_0f7a4 cJ6_bitCount_0f7a4 1 (some .int) :: ab_G) ({ frames := 1, cells := 0, slots := 0, locals := 100 } : Room) (ab_X (ab_T L_J6_bitCount_0f7a4) 1) := by
  refine ab_meth (ret := (some .int)) L_J6_bitCount_0f7a4 (by decide) rfl fun p e R s m args below meth c o C => ?_
  unfold L_J6_bitCount_0f7a4
  refine List.forall_mem_cons.mpr ⟨ok_iload_n C (show decode cJ6_bitCount_0f7a4 0 = .ok (.iload_n 0, 1) by decide +kernel) rfl rfl, ?_⟩
  refine List.forall_mem_cons.mpr ⟨ok_iload_n C (show decode cJ6_bitCount_0f7a4 1 = .ok (.iload_n 0, 1) by decide +kernel) rfl rfl, ?_⟩
  refine List.forall_mem_cons.mpr ⟨ok_iconst C (show decode cJ6_bitCount_0f7a4 2 = .ok (.iconst 1, 1) by decide +kernel) (by decide) rfl, ?_⟩
  refine List.forall_mem_cons.mpr ⟨ok_iushr C (show decode cJ6_bitCount_0f7a4 3 = .ok (.iushr, 1) by decide +kernel) rfl, ?_⟩
  refine List.forall_mem_cons.mpr ⟨ok_ldcw C (show decode cJ6_bitCount_0f7a4 4 = .ok (.ldc_w 265, 3) by decide +kernel) (gm kw_677) rfl, ?_⟩
  refine List.forall_mem_cons.mpr ⟨ok_iand C (show decode cJ6_bitCount_0f7a4 7 = .ok (.iand, 1) by decide +kernel) rfl, ?_⟩
  refine List.forall_mem_cons.mpr ⟨ok_isub C (show decode cJ6_bitCount_0f7a4 8 = .ok (.isub, 1) by decide +kernel) rfl, ?_⟩
  refine List.forall_mem_cons.mpr ⟨ok_istore_n C (show decode cJ6_bitCount_0f7a4 9 = .ok (.istore_n 0, 1) by decide +kernel) rfl (by decide) rfl, ?_⟩
  refine List.forall_mem_cons.mpr ⟨ok_iload_n C (show decode cJ6_bitCount_0f7a4 10 = .ok (.iload_n 0, 1) by decide +kernel) rfl rfl, ?_⟩
  refine List.forall_mem_cons.mpr ⟨ok_ldcw C (show decode cJ6_bitCount_0f7a4 11 = .ok (.ldc_w 266, 3) by decide +kernel) (gm kw_678) rfl, ?_⟩
  refine List.forall_mem_cons.mpr ⟨ok_iand C (show decode cJ6_bitCount_0f7a4 14 = .ok (.iand, 1) by decide +kernel) rfl, ?_⟩
  refine List.forall_mem_cons.mpr ⟨ok_iload_n C (show decode cJ6_bitCount_0f7a4 15 = .ok (.iload_n 0, 1) by decide +kernel) rfl rfl, ?_⟩
  refine List.forall_mem_cons.mpr ⟨ok_iconst C (show decode cJ6_bitCount_0f7a4 16 = .ok (.iconst 2, 1) by decide +kernel) (by decide) rfl, ?_⟩
  refine List.forall_mem_cons.mpr ⟨ok_iushr C (show decode cJ6_bitCount_0f7a4 17 = .ok (.iushr, 1) by decide +kernel) rfl, ?_⟩
  refine List.forall_mem_cons.mpr ⟨ok_ldcw C (show decode cJ6_bitCount_0f7a4 18 = .ok (.ldc_w 266, 3) by decide +kernel) (gm kw_678) rfl, ?_⟩
  refine List.forall_mem_cons.mpr ⟨ok_iand C (show decode cJ6_bitCount_0f7a4 21 = .ok (.iand, 1) by decide +kernel) rfl, ?_⟩
  refine List.forall_mem_cons.mpr ⟨ok_iadd C (show decode cJ6_bitCount_0f7a4 22 = .ok (.iadd, 1) by decide +kernel) rfl, ?_⟩
  refine List.forall_mem_cons.mpr ⟨ok_istore_n C (show decode cJ6_bitCount_0f7a4 23 = .ok (.istore_n 0, 1) by decide +kernel) rfl (by decide) rfl, ?_⟩
  refine List.forall_mem_cons.mpr ⟨ok_iload_n C (show decode cJ6_bitCount_0f7a4 24 = .ok (.iload_n 0, 1) by decide +kernel) rfl rfl, ?_⟩
  refine List.forall_mem_cons.mpr ⟨ok_iload_n C (show decode cJ6_bitCount_0f7a4 25 = .ok (.iload_n 0, 1) by decide +kernel) rfl rfl, ?_⟩
  refine List.forall_mem_cons.mpr ⟨ok_iconst C (show decode cJ6_bitCount_0f7a4 26 = .ok (.iconst 4, 1) by decide +kernel) (by decide) rfl, ?_⟩
  refine List.forall_mem_cons.mpr ⟨ok_iushr C (show decode cJ6_bitCount_0f7a4 27 = .ok (.iushr, 1) by decide +kernel) rfl, ?_⟩
  refine List.forall_mem_cons.mpr ⟨ok_iadd C (show decode cJ6_bitCount_0f7a4 28 = .ok (.iadd, 1) by decide +kernel) rfl, ?_⟩
  refine List.forall_mem_cons.mpr ⟨ok_ldcw C (show decode cJ6_bitCount_0f7a4 29 = .ok (.ldc_w 267, 3) by decide +kernel) (gm kw_679) rfl, ?_⟩
  refine List.forall_mem_cons.mpr ⟨ok_iand C (show decode cJ6_bitCount_0f7a4 32 = .ok (.iand, 1) by decide +kernel) rfl, ?_⟩
  refine List.forall_mem_cons.mpr ⟨ok_istore_n C (show decode cJ6_bitCount_0f7a4 33 = .ok (.istore_n 0, 1) by decide +kernel) rfl (by decide) rfl, ?_⟩
  refine List.forall_mem_cons.mpr ⟨ok_iload_n C (show decode cJ6_bitCount_0f7a4 34 = .ok (.iload_n 0, 1) by decide +kernel) rfl rfl, ?_⟩
  refine List.forall_mem_cons.mpr ⟨ok_iload_n C (show decode cJ6_bitCount_0f7a4 35 = .ok (.iload_n 0, 1) by decide +kernel) rfl rfl, ?_⟩
  refine List.forall_mem_cons.mpr ⟨ok_bipush C (show decode cJ6_bitCount_0f7a4 36 = .ok (.bipush 8, 2) by decide +kernel) (by decide) rfl, ?_⟩
  refine List.forall_mem_cons.mpr ⟨ok_iushr C (show decode cJ6_bitCount_0f7a4 38 = .ok (.iushr, 1) by decide +kernel) rfl, ?_⟩
  refine List.forall_mem_cons.mpr ⟨ok_iadd C (show decode cJ6_bitCount_0f7a4 39 = .ok (.iadd, 1) by decide +kernel) rfl, ?_⟩
  refine List.forall_mem_cons.mpr ⟨ok_istore_n C (show decode cJ6_bitCount_0f7a4 40 = .ok (.istore_n 0, 1) by decide +kernel) rfl (by decide) rfl, ?_⟩
  refine List.forall_mem_cons.mpr ⟨ok_iload_n C (show decode cJ6_bitCount_0f7a4 41 = .ok (.iload_n 0, 1) by decide +kernel) rfl rfl, ?_⟩
  refine List.forall_mem_cons.mpr ⟨ok_iload_n C (show decode cJ6_bitCount_0f7a4 42 = .ok (.iload_n 0, 1) by decide +kernel) rfl rfl, ?_⟩
  refine List.forall_mem_cons.mpr ⟨ok_bipush C (show decode cJ6_bitCount_0f7a4 43 = .ok (.bipush 16, 2) by decide +kernel) (by decide) rfl, ?_⟩
  refine List.forall_mem_cons.mpr ⟨ok_iushr C (show decode cJ6_bitCount_0f7a4 45 = .ok (.iushr, 1) by decide +kernel) rfl, ?_⟩
  refine List.forall_mem_cons.mpr ⟨ok_iadd C (show decode cJ6_bitCount_0f7a4 46 = .ok (.iadd, 1) by decide +kernel) rfl, ?_⟩
  refine List.forall_mem_cons.mpr ⟨ok_istore_n C (show decode cJ6_bitCount_0f7a4 47 = .ok (.istore_n 0, 1) by decide +kernel) rfl (by decide) rfl, ?_⟩
  refine List.forall_mem_cons.mpr ⟨ok_iload_n C (show decode cJ6_bitCount_0f7a4 48 = .ok (.iload_n 0, 1) by decide +kernel) rfl rfl, ?_⟩
  refine List.forall_mem_cons.mpr ⟨ok_bipush C (show decode cJ6_bitCount_0f7a4 49 = .ok (.bipush 63, 2) by decide +kernel) (by decide) rfl, ?_⟩
  refine List.forall_mem_cons.mpr ⟨ok_iand C (show decode cJ6_bitCount_0f7a4 51 = .ok (.iand, 1) by decide +kernel) rfl, ?_⟩
  refine List.forall_mem_cons.mpr ⟨ok_ret C rfl (show decode cJ6_bitCount_0f7a4 52 = .ok (.ireturn, 1) by decide +kernel), ?_⟩
  exact fun _ h => absurd h List.not_mem_nil
def L_X10_dearest (f_X6_missersOf : List Value → ab_H → Option ab_O) (f_J6_bitCount_0f7a4 : List Value → ab_H → Option ab_O) : List (Nat × ab_A) := [
  (0, ab_nx 1 (ab_lit (.int 0))),
  (1, ab_nx 2 (ab_istore 1)),
  (2, ab_nx 3 (ab_lit (.int (-1)))),
  (3, ab_nx 4 (ab_istore 2)),
  (4, ab_nx 5 (ab_lit (.int 0))),
  (5, ab_nx 6 (ab_istore 3)),
  (6, ab_nx 7 (ab_iload 3)),
  (7, ab_nx 8 (ab_aload 0)),
  (8, ab_nx 11 (ab_getf 10 13)),
  (11, ab_nx 14 (ab_getf 7 9)),
  (14, ab_icmp 17 51 (fun x y => decide (y ≤ x))),
  (17, ab_nx 18 (ab_aload 0)),
  (18, ab_nx 21 (ab_getf 10 4)),
  (21, ab_nx 22 (ab_aload 0)),
  (22, ab_nx 25 (ab_getf 10 13)),
  (25, ab_nx 26 (ab_iload 3)),
  (26, ab_nx 29 (ab_callV 3 6 f_X6_missersOf 0 0 0 0)),
  (29, ab_nx 32 (ab_call 1 f_J6_bitCount_0f7a4 0 0 0 0)),
  (32, ab_nx 34 (ab_istore 4)),
  (34, ab_nx 36 (ab_iload 4)),
  (36, ab_nx 37 (ab_iload 1)),
  (37, ab_icmp 40 45 (fun x y => decide (x ≤ y))),
  (40, ab_nx 42 (ab_iload 4)),
  (42, ab_nx 43 (ab_istore 1)),
  (43, ab_nx 44 (ab_iload 3)),
  (44, ab_nx 45 (ab_istore 2)),
  (45, ab_nx 48 (ab_iinc 3 1)),
  (48, ab_goto 6),
  (51, ab_nx 52 (ab_iload 2)),
  (52, ab_ret 0 0)]
set_option maxRecDepth 100000 in
set_option maxHeartbeats 4000000 in
theorem M_X10_dearest {l : Launch} {b : ab_B} {D : va_G} {cA : Nat → ClassId} {f_X6_missersOf : List Value → ab_H → Option ab_O} (h_X6_missersOf : ab_M l b D ab_cl cA (ab_E0 b) yX6_missersOf (Cond.code yX6_missersOf cX6_missersOf 5 (some .int) :: ab_G) ({ frames := 3, cells := 0, slots := 0, locals := 300 } : Room) f_X6_missersOf) {f_J6_bitCount_0f7a4 : List Value → ab_H → Option ab_O} (h_J6_bitCount_0f7a4 : ab_M l b D ab_cl cA (ab_E0 b) yJ6_bitCount_0f7a4 (Cond.code yJ6_bitCount_0f7a4 cJ6_bitCount_0f7a4 1 (some .int) :: ab_G) ({ frames := 1, cells := 0, slots := 0, locals := 100 } : Room) f_J6_bitCount_0f7a4) : ab_M l b D ab_cl cA (ab_E0 b) yX10_dearest (Cond.code yX10_dearest cX10_dearest 5 (some .int) :: ab_G) ({ frames := 4, cells := 0, slots := 0, locals := 400 } : Room) (ab_X (ab_T (L_X10_dearest f_X6_missersOf f_J6_bitCount_0f7a4)) 5) := by
  refine ab_meth (ret := (some .int)) (L_X10_dearest f_X6_missersOf f_J6_bitCount_0f7a4) (by decide) rfl fun p e R s m args below meth c o C => ?_
  unfold L_X10_dearest
  refine List.forall_mem_cons.mpr ⟨ok_iconst C (show decode cX10_dearest 0 = .ok (.iconst 0, 1) by decide +kernel) (by decide) rfl, ?_⟩
  refine List.forall_mem_cons.mpr ⟨ok_istore_n C (show decode cX10_dearest 1 = .ok (.istore_n 1, 1) by decide +kernel) rfl (by decide) rfl, ?_⟩
  refine List.forall_mem_cons.mpr ⟨ok_iconst C (show decode cX10_dearest 2 = .ok (.iconst (-1), 1) by decide +kernel) (by decide) rfl, ?_⟩
  refine List.forall_mem_cons.mpr ⟨ok_istore_n C (show decode cX10_dearest 3 = .ok (.istore_n 2, 1) by decide +kernel) rfl (by decide) rfl, ?_⟩
  refine List.forall_mem_cons.mpr ⟨ok_iconst C (show decode cX10_dearest 4 = .ok (.iconst 0, 1) by decide +kernel) (by decide) rfl, ?_⟩
  refine List.forall_mem_cons.mpr ⟨ok_istore_n C (show decode cX10_dearest 5 = .ok (.istore_n 3, 1) by decide +kernel) rfl (by decide) rfl, ?_⟩
  refine List.forall_mem_cons.mpr ⟨ok_iload_n C (show decode cX10_dearest 6 = .ok (.iload_n 3, 1) by decide +kernel) rfl rfl, ?_⟩
  refine List.forall_mem_cons.mpr ⟨ok_aload_n C (show decode cX10_dearest 7 = .ok (.aload_n 0, 1) by decide +kernel) rfl rfl, ?_⟩
  refine List.forall_mem_cons.mpr ⟨ok_getf C (wi_X10) rfl (by decide) kw_328 (show decode cX10_dearest 8 = .ok (.getfield 83, 3) by decide +kernel) rfl, ?_⟩
  refine List.forall_mem_cons.mpr ⟨ok_getf C (wi_X7) rfl (by decide) kw_254 (show decode cX10_dearest 11 = .ok (.getfield 146, 3) by decide +kernel) rfl, ?_⟩
  refine List.forall_mem_cons.mpr ⟨ok_icmpge C (show decode cX10_dearest 14 = .ok (.if_icmp .ge 37, 3) by decide +kernel) (tg := 51) (by decide) rfl rfl, ?_⟩
  refine List.forall_mem_cons.mpr ⟨ok_aload_n C (show decode cX10_dearest 17 = .ok (.aload_n 0, 1) by decide +kernel) rfl rfl, ?_⟩
  refine List.forall_mem_cons.mpr ⟨ok_getf C (wi_X10) rfl (by decide) kw_319 (show decode cX10_dearest 18 = .ok (.getfield 40, 3) by decide +kernel) rfl, ?_⟩
  refine List.forall_mem_cons.mpr ⟨ok_aload_n C (show decode cX10_dearest 21 = .ok (.aload_n 0, 1) by decide +kernel) rfl rfl, ?_⟩
  refine List.forall_mem_cons.mpr ⟨ok_getf C (wi_X10) rfl (by decide) kw_328 (show decode cX10_dearest 22 = .ok (.getfield 83, 3) by decide +kernel) rfl, ?_⟩
  refine List.forall_mem_cons.mpr ⟨ok_iload_n C (show decode cX10_dearest 25 = .ok (.iload_n 3, 1) by decide +kernel) rfl rfl, ?_⟩
  refine List.forall_mem_cons.mpr ⟨ok_callV C h_X6_missersOf ⟨rfl, rfl⟩ rfl kw_668 kw_665 kw_666 kw_667 kw_6 rfl ds_X6_missersOf ⟨by decide, by decide⟩ (show decode cX10_dearest 26 = .ok (.invokevirtual 196, 3) by decide +kernel) rfl, ?_⟩
  refine List.forall_mem_cons.mpr ⟨ok_callS C h_J6_bitCount_0f7a4 ⟨rfl, rfl⟩ kw_676 kw_674 kw_675 kw_22 ds_J6_bitCount_0f7a4 ⟨by decide, by decide⟩ (show decode cX10_dearest 29 = .ok (.invokestatic 232, 3) by decide +kernel) rfl, ?_⟩
  refine List.forall_mem_cons.mpr ⟨ok_istore C (show decode cX10_dearest 32 = .ok (.istore 4, 2) by decide +kernel) (by decide) rfl, ?_⟩
  refine List.forall_mem_cons.mpr ⟨ok_iload C (show decode cX10_dearest 34 = .ok (.iload 4, 2) by decide +kernel) rfl, ?_⟩
  refine List.forall_mem_cons.mpr ⟨ok_iload_n C (show decode cX10_dearest 36 = .ok (.iload_n 1, 1) by decide +kernel) rfl rfl, ?_⟩
  refine List.forall_mem_cons.mpr ⟨ok_icmple C (show decode cX10_dearest 37 = .ok (.if_icmp .le 8, 3) by decide +kernel) (tg := 45) (by decide) rfl rfl, ?_⟩
  refine List.forall_mem_cons.mpr ⟨ok_iload C (show decode cX10_dearest 40 = .ok (.iload 4, 2) by decide +kernel) rfl, ?_⟩
  refine List.forall_mem_cons.mpr ⟨ok_istore_n C (show decode cX10_dearest 42 = .ok (.istore_n 1, 1) by decide +kernel) rfl (by decide) rfl, ?_⟩
  refine List.forall_mem_cons.mpr ⟨ok_iload_n C (show decode cX10_dearest 43 = .ok (.iload_n 3, 1) by decide +kernel) rfl rfl, ?_⟩
  refine List.forall_mem_cons.mpr ⟨ok_istore_n C (show decode cX10_dearest 44 = .ok (.istore_n 2, 1) by decide +kernel) rfl (by decide) rfl, ?_⟩
  refine List.forall_mem_cons.mpr ⟨ok_iinc C (show decode cX10_dearest 45 = .ok (.iinc 3 1, 3) by decide +kernel) (by decide) (by decide) rfl, ?_⟩
  refine List.forall_mem_cons.mpr ⟨ok_goto C (show decode cX10_dearest 48 = .ok (.goto (-42), 3) by decide +kernel) (tg := 6) (by decide) rfl, ?_⟩
  refine List.forall_mem_cons.mpr ⟨ok_iload_n C (show decode cX10_dearest 51 = .ok (.iload_n 2, 1) by decide +kernel) rfl rfl, ?_⟩
  refine List.forall_mem_cons.mpr ⟨ok_ret C rfl (show decode cX10_dearest 52 = .ok (.ireturn, 1) by decide +kernel), ?_⟩
  exact fun _ h => absurd h List.not_mem_nil
def L_X10_rats (f_X6_isAlive : List Value → ab_H → Option ab_O) (f_X6_couldBeMissed : List Value → ab_H → Option ab_O) : List (Nat × ab_A) := [
  (0, ab_nx 1 (ab_lit (.int 0))),
  (1, ab_nx 2 (ab_istore 1)),
  (2, ab_nx 3 (ab_lit (.int 0))),
  (3, ab_nx 4 (ab_istore 2)),
  (4, ab_nx 5 (ab_iload 2)),
  (5, ab_nx 6 (ab_aload 0)),
  (6, ab_nx 9 (ab_getf 10 13)),
  (9, ab_nx 12 (ab_getf 7 9)),
  (12, ab_icmp 15 53 (fun x y => decide (y ≤ x))),
  (15, ab_nx 16 (ab_aload 0)),
  (16, ab_nx 19 (ab_getf 10 4)),
  (19, ab_nx 20 (ab_iload 2)),
  (20, ab_nx 23 (ab_callV 2 6 f_X6_isAlive 0 0 0 0)),
  (23, ab_if 26 47 (fun x => decide (x = 0))),
  (26, ab_nx 27 (ab_aload 0)),
  (27, ab_nx 30 (ab_getf 10 4)),
  (30, ab_nx 31 (ab_aload 0)),
  (31, ab_nx 34 (ab_getf 10 13)),
  (34, ab_nx 35 (ab_iload 2)),
  (35, ab_nx 38 (ab_callV 3 6 f_X6_couldBeMissed 0 0 0 0)),
  (38, ab_if 41 47 (fun x => !decide (x = 0))),
  (41, ab_nx 42 (ab_iload 1)),
  (42, ab_nx 43 (ab_lit (.int 1))),
  (43, ab_nx 44 (ab_iload 2)),
  (44, ab_nx 45 (ab_bin (fun x y => x <<< (y &&& 31)))),
  (45, ab_nx 46 (ab_bin (fun x y => x ||| y))),
  (46, ab_nx 47 (ab_istore 1)),
  (47, ab_nx 50 (ab_iinc 2 1)),
  (50, ab_goto 4),
  (53, ab_nx 54 (ab_iload 1)),
  (54, ab_ret 0 0)]
set_option maxRecDepth 100000 in
set_option maxHeartbeats 4000000 in
theorem M_X10_rats {l : Launch} {b : ab_B} {D : va_G} {cA : Nat → ClassId} {f_X6_isAlive : List Value → ab_H → Option ab_O} (h_X6_isAlive : ab_M l b D ab_cl cA (ab_E0 b) yX6_isAlive (Cond.code yX6_isAlive cX6_isAlive 2 (some .boolean) :: ab_G) ({ frames := 1, cells := 0, slots := 0, locals := 100 } : Room) f_X6_isAlive) {f_X6_couldBeMissed : List Value → ab_H → Option ab_O} (h_X6_couldBeMissed : ab_M l b D ab_cl cA (ab_E0 b) yX6_couldBeMissed (Cond.code yX6_couldBeMissed cX6_couldBeMissed 4 (some .boolean) :: ab_G) ({ frames := 2, cells := 0, slots := 0, locals := 200 } : Room) f_X6_couldBeMissed) : ab_M l b D ab_cl cA (ab_E0 b) yX10_rats (Cond.code yX10_rats cX10_rats 3 (some .int) :: ab_G) ({ frames := 3, cells := 0, slots := 0, locals := 300 } : Room) (ab_X (ab_T (L_X10_rats f_X6_isAlive f_X6_couldBeMissed)) 3) := by
  refine ab_meth (ret := (some .int)) (L_X10_rats f_X6_isAlive f_X6_couldBeMissed) (by decide) rfl fun p e R s m args below meth c o C => ?_
  unfold L_X10_rats
  refine List.forall_mem_cons.mpr ⟨ok_iconst C (show decode cX10_rats 0 = .ok (.iconst 0, 1) by decide +kernel) (by decide) rfl, ?_⟩
  refine List.forall_mem_cons.mpr ⟨ok_istore_n C (show decode cX10_rats 1 = .ok (.istore_n 1, 1) by decide +kernel) rfl (by decide) rfl, ?_⟩
  refine List.forall_mem_cons.mpr ⟨ok_iconst C (show decode cX10_rats 2 = .ok (.iconst 0, 1) by decide +kernel) (by decide) rfl, ?_⟩
  refine List.forall_mem_cons.mpr ⟨ok_istore_n C (show decode cX10_rats 3 = .ok (.istore_n 2, 1) by decide +kernel) rfl (by decide) rfl, ?_⟩
  refine List.forall_mem_cons.mpr ⟨ok_iload_n C (show decode cX10_rats 4 = .ok (.iload_n 2, 1) by decide +kernel) rfl rfl, ?_⟩
  refine List.forall_mem_cons.mpr ⟨ok_aload_n C (show decode cX10_rats 5 = .ok (.aload_n 0, 1) by decide +kernel) rfl rfl, ?_⟩
  refine List.forall_mem_cons.mpr ⟨ok_getf C (wi_X10) rfl (by decide) kw_328 (show decode cX10_rats 6 = .ok (.getfield 83, 3) by decide +kernel) rfl, ?_⟩
  refine List.forall_mem_cons.mpr ⟨ok_getf C (wi_X7) rfl (by decide) kw_254 (show decode cX10_rats 9 = .ok (.getfield 146, 3) by decide +kernel) rfl, ?_⟩
  refine List.forall_mem_cons.mpr ⟨ok_icmpge C (show decode cX10_rats 12 = .ok (.if_icmp .ge 41, 3) by decide +kernel) (tg := 53) (by decide) rfl rfl, ?_⟩
  refine List.forall_mem_cons.mpr ⟨ok_aload_n C (show decode cX10_rats 15 = .ok (.aload_n 0, 1) by decide +kernel) rfl rfl, ?_⟩
  refine List.forall_mem_cons.mpr ⟨ok_getf C (wi_X10) rfl (by decide) kw_319 (show decode cX10_rats 16 = .ok (.getfield 40, 3) by decide +kernel) rfl, ?_⟩
  refine List.forall_mem_cons.mpr ⟨ok_iload_n C (show decode cX10_rats 19 = .ok (.iload_n 2, 1) by decide +kernel) rfl rfl, ?_⟩
  refine List.forall_mem_cons.mpr ⟨ok_callV C h_X6_isAlive ⟨rfl, rfl⟩ rfl kw_632 kw_629 kw_630 kw_631 kw_6 rfl ds_X6_isAlive ⟨by decide, by decide⟩ (show decode cX10_rats 20 = .ok (.invokevirtual 152, 3) by decide +kernel) rfl, ?_⟩
  refine List.forall_mem_cons.mpr ⟨ok_ifeq C (show decode cX10_rats 23 = .ok (.ifCond .eq 24, 3) by decide +kernel) (tg := 47) (by decide) rfl rfl, ?_⟩
  refine List.forall_mem_cons.mpr ⟨ok_aload_n C (show decode cX10_rats 26 = .ok (.aload_n 0, 1) by decide +kernel) rfl rfl, ?_⟩
  refine List.forall_mem_cons.mpr ⟨ok_getf C (wi_X10) rfl (by decide) kw_319 (show decode cX10_rats 27 = .ok (.getfield 40, 3) by decide +kernel) rfl, ?_⟩
  refine List.forall_mem_cons.mpr ⟨ok_aload_n C (show decode cX10_rats 30 = .ok (.aload_n 0, 1) by decide +kernel) rfl rfl, ?_⟩
  refine List.forall_mem_cons.mpr ⟨ok_getf C (wi_X10) rfl (by decide) kw_328 (show decode cX10_rats 31 = .ok (.getfield 83, 3) by decide +kernel) rfl, ?_⟩
  refine List.forall_mem_cons.mpr ⟨ok_iload_n C (show decode cX10_rats 34 = .ok (.iload_n 2, 1) by decide +kernel) rfl rfl, ?_⟩
  refine List.forall_mem_cons.mpr ⟨ok_callV C h_X6_couldBeMissed ⟨rfl, rfl⟩ rfl kw_687 kw_684 kw_685 kw_686 kw_6 rfl ds_X6_couldBeMissed ⟨by decide, by decide⟩ (show decode cX10_rats 35 = .ok (.invokevirtual 238, 3) by decide +kernel) rfl, ?_⟩
  refine List.forall_mem_cons.mpr ⟨ok_ifne C (show decode cX10_rats 38 = .ok (.ifCond .ne 9, 3) by decide +kernel) (tg := 47) (by decide) rfl rfl, ?_⟩
  refine List.forall_mem_cons.mpr ⟨ok_iload_n C (show decode cX10_rats 41 = .ok (.iload_n 1, 1) by decide +kernel) rfl rfl, ?_⟩
  refine List.forall_mem_cons.mpr ⟨ok_iconst C (show decode cX10_rats 42 = .ok (.iconst 1, 1) by decide +kernel) (by decide) rfl, ?_⟩
  refine List.forall_mem_cons.mpr ⟨ok_iload_n C (show decode cX10_rats 43 = .ok (.iload_n 2, 1) by decide +kernel) rfl rfl, ?_⟩
  refine List.forall_mem_cons.mpr ⟨ok_ishl C (show decode cX10_rats 44 = .ok (.ishl, 1) by decide +kernel) rfl, ?_⟩
  refine List.forall_mem_cons.mpr ⟨ok_ior C (show decode cX10_rats 45 = .ok (.ior, 1) by decide +kernel) rfl, ?_⟩
  refine List.forall_mem_cons.mpr ⟨ok_istore_n C (show decode cX10_rats 46 = .ok (.istore_n 1, 1) by decide +kernel) rfl (by decide) rfl, ?_⟩
  refine List.forall_mem_cons.mpr ⟨ok_iinc C (show decode cX10_rats 47 = .ok (.iinc 2 1, 3) by decide +kernel) (by decide) (by decide) rfl, ?_⟩
  refine List.forall_mem_cons.mpr ⟨ok_goto C (show decode cX10_rats 50 = .ok (.goto (-46), 3) by decide +kernel) (tg := 4) (by decide) rfl, ?_⟩
  refine List.forall_mem_cons.mpr ⟨ok_iload_n C (show decode cX10_rats 53 = .ok (.iload_n 1, 1) by decide +kernel) rfl rfl, ?_⟩
  refine List.forall_mem_cons.mpr ⟨ok_ret C rfl (show decode cX10_rats 54 = .ok (.ireturn, 1) by decide +kernel), ?_⟩
  exact fun _ h => absurd h List.not_mem_nil
def L_X10_hoarded (f_X10_isShore : List Value → ab_H → Option ab_O) (f_X10_slotOf : List Value → ab_H → Option ab_O) : List (Nat × ab_A) := [
  (0, ab_nx 1 (ab_iload 1)),
  (1, ab_nx 4 (ab_call 1 f_X10_isShore 0 0 0 0)),
  (4, ab_if 7 9 (fun x => !decide (x = 0))),
  (7, ab_nx 8 (ab_lit (.int (-1)))),
  (8, ab_ret 0 0),
  (9, ab_nx 10 (ab_lit (.int 0))),
  (10, ab_nx 11 (ab_istore 2)),
  (11, ab_nx 12 (ab_lit (.int (-1)))),
  (12, ab_nx 13 (ab_istore 3)),
  (13, ab_nx 14 (ab_lit (.int 0))),
  (14, ab_nx 16 (ab_istore 4)),
  (16, ab_nx 18 (ab_iload 4)),
  (18, ab_nx 19 (ab_aload 0)),
  (19, ab_nx 22 (ab_getf 10 13)),
  (22, ab_nx 25 (ab_getf 7 8)),
  (25, ab_icmp 28 62 (fun x y => decide (y ≤ x))),
  (28, ab_nx 29 (ab_aload 0)),
  (29, ab_nx 32 (ab_getf 10 4)),
  (32, ab_nx 35 (ab_getf 6 1)),
  (35, ab_nx 37 (ab_iload 4)),
  (37, ab_nx 38 (ab_iload 1)),
  (38, ab_nx 41 (ab_call 2 f_X10_slotOf 0 0 0 0)),
  (41, ab_nx 42 (ab_ald 1)),
  (42, ab_nx 44 (ab_istore 5)),
  (44, ab_nx 46 (ab_iload 5)),
  (46, ab_nx 47 (ab_iload 2)),
  (47, ab_icmp 50 56 (fun x y => decide (x ≤ y))),
  (50, ab_nx 52 (ab_iload 5)),
  (52, ab_nx 53 (ab_istore 2)),
  (53, ab_nx 55 (ab_iload 4)),
  (55, ab_nx 56 (ab_istore 3)),
  (56, ab_nx 59 (ab_iinc 4 1)),
  (59, ab_goto 16),
  (62, ab_nx 63 (ab_iload 3)),
  (63, ab_ret 0 0)]
set_option maxRecDepth 100000 in
set_option maxHeartbeats 4000000 in
theorem M_X10_hoarded {l : Launch} {b : ab_B} {D : va_G} {cA : Nat → ClassId} {f_X10_isShore : List Value → ab_H → Option ab_O} (h_X10_isShore : ab_M l b D ab_cl cA (ab_E0 b) yX10_isShore (Cond.code yX10_isShore cX10_isShore 1 (some .boolean) :: ab_G) ({ frames := 1, cells := 0, slots := 0, locals := 100 } : Room) f_X10_isShore) {f_X10_slotOf : List Value → ab_H → Option ab_O} (h_X10_slotOf : ab_M l b D ab_cl cA (ab_E0 b) yX10_slotOf (Cond.code yX10_slotOf cX10_slotOf 2 (some .int) :: ab_G) ({ frames := 1, cells := 0, slots := 0, locals := 100 } : Room) f_X10_slotOf) : ab_M l b D ab_cl cA (ab_E0 b) yX10_hoarded (Cond.code yX10_hoarded cX10_hoarded 6 (some .int) :: ab_G) ({ frames := 2, cells := 0, slots := 0, locals := 200 } : Room) (ab_X (ab_T (L_X10_hoarded f_X10_isShore f_X10_slotOf)) 6) := by
  refine ab_meth (ret := (some .int)) (L_X10_hoarded f_X10_isShore f_X10_slotOf) (by decide) rfl fun p e R s m args below meth c o C => ?_
  unfold L_X10_hoarded
  refine List.forall_mem_cons.mpr ⟨ok_iload_n C (show decode cX10_hoarded 0 = .ok (.iload_n 1, 1) by decide +kernel) rfl rfl, ?_⟩
  refine List.forall_mem_cons.mpr ⟨ok_callS C h_X10_isShore ⟨rfl, rfl⟩ kw_599 kw_597 kw_598 kw_1 ds_X10_isShore ⟨by decide, by decide⟩ (show decode cX10_hoarded 1 = .ok (.invokestatic 143, 3) by decide +kernel) rfl, ?_⟩
  refine List.forall_mem_cons.mpr ⟨ok_ifne C (show decode cX10_hoarded 4 = .ok (.ifCond .ne 5, 3) by decide +kernel) (tg := 9) (by decide) rfl rfl, ?_⟩
  refine List.forall_mem_cons.mpr ⟨ok_iconst C (show decode cX10_hoarded 7 = .ok (.iconst (-1), 1) by decide +kernel) (by decide) rfl, ?_⟩
  refine List.forall_mem_cons.mpr ⟨ok_ret C rfl (show decode cX10_hoarded 8 = .ok (.ireturn, 1) by decide +kernel), ?_⟩
  refine List.forall_mem_cons.mpr ⟨ok_iconst C (show decode cX10_hoarded 9 = .ok (.iconst 0, 1) by decide +kernel) (by decide) rfl, ?_⟩
  refine List.forall_mem_cons.mpr ⟨ok_istore_n C (show decode cX10_hoarded 10 = .ok (.istore_n 2, 1) by decide +kernel) rfl (by decide) rfl, ?_⟩
  refine List.forall_mem_cons.mpr ⟨ok_iconst C (show decode cX10_hoarded 11 = .ok (.iconst (-1), 1) by decide +kernel) (by decide) rfl, ?_⟩
  refine List.forall_mem_cons.mpr ⟨ok_istore_n C (show decode cX10_hoarded 12 = .ok (.istore_n 3, 1) by decide +kernel) rfl (by decide) rfl, ?_⟩
  refine List.forall_mem_cons.mpr ⟨ok_iconst C (show decode cX10_hoarded 13 = .ok (.iconst 0, 1) by decide +kernel) (by decide) rfl, ?_⟩
  refine List.forall_mem_cons.mpr ⟨ok_istore C (show decode cX10_hoarded 14 = .ok (.istore 4, 2) by decide +kernel) (by decide) rfl, ?_⟩
  refine List.forall_mem_cons.mpr ⟨ok_iload C (show decode cX10_hoarded 16 = .ok (.iload 4, 2) by decide +kernel) rfl, ?_⟩
  refine List.forall_mem_cons.mpr ⟨ok_aload_n C (show decode cX10_hoarded 18 = .ok (.aload_n 0, 1) by decide +kernel) rfl rfl, ?_⟩
  refine List.forall_mem_cons.mpr ⟨ok_getf C (wi_X10) rfl (by decide) kw_328 (show decode cX10_hoarded 19 = .ok (.getfield 83, 3) by decide +kernel) rfl, ?_⟩
  refine List.forall_mem_cons.mpr ⟨ok_getf C (wi_X7) rfl (by decide) kw_250 (show decode cX10_hoarded 22 = .ok (.getfield 136, 3) by decide +kernel) rfl, ?_⟩
  refine List.forall_mem_cons.mpr ⟨ok_icmpge C (show decode cX10_hoarded 25 = .ok (.if_icmp .ge 37, 3) by decide +kernel) (tg := 62) (by decide) rfl rfl, ?_⟩
  refine List.forall_mem_cons.mpr ⟨ok_aload_n C (show decode cX10_hoarded 28 = .ok (.aload_n 0, 1) by decide +kernel) rfl rfl, ?_⟩
  refine List.forall_mem_cons.mpr ⟨ok_getf C (wi_X10) rfl (by decide) kw_319 (show decode cX10_hoarded 29 = .ok (.getfield 40, 3) by decide +kernel) rfl, ?_⟩
  refine List.forall_mem_cons.mpr ⟨ok_getf C (wi_X6) rfl (by decide) kw_148 (show decode cX10_hoarded 32 = .ok (.getfield 166, 3) by decide +kernel) rfl, ?_⟩
  refine List.forall_mem_cons.mpr ⟨ok_iload C (show decode cX10_hoarded 35 = .ok (.iload 4, 2) by decide +kernel) rfl, ?_⟩
  refine List.forall_mem_cons.mpr ⟨ok_iload_n C (show decode cX10_hoarded 37 = .ok (.iload_n 1, 1) by decide +kernel) rfl rfl, ?_⟩
  refine List.forall_mem_cons.mpr ⟨ok_callS C h_X10_slotOf ⟨rfl, rfl⟩ kw_532 kw_600 kw_531 kw_1 ds_X10_slotOf ⟨by decide, by decide⟩ (show decode cX10_hoarded 38 = .ok (.invokestatic 159, 3) by decide +kernel) rfl, ?_⟩
  refine List.forall_mem_cons.mpr ⟨ok_iaload C (show decode cX10_hoarded 41 = .ok (.iaload, 1) by decide +kernel) rfl, ?_⟩
  refine List.forall_mem_cons.mpr ⟨ok_istore C (show decode cX10_hoarded 42 = .ok (.istore 5, 2) by decide +kernel) (by decide) rfl, ?_⟩
  refine List.forall_mem_cons.mpr ⟨ok_iload C (show decode cX10_hoarded 44 = .ok (.iload 5, 2) by decide +kernel) rfl, ?_⟩
  refine List.forall_mem_cons.mpr ⟨ok_iload_n C (show decode cX10_hoarded 46 = .ok (.iload_n 2, 1) by decide +kernel) rfl rfl, ?_⟩
  refine List.forall_mem_cons.mpr ⟨ok_icmple C (show decode cX10_hoarded 47 = .ok (.if_icmp .le 9, 3) by decide +kernel) (tg := 56) (by decide) rfl rfl, ?_⟩
  refine List.forall_mem_cons.mpr ⟨ok_iload C (show decode cX10_hoarded 50 = .ok (.iload 5, 2) by decide +kernel) rfl, ?_⟩
  refine List.forall_mem_cons.mpr ⟨ok_istore_n C (show decode cX10_hoarded 52 = .ok (.istore_n 2, 1) by decide +kernel) rfl (by decide) rfl, ?_⟩
  refine List.forall_mem_cons.mpr ⟨ok_iload C (show decode cX10_hoarded 53 = .ok (.iload 4, 2) by decide +kernel) rfl, ?_⟩
  refine List.forall_mem_cons.mpr ⟨ok_istore_n C (show decode cX10_hoarded 55 = .ok (.istore_n 3, 1) by decide +kernel) rfl (by decide) rfl, ?_⟩
  refine List.forall_mem_cons.mpr ⟨ok_iinc C (show decode cX10_hoarded 56 = .ok (.iinc 4 1, 3) by decide +kernel) (by decide) (by decide) rfl, ?_⟩
  refine List.forall_mem_cons.mpr ⟨ok_goto C (show decode cX10_hoarded 59 = .ok (.goto (-43), 3) by decide +kernel) (tg := 16) (by decide) rfl, ?_⟩
  refine List.forall_mem_cons.mpr ⟨ok_iload_n C (show decode cX10_hoarded 62 = .ok (.iload_n 3, 1) by decide +kernel) rfl rfl, ?_⟩
  refine List.forall_mem_cons.mpr ⟨ok_ret C rfl (show decode cX10_hoarded 63 = .ok (.ireturn, 1) by decide +kernel), ?_⟩
  exact fun _ h => absurd h List.not_mem_nil
def L_X10_count : List (Nat × ab_A) := [
  (0, ab_nx 1 (ab_iload 1)),
  (1, ab_tab 0 [36, 44, 52, 60, 68] 76),
  (36, ab_nx 37 (ab_aload 0)),
  (37, ab_nx 40 (ab_getf 10 13)),
  (40, ab_nx 43 (ab_getf 7 8)),
  (43, ab_ret 0 0),
  (44, ab_nx 45 (ab_aload 0)),
  (45, ab_nx 48 (ab_getf 10 13)),
  (48, ab_nx 51 (ab_getf 7 9)),
  (51, ab_ret 0 0),
  (52, ab_nx 53 (ab_aload 0)),
  (53, ab_nx 56 (ab_getf 10 13)),
  (56, ab_nx 59 (ab_getf 7 7)),
  (59, ab_ret 0 0),
  (60, ab_nx 61 (ab_aload 0)),
  (61, ab_nx 64 (ab_getf 10 13)),
  (64, ab_nx 67 (ab_getf 7 10)),
  (67, ab_ret 0 0),
  (68, ab_nx 69 (ab_aload 0)),
  (69, ab_nx 72 (ab_getf 10 0)),
  (72, ab_nx 75 (ab_getf 8 1)),
  (75, ab_ret 0 0),
  (76, ab_nx 77 (ab_lit (.int (-1)))),
  (77, ab_ret 0 0)]
set_option maxRecDepth 100000 in
set_option maxHeartbeats 4000000 in
theorem M_X10_count {l : Launch} {b : ab_B} {D : va_G} {cA : Nat → ClassId} : ab_M l b D ab_cl cA (ab_E0 b) yX10_count (Cond.code yX10_count cX10_count 2 (some .int) :: ab_G) ({ frames := 1, cells := 0, slots := 0, locals := 100 } : Room) (ab_X (ab_T L_X10_count) 2) := by
  refine ab_meth (ret := (some .int)) L_X10_count (by decide) rfl fun p e R s m args below meth c o C => ?_
  unfold L_X10_count
  refine List.forall_mem_cons.mpr ⟨ok_iload_n C (show decode cX10_count 0 = .ok (.iload_n 1, 1) by decide +kernel) rfl rfl, ?_⟩
  refine List.forall_mem_cons.mpr ⟨ok_tab C (show decode cX10_count 1 = .ok (.tableswitch 75 0 4 #[35, 43, 51, 59, 67], 35) by decide +kernel) (by decide) (by decide) (by decide), ?_⟩
  refine List.forall_mem_cons.mpr ⟨ok_aload_n C (show decode cX10_count 36 = .ok (.aload_n 0, 1) by decide +kernel) rfl rfl, ?_⟩
  refine List.forall_mem_cons.mpr ⟨ok_getf C (wi_X10) rfl (by decide) kw_328 (show decode cX10_count 37 = .ok (.getfield 83, 3) by decide +kernel) rfl, ?_⟩
  refine List.forall_mem_cons.mpr ⟨ok_getf C (wi_X7) rfl (by decide) kw_250 (show decode cX10_count 40 = .ok (.getfield 136, 3) by decide +kernel) rfl, ?_⟩
  refine List.forall_mem_cons.mpr ⟨ok_ret C rfl (show decode cX10_count 43 = .ok (.ireturn, 1) by decide +kernel), ?_⟩
  refine List.forall_mem_cons.mpr ⟨ok_aload_n C (show decode cX10_count 44 = .ok (.aload_n 0, 1) by decide +kernel) rfl rfl, ?_⟩
  refine List.forall_mem_cons.mpr ⟨ok_getf C (wi_X10) rfl (by decide) kw_328 (show decode cX10_count 45 = .ok (.getfield 83, 3) by decide +kernel) rfl, ?_⟩
  refine List.forall_mem_cons.mpr ⟨ok_getf C (wi_X7) rfl (by decide) kw_254 (show decode cX10_count 48 = .ok (.getfield 146, 3) by decide +kernel) rfl, ?_⟩
  refine List.forall_mem_cons.mpr ⟨ok_ret C rfl (show decode cX10_count 51 = .ok (.ireturn, 1) by decide +kernel), ?_⟩
  refine List.forall_mem_cons.mpr ⟨ok_aload_n C (show decode cX10_count 52 = .ok (.aload_n 0, 1) by decide +kernel) rfl rfl, ?_⟩
  refine List.forall_mem_cons.mpr ⟨ok_getf C (wi_X10) rfl (by decide) kw_328 (show decode cX10_count 53 = .ok (.getfield 83, 3) by decide +kernel) rfl, ?_⟩
  refine List.forall_mem_cons.mpr ⟨ok_getf C (wi_X7) rfl (by decide) kw_247 (show decode cX10_count 56 = .ok (.getfield 241, 3) by decide +kernel) rfl, ?_⟩
  refine List.forall_mem_cons.mpr ⟨ok_ret C rfl (show decode cX10_count 59 = .ok (.ireturn, 1) by decide +kernel), ?_⟩
  refine List.forall_mem_cons.mpr ⟨ok_aload_n C (show decode cX10_count 60 = .ok (.aload_n 0, 1) by decide +kernel) rfl rfl, ?_⟩
  refine List.forall_mem_cons.mpr ⟨ok_getf C (wi_X10) rfl (by decide) kw_328 (show decode cX10_count 61 = .ok (.getfield 83, 3) by decide +kernel) rfl, ?_⟩
  refine List.forall_mem_cons.mpr ⟨ok_getf C (wi_X7) rfl (by decide) kw_258 (show decode cX10_count 64 = .ok (.getfield 244, 3) by decide +kernel) rfl, ?_⟩
  refine List.forall_mem_cons.mpr ⟨ok_ret C rfl (show decode cX10_count 67 = .ok (.ireturn, 1) by decide +kernel), ?_⟩
  refine List.forall_mem_cons.mpr ⟨ok_aload_n C (show decode cX10_count 68 = .ok (.aload_n 0, 1) by decide +kernel) rfl rfl, ?_⟩
  refine List.forall_mem_cons.mpr ⟨ok_getf C (wi_X10) rfl (by decide) kw_315 (show decode cX10_count 69 = .ok (.getfield 12, 3) by decide +kernel) rfl, ?_⟩
  refine List.forall_mem_cons.mpr ⟨ok_getf C (wi_X8) rfl (by decide) kw_39 (show decode cX10_count 72 = .ok (.getfield 100, 3) by decide +kernel) rfl, ?_⟩
  refine List.forall_mem_cons.mpr ⟨ok_ret C rfl (show decode cX10_count 75 = .ok (.ireturn, 1) by decide +kernel), ?_⟩
  refine List.forall_mem_cons.mpr ⟨ok_iconst C (show decode cX10_count 76 = .ok (.iconst (-1), 1) by decide +kernel) (by decide) rfl, ?_⟩
  refine List.forall_mem_cons.mpr ⟨ok_ret C rfl (show decode cX10_count 77 = .ok (.ireturn, 1) by decide +kernel), ?_⟩
  exact fun _ h => absurd h List.not_mem_nil
def L_X10_act (f_X10_isSlot : List Value → ab_H → Option ab_O) (f_X10_isWithin : List Value → ab_H → Option ab_O) (f_X10_slotOf : List Value → ab_H → Option ab_O) (f_X6_whyNot : List Value → ab_H → Option ab_O) (f_X2_keep : List Value → ab_H → Option ab_O) (f_X6_perform : List Value → ab_H → Option ab_O) : List (Nat × ab_A) := [
  (0, ab_nx 1 (ab_aload 0)),
  (1, ab_nx 2 (ab_iload 2)),
  (2, ab_nx 3 (ab_iload 3)),
  (3, ab_nx 6 (ab_callV 3 10 f_X10_isSlot 0 0 8 138)),
  (6, ab_if 9 20 (fun x => decide (x = 0))),
  (9, ab_nx 11 (ab_iload 4)),
  (11, ab_nx 14 (ab_lit (.int 250))),
  (14, ab_nx 17 (ab_call 2 f_X10_isWithin 0 0 8 138)),
  (17, ab_if 20 22 (fun x => !decide (x = 0))),
  (20, ab_nx 21 (ab_lit (.int (-1)))),
  (21, ab_ret 8 138),
  (22, ab_nx 23 (ab_iload 2)),
  (23, ab_nx 24 (ab_iload 3)),
  (24, ab_nx 27 (ab_call 2 f_X10_slotOf 0 0 8 138)),
  (27, ab_nx 29 (ab_istore 5)),
  (29, ab_nx 30 (ab_aload 0)),
  (30, ab_nx 33 (ab_getf 10 4)),
  (33, ab_nx 34 (ab_iload 1)),
  (34, ab_nx 36 (ab_iload 5)),
  (36, ab_nx 38 (ab_iload 4)),
  (38, ab_nx 41 (ab_callV 4 6 f_X6_whyNot 0 0 8 138)),
  (41, ab_nx 43 (ab_istore 6)),
  (43, ab_nx 45 (ab_iload 6)),
  (45, ab_if 48 71 (fun x => !decide (x = 0))),
  (48, ab_nx 49 (ab_aload 0)),
  (49, ab_nx 52 (ab_getf 10 3)),
  (52, ab_nx 53 (ab_aload 0)),
  (53, ab_nx 56 (ab_getf 10 4)),
  (56, ab_nx 59 (ab_callV 2 2 f_X2_keep 8 138 8 138)),
  (59, ab_nx 60 (ab_aload 0)),
  (60, ab_nx 63 (ab_getf 10 4)),
  (63, ab_nx 64 (ab_iload 1)),
  (64, ab_nx 66 (ab_iload 5)),
  (66, ab_nx 68 (ab_iload 4)),
  (68, ab_nx 71 (ab_callV 4 6 f_X6_perform 0 0 8 138)),
  (71, ab_nx 73 (ab_iload 6)),
  (73, ab_ret 8 138)]
set_option maxRecDepth 100000 in
set_option maxHeartbeats 4000000 in
theorem M_X10_act {l : Launch} {b : ab_B} {D : va_G} {cA : Nat → ClassId} {f_X10_isSlot : List Value → ab_H → Option ab_O} (h_X10_isSlot : ab_M l b D ab_cl cA (ab_E0 b) yX10_isSlot (Cond.code yX10_isSlot cX10_isSlot 3 (some .boolean) :: ab_G) ({ frames := 2, cells := 0, slots := 0, locals := 200 } : Room) f_X10_isSlot) {f_X10_isWithin : List Value → ab_H → Option ab_O} (h_X10_isWithin : ab_M l b D ab_cl cA (ab_E0 b) yX10_isWithin (Cond.code yX10_isWithin cX10_isWithin 2 (some .boolean) :: ab_G) ({ frames := 1, cells := 0, slots := 0, locals := 100 } : Room) f_X10_isWithin) {f_X10_slotOf : List Value → ab_H → Option ab_O} (h_X10_slotOf : ab_M l b D ab_cl cA (ab_E0 b) yX10_slotOf (Cond.code yX10_slotOf cX10_slotOf 2 (some .int) :: ab_G) ({ frames := 1, cells := 0, slots := 0, locals := 100 } : Room) f_X10_slotOf) {f_X6_whyNot : List Value → ab_H → Option ab_O} (h_X6_whyNot : ab_M l b D ab_cl cA (ab_E0 b) yX6_whyNot (Cond.code yX6_whyNot cX6_whyNot 4 (some .int) :: ab_G) ({ frames := 2, cells := 0, slots := 0, locals := 200 } : Room) f_X6_whyNot) {f_X2_keep : List Value → ab_H → Option ab_O} (h_X2_keep : ab_M l b D ab_cl cA (ab_E0 b) yX2_keep (Cond.code yX2_keep cX2_keep 3 none :: ab_G) ({ frames := 3, cells := 8, slots := 138, locals := 300 } : Room) f_X2_keep) {f_X6_perform : List Value → ab_H → Option ab_O} (h_X6_perform : ab_M l b D ab_cl cA (ab_E0 b) yX6_perform (Cond.code yX6_perform cX6_perform 4 none :: ab_G) ({ frames := 1, cells := 0, slots := 0, locals := 100 } : Room) f_X6_perform) : ab_M l b D ab_cl cA (ab_E0 b) yX10_act (Cond.code yX10_act cX10_act 7 (some .int) :: ab_G) ({ frames := 4, cells := 8, slots := 138, locals := 400 } : Room) (ab_X (ab_T (L_X10_act f_X10_isSlot f_X10_isWithin f_X10_slotOf f_X6_whyNot f_X2_keep f_X6_perform)) 7) := by
  refine ab_meth (ret := (some .int)) (L_X10_act f_X10_isSlot f_X10_isWithin f_X10_slotOf f_X6_whyNot f_X2_keep f_X6_perform) (by decide) rfl fun p e R s m args below meth c o C => ?_
  unfold L_X10_act
  refine List.forall_mem_cons.mpr ⟨ok_aload_n C (show decode cX10_act 0 = .ok (.aload_n 0, 1) by decide +kernel) rfl rfl, ?_⟩
  refine List.forall_mem_cons.mpr ⟨ok_iload_n C (show decode cX10_act 1 = .ok (.iload_n 2, 1) by decide +kernel) rfl rfl, ?_⟩
  refine List.forall_mem_cons.mpr ⟨ok_iload_n C (show decode cX10_act 2 = .ok (.iload_n 3, 1) by decide +kernel) rfl rfl, ?_⟩
  refine List.forall_mem_cons.mpr ⟨ok_callV C h_X10_isSlot ⟨rfl, rfl⟩ rfl kw_592 kw_589 kw_591 kp_15 kw_1 rfl ds_X10_isSlot ⟨by decide, by decide⟩ (show decode cX10_act 3 = .ok (.invokevirtual 155, 3) by decide +kernel) rfl, ?_⟩
  refine List.forall_mem_cons.mpr ⟨ok_ifeq C (show decode cX10_act 6 = .ok (.ifCond .eq 14, 3) by decide +kernel) (tg := 20) (by decide) rfl rfl, ?_⟩
  refine List.forall_mem_cons.mpr ⟨ok_iload C (show decode cX10_act 9 = .ok (.iload 4, 2) by decide +kernel) rfl, ?_⟩
  refine List.forall_mem_cons.mpr ⟨ok_sipush C (show decode cX10_act 11 = .ok (.sipush 250, 3) by decide +kernel) (by decide) rfl, ?_⟩
  refine List.forall_mem_cons.mpr ⟨ok_callS C h_X10_isWithin ⟨rfl, rfl⟩ kw_707 kw_705 kw_706 kw_1 ds_X10_isWithin ⟨by decide, by decide⟩ (show decode cX10_act 14 = .ok (.invokestatic 251, 3) by decide +kernel) rfl, ?_⟩
  refine List.forall_mem_cons.mpr ⟨ok_ifne C (show decode cX10_act 17 = .ok (.ifCond .ne 5, 3) by decide +kernel) (tg := 22) (by decide) rfl rfl, ?_⟩
  refine List.forall_mem_cons.mpr ⟨ok_iconst C (show decode cX10_act 20 = .ok (.iconst (-1), 1) by decide +kernel) (by decide) rfl, ?_⟩
  refine List.forall_mem_cons.mpr ⟨ok_ret C rfl (show decode cX10_act 21 = .ok (.ireturn, 1) by decide +kernel), ?_⟩
  refine List.forall_mem_cons.mpr ⟨ok_iload_n C (show decode cX10_act 22 = .ok (.iload_n 2, 1) by decide +kernel) rfl rfl, ?_⟩
  refine List.forall_mem_cons.mpr ⟨ok_iload_n C (show decode cX10_act 23 = .ok (.iload_n 3, 1) by decide +kernel) rfl rfl, ?_⟩
  refine List.forall_mem_cons.mpr ⟨ok_callS C h_X10_slotOf ⟨rfl, rfl⟩ kw_532 kw_600 kw_531 kw_1 ds_X10_slotOf ⟨by decide, by decide⟩ (show decode cX10_act 24 = .ok (.invokestatic 159, 3) by decide +kernel) rfl, ?_⟩
  refine List.forall_mem_cons.mpr ⟨ok_istore C (show decode cX10_act 27 = .ok (.istore 5, 2) by decide +kernel) (by decide) rfl, ?_⟩
  refine List.forall_mem_cons.mpr ⟨ok_aload_n C (show decode cX10_act 29 = .ok (.aload_n 0, 1) by decide +kernel) rfl rfl, ?_⟩
  refine List.forall_mem_cons.mpr ⟨ok_getf C (wi_X10) rfl (by decide) kw_319 (show decode cX10_act 30 = .ok (.getfield 40, 3) by decide +kernel) rfl, ?_⟩
  refine List.forall_mem_cons.mpr ⟨ok_iload_n C (show decode cX10_act 33 = .ok (.iload_n 1, 1) by decide +kernel) rfl rfl, ?_⟩
  refine List.forall_mem_cons.mpr ⟨ok_iload C (show decode cX10_act 34 = .ok (.iload 5, 2) by decide +kernel) rfl, ?_⟩
  refine List.forall_mem_cons.mpr ⟨ok_iload C (show decode cX10_act 36 = .ok (.iload 4, 2) by decide +kernel) rfl, ?_⟩
  refine List.forall_mem_cons.mpr ⟨ok_callV C h_X6_whyNot ⟨rfl, rfl⟩ rfl kw_711 kw_708 kw_709 kw_710 kw_6 rfl ds_X6_whyNot ⟨by decide, by decide⟩ (show decode cX10_act 38 = .ok (.invokevirtual 254, 3) by decide +kernel) rfl, ?_⟩
  refine List.forall_mem_cons.mpr ⟨ok_istore C (show decode cX10_act 41 = .ok (.istore 6, 2) by decide +kernel) (by decide) rfl, ?_⟩
  refine List.forall_mem_cons.mpr ⟨ok_iload C (show decode cX10_act 43 = .ok (.iload 6, 2) by decide +kernel) rfl, ?_⟩
  refine List.forall_mem_cons.mpr ⟨ok_ifne C (show decode cX10_act 45 = .ok (.ifCond .ne 26, 3) by decide +kernel) (tg := 71) (by decide) rfl rfl, ?_⟩
  refine List.forall_mem_cons.mpr ⟨ok_aload_n C (show decode cX10_act 48 = .ok (.aload_n 0, 1) by decide +kernel) rfl rfl, ?_⟩
  refine List.forall_mem_cons.mpr ⟨ok_getf C (wi_X10) rfl (by decide) kw_318 (show decode cX10_act 49 = .ok (.getfield 33, 3) by decide +kernel) rfl, ?_⟩
  refine List.forall_mem_cons.mpr ⟨ok_aload_n C (show decode cX10_act 52 = .ok (.aload_n 0, 1) by decide +kernel) rfl rfl, ?_⟩
  refine List.forall_mem_cons.mpr ⟨ok_getf C (wi_X10) rfl (by decide) kw_319 (show decode cX10_act 53 = .ok (.getfield 40, 3) by decide +kernel) rfl, ?_⟩
  refine List.forall_mem_cons.mpr ⟨ok_callV C h_X2_keep ⟨rfl, rfl⟩ rfl kw_715 kw_712 kw_713 kw_714 kw_5 rfl ds_X2_keep ⟨by decide, by decide⟩ (show decode cX10_act 56 = .ok (.invokevirtual 258, 3) by decide +kernel) rfl, ?_⟩
  refine List.forall_mem_cons.mpr ⟨ok_aload_n C (show decode cX10_act 59 = .ok (.aload_n 0, 1) by decide +kernel) rfl rfl, ?_⟩
  refine List.forall_mem_cons.mpr ⟨ok_getf C (wi_X10) rfl (by decide) kw_319 (show decode cX10_act 60 = .ok (.getfield 40, 3) by decide +kernel) rfl, ?_⟩
  refine List.forall_mem_cons.mpr ⟨ok_iload_n C (show decode cX10_act 63 = .ok (.iload_n 1, 1) by decide +kernel) rfl rfl, ?_⟩
  refine List.forall_mem_cons.mpr ⟨ok_iload C (show decode cX10_act 64 = .ok (.iload 5, 2) by decide +kernel) rfl, ?_⟩
  refine List.forall_mem_cons.mpr ⟨ok_iload C (show decode cX10_act 66 = .ok (.iload 4, 2) by decide +kernel) rfl, ?_⟩
  refine List.forall_mem_cons.mpr ⟨ok_callV C h_X6_perform ⟨rfl, rfl⟩ rfl kw_731 kw_728 kw_729 kw_730 kw_6 rfl ds_X6_perform ⟨by decide, by decide⟩ (show decode cX10_act 68 = .ok (.invokevirtual 262, 3) by decide +kernel) rfl, ?_⟩
  refine List.forall_mem_cons.mpr ⟨ok_iload C (show decode cX10_act 71 = .ok (.iload 6, 2) by decide +kernel) rfl, ?_⟩
  refine List.forall_mem_cons.mpr ⟨ok_ret C rfl (show decode cX10_act 73 = .ok (.ireturn, 1) by decide +kernel), ?_⟩
  exact fun _ h => absurd h List.not_mem_nil
def L_X10_hoard (f_X10_act : List Value → ab_H → Option ab_O) : List (Nat × ab_A) := [
  (0, ab_nx 1 (ab_aload 0)),
  (1, ab_nx 2 (ab_lit (.int 0))),
  (2, ab_nx 3 (ab_iload 1)),
  (3, ab_nx 4 (ab_iload 2)),
  (4, ab_nx 5 (ab_iload 3)),
  (5, ab_nx 8 (ab_callV 5 10 f_X10_act 8 138 8 138)),
  (8, ab_ret 8 138)]
set_option maxRecDepth 100000 in
set_option maxHeartbeats 4000000 in
theorem M_X10_hoard {l : Launch} {b : ab_B} {D : va_G} {cA : Nat → ClassId} {f_X10_act : List Value → ab_H → Option ab_O} (h_X10_act : ab_M l b D ab_cl cA (ab_E0 b) yX10_act (Cond.code yX10_act cX10_act 7 (some .int) :: ab_G) ({ frames := 4, cells := 8, slots := 138, locals := 400 } : Room) f_X10_act) : ab_M l b D ab_cl cA (ab_E0 b) yX10_hoard (Cond.code yX10_hoard cX10_hoard 4 (some .int) :: ab_G) ({ frames := 5, cells := 8, slots := 138, locals := 500 } : Room) (ab_X (ab_T (L_X10_hoard f_X10_act)) 4) := by
  refine ab_meth (ret := (some .int)) (L_X10_hoard f_X10_act) (by decide) rfl fun p e R s m args below meth c o C => ?_
  unfold L_X10_hoard
  refine List.forall_mem_cons.mpr ⟨ok_aload_n C (show decode cX10_hoard 0 = .ok (.aload_n 0, 1) by decide +kernel) rfl rfl, ?_⟩
  refine List.forall_mem_cons.mpr ⟨ok_iconst C (show decode cX10_hoard 1 = .ok (.iconst 0, 1) by decide +kernel) (by decide) rfl, ?_⟩
  refine List.forall_mem_cons.mpr ⟨ok_iload_n C (show decode cX10_hoard 2 = .ok (.iload_n 1, 1) by decide +kernel) rfl rfl, ?_⟩
  refine List.forall_mem_cons.mpr ⟨ok_iload_n C (show decode cX10_hoard 3 = .ok (.iload_n 2, 1) by decide +kernel) rfl rfl, ?_⟩
  refine List.forall_mem_cons.mpr ⟨ok_iload_n C (show decode cX10_hoard 4 = .ok (.iload_n 3, 1) by decide +kernel) rfl rfl, ?_⟩
  refine List.forall_mem_cons.mpr ⟨ok_callV C h_X10_act ⟨rfl, rfl⟩ rfl kw_704 kw_701 kw_703 kp_20 kw_1 rfl ds_X10_act ⟨by decide, by decide⟩ (show decode cX10_hoard 5 = .ok (.invokevirtual 247, 3) by decide +kernel) rfl, ?_⟩
  refine List.forall_mem_cons.mpr ⟨ok_ret C rfl (show decode cX10_hoard 8 = .ok (.ireturn, 1) by decide +kernel), ?_⟩
  exact fun _ h => absurd h List.not_mem_nil
def L_X10_bare (f_X10_act : List Value → ab_H → Option ab_O) : List (Nat × ab_A) := [
  (0, ab_nx 1 (ab_aload 0)),
  (1, ab_nx 2 (ab_lit (.int 1))),
  (2, ab_nx 3 (ab_iload 1)),
  (3, ab_nx 4 (ab_iload 2)),
  (4, ab_nx 5 (ab_iload 3)),
  (5, ab_nx 8 (ab_callV 5 10 f_X10_act 8 138 8 138)),
  (8, ab_ret 8 138)]
set_option maxRecDepth 100000 in
set_option maxHeartbeats 4000000 in
theorem M_X10_bare {l : Launch} {b : ab_B} {D : va_G} {cA : Nat → ClassId} {f_X10_act : List Value → ab_H → Option ab_O} (h_X10_act : ab_M l b D ab_cl cA (ab_E0 b) yX10_act (Cond.code yX10_act cX10_act 7 (some .int) :: ab_G) ({ frames := 4, cells := 8, slots := 138, locals := 400 } : Room) f_X10_act) : ab_M l b D ab_cl cA (ab_E0 b) yX10_bare (Cond.code yX10_bare cX10_bare 4 (some .int) :: ab_G) ({ frames := 5, cells := 8, slots := 138, locals := 500 } : Room) (ab_X (ab_T (L_X10_bare f_X10_act)) 4) := by
  refine ab_meth (ret := (some .int)) (L_X10_bare f_X10_act) (by decide) rfl fun p e R s m args below meth c o C => ?_
  unfold L_X10_bare
  refine List.forall_mem_cons.mpr ⟨ok_aload_n C (show decode cX10_bare 0 = .ok (.aload_n 0, 1) by decide +kernel) rfl rfl, ?_⟩
  refine List.forall_mem_cons.mpr ⟨ok_iconst C (show decode cX10_bare 1 = .ok (.iconst 1, 1) by decide +kernel) (by decide) rfl, ?_⟩
  refine List.forall_mem_cons.mpr ⟨ok_iload_n C (show decode cX10_bare 2 = .ok (.iload_n 1, 1) by decide +kernel) rfl rfl, ?_⟩
  refine List.forall_mem_cons.mpr ⟨ok_iload_n C (show decode cX10_bare 3 = .ok (.iload_n 2, 1) by decide +kernel) rfl rfl, ?_⟩
  refine List.forall_mem_cons.mpr ⟨ok_iload_n C (show decode cX10_bare 4 = .ok (.iload_n 3, 1) by decide +kernel) rfl rfl, ?_⟩
  refine List.forall_mem_cons.mpr ⟨ok_callV C h_X10_act ⟨rfl, rfl⟩ rfl kw_704 kw_701 kw_703 kp_20 kw_1 rfl ds_X10_act ⟨by decide, by decide⟩ (show decode cX10_bare 5 = .ok (.invokevirtual 247, 3) by decide +kernel) rfl, ?_⟩
  refine List.forall_mem_cons.mpr ⟨ok_ret C rfl (show decode cX10_bare 8 = .ok (.ireturn, 1) by decide +kernel), ?_⟩
  exact fun _ h => absurd h List.not_mem_nil
def L_X10_waste (f_X10_act : List Value → ab_H → Option ab_O) : List (Nat × ab_A) := [
  (0, ab_nx 1 (ab_aload 0)),
  (1, ab_nx 2 (ab_lit (.int 2))),
  (2, ab_nx 3 (ab_iload 1)),
  (3, ab_nx 4 (ab_iload 2)),
  (4, ab_nx 5 (ab_iload 3)),
  (5, ab_nx 8 (ab_callV 5 10 f_X10_act 8 138 8 138)),
  (8, ab_ret 8 138)]
set_option maxRecDepth 100000 in
set_option maxHeartbeats 4000000 in
theorem M_X10_waste {l : Launch} {b : ab_B} {D : va_G} {cA : Nat → ClassId} {f_X10_act : List Value → ab_H → Option ab_O} (h_X10_act : ab_M l b D ab_cl cA (ab_E0 b) yX10_act (Cond.code yX10_act cX10_act 7 (some .int) :: ab_G) ({ frames := 4, cells := 8, slots := 138, locals := 400 } : Room) f_X10_act) : ab_M l b D ab_cl cA (ab_E0 b) yX10_waste (Cond.code yX10_waste cX10_waste 4 (some .int) :: ab_G) ({ frames := 5, cells := 8, slots := 138, locals := 500 } : Room) (ab_X (ab_T (L_X10_waste f_X10_act)) 4) := by
  refine ab_meth (ret := (some .int)) (L_X10_waste f_X10_act) (by decide) rfl fun p e R s m args below meth c o C => ?_
  unfold L_X10_waste
  refine List.forall_mem_cons.mpr ⟨ok_aload_n C (show decode cX10_waste 0 = .ok (.aload_n 0, 1) by decide +kernel) rfl rfl, ?_⟩
  refine List.forall_mem_cons.mpr ⟨ok_iconst C (show decode cX10_waste 1 = .ok (.iconst 2, 1) by decide +kernel) (by decide) rfl, ?_⟩
  refine List.forall_mem_cons.mpr ⟨ok_iload_n C (show decode cX10_waste 2 = .ok (.iload_n 1, 1) by decide +kernel) rfl rfl, ?_⟩
  refine List.forall_mem_cons.mpr ⟨ok_iload_n C (show decode cX10_waste 3 = .ok (.iload_n 2, 1) by decide +kernel) rfl rfl, ?_⟩
  refine List.forall_mem_cons.mpr ⟨ok_iload_n C (show decode cX10_waste 4 = .ok (.iload_n 3, 1) by decide +kernel) rfl rfl, ?_⟩
  refine List.forall_mem_cons.mpr ⟨ok_callV C h_X10_act ⟨rfl, rfl⟩ rfl kw_704 kw_701 kw_703 kp_20 kw_1 rfl ds_X10_act ⟨by decide, by decide⟩ (show decode cX10_waste 5 = .ok (.invokevirtual 247, 3) by decide +kernel) rfl, ?_⟩
  refine List.forall_mem_cons.mpr ⟨ok_ret C rfl (show decode cX10_waste 8 = .ok (.ireturn, 1) by decide +kernel), ?_⟩
  exact fun _ h => absurd h List.not_mem_nil
def L_X10_die (f_X10_isMan : List Value → ab_H → Option ab_O) (f_X6_whyNot : List Value → ab_H → Option ab_O) (f_X2_keep : List Value → ab_H → Option ab_O) (f_X6_perform : List Value → ab_H → Option ab_O) : List (Nat × ab_A) := [
  (0, ab_nx 1 (ab_aload 0)),
  (1, ab_nx 2 (ab_iload 1)),
  (2, ab_nx 5 (ab_callV 2 10 f_X10_isMan 0 0 8 138)),
  (5, ab_if 8 10 (fun x => !decide (x = 0))),
  (8, ab_nx 9 (ab_lit (.int (-1)))),
  (9, ab_ret 8 138),
  (10, ab_nx 11 (ab_aload 0)),
  (11, ab_nx 14 (ab_getf 10 4)),
  (14, ab_nx 15 (ab_lit (.int 3))),
  (15, ab_nx 16 (ab_iload 1)),
  (16, ab_nx 17 (ab_lit (.int 0))),
  (17, ab_nx 20 (ab_callV 4 6 f_X6_whyNot 0 0 8 138)),
  (20, ab_nx 21 (ab_istore 2)),
  (21, ab_nx 22 (ab_iload 2)),
  (22, ab_if 25 46 (fun x => !decide (x = 0))),
  (25, ab_nx 26 (ab_aload 0)),
  (26, ab_nx 29 (ab_getf 10 3)),
  (29, ab_nx 30 (ab_aload 0)),
  (30, ab_nx 33 (ab_getf 10 4)),
  (33, ab_nx 36 (ab_callV 2 2 f_X2_keep 8 138 8 138)),
  (36, ab_nx 37 (ab_aload 0)),
  (37, ab_nx 40 (ab_getf 10 4)),
  (40, ab_nx 41 (ab_lit (.int 3))),
  (41, ab_nx 42 (ab_iload 1)),
  (42, ab_nx 43 (ab_lit (.int 0))),
  (43, ab_nx 46 (ab_callV 4 6 f_X6_perform 0 0 8 138)),
  (46, ab_nx 47 (ab_iload 2)),
  (47, ab_ret 8 138)]
set_option maxRecDepth 100000 in
set_option maxHeartbeats 4000000 in
theorem M_X10_die {l : Launch} {b : ab_B} {D : va_G} {cA : Nat → ClassId} {f_X10_isMan : List Value → ab_H → Option ab_O} (h_X10_isMan : ab_M l b D ab_cl cA (ab_E0 b) yX10_isMan (Cond.code yX10_isMan cX10_isMan 2 (some .boolean) :: ab_G) ({ frames := 1, cells := 0, slots := 0, locals := 100 } : Room) f_X10_isMan) {f_X6_whyNot : List Value → ab_H → Option ab_O} (h_X6_whyNot : ab_M l b D ab_cl cA (ab_E0 b) yX6_whyNot (Cond.code yX6_whyNot cX6_whyNot 4 (some .int) :: ab_G) ({ frames := 2, cells := 0, slots := 0, locals := 200 } : Room) f_X6_whyNot) {f_X2_keep : List Value → ab_H → Option ab_O} (h_X2_keep : ab_M l b D ab_cl cA (ab_E0 b) yX2_keep (Cond.code yX2_keep cX2_keep 3 none :: ab_G) ({ frames := 3, cells := 8, slots := 138, locals := 300 } : Room) f_X2_keep) {f_X6_perform : List Value → ab_H → Option ab_O} (h_X6_perform : ab_M l b D ab_cl cA (ab_E0 b) yX6_perform (Cond.code yX6_perform cX6_perform 4 none :: ab_G) ({ frames := 1, cells := 0, slots := 0, locals := 100 } : Room) f_X6_perform) : ab_M l b D ab_cl cA (ab_E0 b) yX10_die (Cond.code yX10_die cX10_die 3 (some .int) :: ab_G) ({ frames := 4, cells := 8, slots := 138, locals := 400 } : Room) (ab_X (ab_T (L_X10_die f_X10_isMan f_X6_whyNot f_X2_keep f_X6_perform)) 3) := by
  refine ab_meth (ret := (some .int)) (L_X10_die f_X10_isMan f_X6_whyNot f_X2_keep f_X6_perform) (by decide) rfl fun p e R s m args below meth c o C => ?_
  unfold L_X10_die
  refine List.forall_mem_cons.mpr ⟨ok_aload_n C (show decode cX10_die 0 = .ok (.aload_n 0, 1) by decide +kernel) rfl rfl, ?_⟩
  refine List.forall_mem_cons.mpr ⟨ok_iload_n C (show decode cX10_die 1 = .ok (.iload_n 1, 1) by decide +kernel) rfl rfl, ?_⟩
  refine List.forall_mem_cons.mpr ⟨ok_callV C h_X10_isMan ⟨rfl, rfl⟩ rfl kw_628 kw_625 kw_627 kp_18 kw_1 rfl ds_X10_isMan ⟨by decide, by decide⟩ (show decode cX10_die 2 = .ok (.invokevirtual 149, 3) by decide +kernel) rfl, ?_⟩
  refine List.forall_mem_cons.mpr ⟨ok_ifne C (show decode cX10_die 5 = .ok (.ifCond .ne 5, 3) by decide +kernel) (tg := 10) (by decide) rfl rfl, ?_⟩
  refine List.forall_mem_cons.mpr ⟨ok_iconst C (show decode cX10_die 8 = .ok (.iconst (-1), 1) by decide +kernel) (by decide) rfl, ?_⟩
  refine List.forall_mem_cons.mpr ⟨ok_ret C rfl (show decode cX10_die 9 = .ok (.ireturn, 1) by decide +kernel), ?_⟩
  refine List.forall_mem_cons.mpr ⟨ok_aload_n C (show decode cX10_die 10 = .ok (.aload_n 0, 1) by decide +kernel) rfl rfl, ?_⟩
  refine List.forall_mem_cons.mpr ⟨ok_getf C (wi_X10) rfl (by decide) kw_319 (show decode cX10_die 11 = .ok (.getfield 40, 3) by decide +kernel) rfl, ?_⟩
  refine List.forall_mem_cons.mpr ⟨ok_iconst C (show decode cX10_die 14 = .ok (.iconst 3, 1) by decide +kernel) (by decide) rfl, ?_⟩
  refine List.forall_mem_cons.mpr ⟨ok_iload_n C (show decode cX10_die 15 = .ok (.iload_n 1, 1) by decide +kernel) rfl rfl, ?_⟩
  refine List.forall_mem_cons.mpr ⟨ok_iconst C (show decode cX10_die 16 = .ok (.iconst 0, 1) by decide +kernel) (by decide) rfl, ?_⟩
  refine List.forall_mem_cons.mpr ⟨ok_callV C h_X6_whyNot ⟨rfl, rfl⟩ rfl kw_711 kw_708 kw_709 kw_710 kw_6 rfl ds_X6_whyNot ⟨by decide, by decide⟩ (show decode cX10_die 17 = .ok (.invokevirtual 254, 3) by decide +kernel) rfl, ?_⟩
  refine List.forall_mem_cons.mpr ⟨ok_istore_n C (show decode cX10_die 20 = .ok (.istore_n 2, 1) by decide +kernel) rfl (by decide) rfl, ?_⟩
  refine List.forall_mem_cons.mpr ⟨ok_iload_n C (show decode cX10_die 21 = .ok (.iload_n 2, 1) by decide +kernel) rfl rfl, ?_⟩
  refine List.forall_mem_cons.mpr ⟨ok_ifne C (show decode cX10_die 22 = .ok (.ifCond .ne 24, 3) by decide +kernel) (tg := 46) (by decide) rfl rfl, ?_⟩
  refine List.forall_mem_cons.mpr ⟨ok_aload_n C (show decode cX10_die 25 = .ok (.aload_n 0, 1) by decide +kernel) rfl rfl, ?_⟩
  refine List.forall_mem_cons.mpr ⟨ok_getf C (wi_X10) rfl (by decide) kw_318 (show decode cX10_die 26 = .ok (.getfield 33, 3) by decide +kernel) rfl, ?_⟩
  refine List.forall_mem_cons.mpr ⟨ok_aload_n C (show decode cX10_die 29 = .ok (.aload_n 0, 1) by decide +kernel) rfl rfl, ?_⟩
  refine List.forall_mem_cons.mpr ⟨ok_getf C (wi_X10) rfl (by decide) kw_319 (show decode cX10_die 30 = .ok (.getfield 40, 3) by decide +kernel) rfl, ?_⟩
  refine List.forall_mem_cons.mpr ⟨ok_callV C h_X2_keep ⟨rfl, rfl⟩ rfl kw_715 kw_712 kw_713 kw_714 kw_5 rfl ds_X2_keep ⟨by decide, by decide⟩ (show decode cX10_die 33 = .ok (.invokevirtual 258, 3) by decide +kernel) rfl, ?_⟩
  refine List.forall_mem_cons.mpr ⟨ok_aload_n C (show decode cX10_die 36 = .ok (.aload_n 0, 1) by decide +kernel) rfl rfl, ?_⟩
  refine List.forall_mem_cons.mpr ⟨ok_getf C (wi_X10) rfl (by decide) kw_319 (show decode cX10_die 37 = .ok (.getfield 40, 3) by decide +kernel) rfl, ?_⟩
  refine List.forall_mem_cons.mpr ⟨ok_iconst C (show decode cX10_die 40 = .ok (.iconst 3, 1) by decide +kernel) (by decide) rfl, ?_⟩
  refine List.forall_mem_cons.mpr ⟨ok_iload_n C (show decode cX10_die 41 = .ok (.iload_n 1, 1) by decide +kernel) rfl rfl, ?_⟩
  refine List.forall_mem_cons.mpr ⟨ok_iconst C (show decode cX10_die 42 = .ok (.iconst 0, 1) by decide +kernel) (by decide) rfl, ?_⟩
  refine List.forall_mem_cons.mpr ⟨ok_callV C h_X6_perform ⟨rfl, rfl⟩ rfl kw_731 kw_728 kw_729 kw_730 kw_6 rfl ds_X6_perform ⟨by decide, by decide⟩ (show decode cX10_die 43 = .ok (.invokevirtual 262, 3) by decide +kernel) rfl, ?_⟩
  refine List.forall_mem_cons.mpr ⟨ok_iload_n C (show decode cX10_die 46 = .ok (.iload_n 2, 1) by decide +kernel) rfl rfl, ?_⟩
  refine List.forall_mem_cons.mpr ⟨ok_ret C rfl (show decode cX10_die 47 = .ok (.ireturn, 1) by decide +kernel), ?_⟩
  exact fun _ h => absurd h List.not_mem_nil
