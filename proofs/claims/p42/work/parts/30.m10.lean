def L_X10_meet (f_X10_areLivingTwo : List Value → ab_H → Option ab_O) (f_X6_copyFrom : List Value → ab_H → Option ab_O) (f_X1_passDays : List Value → ab_H → Option ab_O) : List (Nat × ab_A) := [
  (0, ab_nx 1 (ab_aload 0)),
  (1, ab_nx 2 (ab_iload 1)),
  (2, ab_nx 3 (ab_iload 2)),
  (3, ab_nx 6 (ab_callV 3 10 f_X10_areLivingTwo 0 0 0 0)),
  (6, ab_if 9 11 (fun x => !decide (x = 0))),
  (9, ab_nx 10 (ab_lit (.int (-1)))),
  (10, ab_ret 0 0),
  (11, ab_nx 12 (ab_aload 0)),
  (12, ab_nx 15 (ab_getf 10 5)),
  (15, ab_nx 16 (ab_aload 0)),
  (16, ab_nx 19 (ab_getf 10 4)),
  (19, ab_nx 22 (ab_callV 2 6 f_X6_copyFrom 0 0 0 0)),
  (22, ab_nx 23 (ab_lit (.int 0))),
  (23, ab_nx 24 (ab_istore 3)),
  (24, ab_nx 25 (ab_iload 3)),
  (25, ab_nx 27 (ab_lit (.int 100))),
  (27, ab_icmp 30 91 (fun x y => decide (y < x))),
  (30, ab_nx 31 (ab_aload 0)),
  (31, ab_nx 34 (ab_getf 10 5)),
  (34, ab_nx 37 (ab_getf 6 4)),
  (37, ab_nx 38 (ab_iload 1)),
  (38, ab_nx 39 (ab_ald 1)),
  (39, ab_nx 40 (ab_aload 0)),
  (40, ab_nx 43 (ab_getf 10 5)),
  (43, ab_nx 46 (ab_getf 6 4)),
  (46, ab_nx 47 (ab_iload 2)),
  (47, ab_nx 48 (ab_ald 1)),
  (48, ab_icmp 51 53 (fun x y => !decide (x = y))),
  (51, ab_nx 52 (ab_iload 3)),
  (52, ab_ret 0 0),
  (53, ab_nx 54 (ab_aload 0)),
  (54, ab_nx 57 (ab_getf 10 5)),
  (57, ab_nx 60 (ab_getf 6 7)),
  (60, ab_nx 63 (ab_lit (.int 400))),
  (63, ab_icmp 66 68 (fun x y => decide (x < y))),
  (66, ab_nx 67 (ab_lit (.int (-1)))),
  (67, ab_ret 0 0),
  (68, ab_nx 69 (ab_aload 0)),
  (69, ab_nx 72 (ab_getf 10 2)),
  (72, ab_nx 73 (ab_aload 0)),
  (73, ab_nx 76 (ab_getf 10 13)),
  (76, ab_nx 77 (ab_aload 0)),
  (77, ab_nx 80 (ab_getf 10 5)),
  (80, ab_nx 81 (ab_lit (.int 1))),
  (81, ab_nx 84 (ab_callV 4 1 f_X1_passDays 0 0 0 0)),
  (84, ab_nx 85 ab_pop),
  (85, ab_nx 88 (ab_iinc 3 1)),
  (88, ab_goto 24),
  (91, ab_nx 92 (ab_lit (.int (-1)))),
  (92, ab_ret 0 0)]
set_option maxRecDepth 100000 in
set_option maxHeartbeats 4000000 in
theorem M_X10_meet {l : Launch} {b : ab_B} {D : va_G} {cA : Nat → ClassId} {f_X10_areLivingTwo : List Value → ab_H → Option ab_O} (h_X10_areLivingTwo : ab_M l b D ab_cl cA (ab_E0 b) yX10_areLivingTwo (Cond.code yX10_areLivingTwo cX10_areLivingTwo 3 (some .boolean) :: ab_G) ({ frames := 2, cells := 0, slots := 0, locals := 200 } : Room) f_X10_areLivingTwo) {f_X6_copyFrom : List Value → ab_H → Option ab_O} (h_X6_copyFrom : ab_M l b D ab_cl cA (ab_E0 b) yX6_copyFrom (Cond.code yX6_copyFrom cX6_copyFrom 2 none :: ab_G) ({ frames := 2, cells := 0, slots := 0, locals := 200 } : Room) f_X6_copyFrom) {f_X1_passDays : List Value → ab_H → Option ab_O} (h_X1_passDays : ab_M l b D ab_cl cA (ab_E0 b) yX1_passDays (Cond.code yX1_passDays cX1_passDays 6 (some .int) :: ab_G) ({ frames := 5, cells := 0, slots := 0, locals := 500 } : Room) f_X1_passDays) : ab_M l b D ab_cl cA (ab_E0 b) yX10_meet (Cond.code yX10_meet cX10_meet 4 (some .int) :: ab_G) ({ frames := 6, cells := 0, slots := 0, locals := 600 } : Room) (ab_X (ab_T (L_X10_meet f_X10_areLivingTwo f_X6_copyFrom f_X1_passDays)) 4) := by
  refine ab_meth (ret := (some .int)) (L_X10_meet f_X10_areLivingTwo f_X6_copyFrom f_X1_passDays) (by decide) rfl fun p e R s m args below meth c o C => ?_
  unfold L_X10_meet
  refine List.forall_mem_cons.mpr ⟨ok_aload_n C (show decode cX10_meet 0 = .ok (.aload_n 0, 1) by decide +kernel) rfl rfl, ?_⟩
  refine List.forall_mem_cons.mpr ⟨ok_iload_n C (show decode cX10_meet 1 = .ok (.iload_n 1, 1) by decide +kernel) rfl rfl, ?_⟩
  refine List.forall_mem_cons.mpr ⟨ok_iload_n C (show decode cX10_meet 2 = .ok (.iload_n 2, 1) by decide +kernel) rfl rfl, ?_⟩
  refine List.forall_mem_cons.mpr ⟨ok_callV C h_X10_areLivingTwo ⟨rfl, rfl⟩ rfl kw_624 kw_621 kw_623 kp_17 kw_1 rfl ds_X10_areLivingTwo ⟨by decide, by decide⟩ (show decode cX10_meet 3 = .ok (.invokevirtual 207, 3) by decide +kernel) rfl, ?_⟩
  refine List.forall_mem_cons.mpr ⟨ok_ifne C (show decode cX10_meet 6 = .ok (.ifCond .ne 5, 3) by decide +kernel) (tg := 11) (by decide) rfl rfl, ?_⟩
  refine List.forall_mem_cons.mpr ⟨ok_iconst C (show decode cX10_meet 9 = .ok (.iconst (-1), 1) by decide +kernel) (by decide) rfl, ?_⟩
  refine List.forall_mem_cons.mpr ⟨ok_ret C rfl (show decode cX10_meet 10 = .ok (.ireturn, 1) by decide +kernel), ?_⟩
  refine List.forall_mem_cons.mpr ⟨ok_aload_n C (show decode cX10_meet 11 = .ok (.aload_n 0, 1) by decide +kernel) rfl rfl, ?_⟩
  refine List.forall_mem_cons.mpr ⟨ok_getf C (wi_X10) rfl (by decide) kw_320 (show decode cX10_meet 12 = .ok (.getfield 44, 3) by decide +kernel) rfl, ?_⟩
  refine List.forall_mem_cons.mpr ⟨ok_aload_n C (show decode cX10_meet 15 = .ok (.aload_n 0, 1) by decide +kernel) rfl rfl, ?_⟩
  refine List.forall_mem_cons.mpr ⟨ok_getf C (wi_X10) rfl (by decide) kw_319 (show decode cX10_meet 16 = .ok (.getfield 40, 3) by decide +kernel) rfl, ?_⟩
  refine List.forall_mem_cons.mpr ⟨ok_callV C h_X6_copyFrom ⟨rfl, rfl⟩ rfl kw_724 kw_806 kw_722 kw_723 kw_6 rfl ds_X6_copyFrom ⟨by decide, by decide⟩ (show decode cX10_meet 19 = .ok (.invokevirtual 284, 3) by decide +kernel) rfl, ?_⟩
  refine List.forall_mem_cons.mpr ⟨ok_iconst C (show decode cX10_meet 22 = .ok (.iconst 0, 1) by decide +kernel) (by decide) rfl, ?_⟩
  refine List.forall_mem_cons.mpr ⟨ok_istore_n C (show decode cX10_meet 23 = .ok (.istore_n 3, 1) by decide +kernel) rfl (by decide) rfl, ?_⟩
  refine List.forall_mem_cons.mpr ⟨ok_iload_n C (show decode cX10_meet 24 = .ok (.iload_n 3, 1) by decide +kernel) rfl rfl, ?_⟩
  refine List.forall_mem_cons.mpr ⟨ok_bipush C (show decode cX10_meet 25 = .ok (.bipush 100, 2) by decide +kernel) (by decide) rfl, ?_⟩
  refine List.forall_mem_cons.mpr ⟨ok_icmpgt C (show decode cX10_meet 27 = .ok (.if_icmp .gt 64, 3) by decide +kernel) (tg := 91) (by decide) rfl rfl, ?_⟩
  refine List.forall_mem_cons.mpr ⟨ok_aload_n C (show decode cX10_meet 30 = .ok (.aload_n 0, 1) by decide +kernel) rfl rfl, ?_⟩
  refine List.forall_mem_cons.mpr ⟨ok_getf C (wi_X10) rfl (by decide) kw_320 (show decode cX10_meet 31 = .ok (.getfield 44, 3) by decide +kernel) rfl, ?_⟩
  refine List.forall_mem_cons.mpr ⟨ok_getf C (wi_X6) rfl (by decide) kw_157 (show decode cX10_meet 34 = .ok (.getfield 193, 3) by decide +kernel) rfl, ?_⟩
  refine List.forall_mem_cons.mpr ⟨ok_iload_n C (show decode cX10_meet 37 = .ok (.iload_n 1, 1) by decide +kernel) rfl rfl, ?_⟩
  refine List.forall_mem_cons.mpr ⟨ok_iaload C (show decode cX10_meet 38 = .ok (.iaload, 1) by decide +kernel) rfl, ?_⟩
  refine List.forall_mem_cons.mpr ⟨ok_aload_n C (show decode cX10_meet 39 = .ok (.aload_n 0, 1) by decide +kernel) rfl rfl, ?_⟩
  refine List.forall_mem_cons.mpr ⟨ok_getf C (wi_X10) rfl (by decide) kw_320 (show decode cX10_meet 40 = .ok (.getfield 44, 3) by decide +kernel) rfl, ?_⟩
  refine List.forall_mem_cons.mpr ⟨ok_getf C (wi_X6) rfl (by decide) kw_157 (show decode cX10_meet 43 = .ok (.getfield 193, 3) by decide +kernel) rfl, ?_⟩
  refine List.forall_mem_cons.mpr ⟨ok_iload_n C (show decode cX10_meet 46 = .ok (.iload_n 2, 1) by decide +kernel) rfl rfl, ?_⟩
  refine List.forall_mem_cons.mpr ⟨ok_iaload C (show decode cX10_meet 47 = .ok (.iaload, 1) by decide +kernel) rfl, ?_⟩
  refine List.forall_mem_cons.mpr ⟨ok_icmpne C (show decode cX10_meet 48 = .ok (.if_icmp .ne 5, 3) by decide +kernel) (tg := 53) (by decide) rfl rfl, ?_⟩
  refine List.forall_mem_cons.mpr ⟨ok_iload_n C (show decode cX10_meet 51 = .ok (.iload_n 3, 1) by decide +kernel) rfl rfl, ?_⟩
  refine List.forall_mem_cons.mpr ⟨ok_ret C rfl (show decode cX10_meet 52 = .ok (.ireturn, 1) by decide +kernel), ?_⟩
  refine List.forall_mem_cons.mpr ⟨ok_aload_n C (show decode cX10_meet 53 = .ok (.aload_n 0, 1) by decide +kernel) rfl rfl, ?_⟩
  refine List.forall_mem_cons.mpr ⟨ok_getf C (wi_X10) rfl (by decide) kw_320 (show decode cX10_meet 54 = .ok (.getfield 44, 3) by decide +kernel) rfl, ?_⟩
  refine List.forall_mem_cons.mpr ⟨ok_getf C (wi_X6) rfl (by decide) kw_164 (show decode cX10_meet 57 = .ok (.getfield 213, 3) by decide +kernel) rfl, ?_⟩
  refine List.forall_mem_cons.mpr ⟨ok_sipush C (show decode cX10_meet 60 = .ok (.sipush 400, 3) by decide +kernel) (by decide) rfl, ?_⟩
  refine List.forall_mem_cons.mpr ⟨ok_icmplt C (show decode cX10_meet 63 = .ok (.if_icmp .lt 5, 3) by decide +kernel) (tg := 68) (by decide) rfl rfl, ?_⟩
  refine List.forall_mem_cons.mpr ⟨ok_iconst C (show decode cX10_meet 66 = .ok (.iconst (-1), 1) by decide +kernel) (by decide) rfl, ?_⟩
  refine List.forall_mem_cons.mpr ⟨ok_ret C rfl (show decode cX10_meet 67 = .ok (.ireturn, 1) by decide +kernel), ?_⟩
  refine List.forall_mem_cons.mpr ⟨ok_aload_n C (show decode cX10_meet 68 = .ok (.aload_n 0, 1) by decide +kernel) rfl rfl, ?_⟩
  refine List.forall_mem_cons.mpr ⟨ok_getf C (wi_X10) rfl (by decide) kw_317 (show decode cX10_meet 69 = .ok (.getfield 26, 3) by decide +kernel) rfl, ?_⟩
  refine List.forall_mem_cons.mpr ⟨ok_aload_n C (show decode cX10_meet 72 = .ok (.aload_n 0, 1) by decide +kernel) rfl rfl, ?_⟩
  refine List.forall_mem_cons.mpr ⟨ok_getf C (wi_X10) rfl (by decide) kw_328 (show decode cX10_meet 73 = .ok (.getfield 83, 3) by decide +kernel) rfl, ?_⟩
  refine List.forall_mem_cons.mpr ⟨ok_aload_n C (show decode cX10_meet 76 = .ok (.aload_n 0, 1) by decide +kernel) rfl rfl, ?_⟩
  refine List.forall_mem_cons.mpr ⟨ok_getf C (wi_X10) rfl (by decide) kw_320 (show decode cX10_meet 77 = .ok (.getfield 44, 3) by decide +kernel) rfl, ?_⟩
  refine List.forall_mem_cons.mpr ⟨ok_iconst C (show decode cX10_meet 80 = .ok (.iconst 1, 1) by decide +kernel) (by decide) rfl, ?_⟩
  refine List.forall_mem_cons.mpr ⟨ok_callV C h_X1_passDays ⟨rfl, rfl⟩ rfl kw_751 kw_748 kw_749 kw_750 kw_4 rfl ds_X1_passDays ⟨by decide, by decide⟩ (show decode cX10_meet 81 = .ok (.invokevirtual 266, 3) by decide +kernel) rfl, ?_⟩
  refine List.forall_mem_cons.mpr ⟨ok_pop C (show decode cX10_meet 84 = .ok (.pop, 1) by decide +kernel) rfl, ?_⟩
  refine List.forall_mem_cons.mpr ⟨ok_iinc C (show decode cX10_meet 85 = .ok (.iinc 3 1, 3) by decide +kernel) (by decide) (by decide) rfl, ?_⟩
  refine List.forall_mem_cons.mpr ⟨ok_goto C (show decode cX10_meet 88 = .ok (.goto (-64), 3) by decide +kernel) (tg := 24) (by decide) rfl, ?_⟩
  refine List.forall_mem_cons.mpr ⟨ok_iconst C (show decode cX10_meet 91 = .ok (.iconst (-1), 1) by decide +kernel) (by decide) rfl, ?_⟩
  refine List.forall_mem_cons.mpr ⟨ok_ret C rfl (show decode cX10_meet 92 = .ok (.ireturn, 1) by decide +kernel), ?_⟩
  exact fun _ h => absurd h List.not_mem_nil
def L_X10_loads (f_X10_isWithin : List Value → ab_H → Option ab_O) (f_X6_copyFrom : List Value → ab_H → Option ab_O) (f_X1_passDays : List Value → ab_H → Option ab_O) : List (Nat × ab_A) := [
  (0, ab_nx 1 (ab_iload 1)),
  (1, ab_nx 3 (ab_lit (.int 60))),
  (3, ab_nx 6 (ab_call 2 f_X10_isWithin 0 0 0 0)),
  (6, ab_if 9 11 (fun x => !decide (x = 0))),
  (9, ab_nx 10 (ab_lit (.int (-1)))),
  (10, ab_ret 0 0),
  (11, ab_nx 12 (ab_aload 0)),
  (12, ab_nx 15 (ab_getf 10 5)),
  (15, ab_nx 16 (ab_aload 0)),
  (16, ab_nx 19 (ab_getf 10 4)),
  (19, ab_nx 22 (ab_callV 2 6 f_X6_copyFrom 0 0 0 0)),
  (22, ab_nx 23 (ab_aload 0)),
  (23, ab_nx 26 (ab_getf 10 2)),
  (26, ab_nx 27 (ab_aload 0)),
  (27, ab_nx 30 (ab_getf 10 13)),
  (30, ab_nx 31 (ab_aload 0)),
  (31, ab_nx 34 (ab_getf 10 5)),
  (34, ab_nx 35 (ab_iload 1)),
  (35, ab_nx 38 (ab_callV 4 1 f_X1_passDays 0 0 0 0)),
  (38, ab_nx 39 ab_pop),
  (39, ab_nx 40 (ab_aload 0)),
  (40, ab_nx 43 (ab_getf 10 5)),
  (43, ab_nx 46 (ab_getf 6 9)),
  (46, ab_nx 47 (ab_aload 0)),
  (47, ab_nx 50 (ab_getf 10 4)),
  (50, ab_nx 53 (ab_getf 6 9)),
  (53, ab_nx 54 (ab_bin (fun x y => x - y))),
  (54, ab_ret 0 0)]
set_option maxRecDepth 100000 in
set_option maxHeartbeats 4000000 in
theorem M_X10_loads {l : Launch} {b : ab_B} {D : va_G} {cA : Nat → ClassId} {f_X10_isWithin : List Value → ab_H → Option ab_O} (h_X10_isWithin : ab_M l b D ab_cl cA (ab_E0 b) yX10_isWithin (Cond.code yX10_isWithin cX10_isWithin 2 (some .boolean) :: ab_G) ({ frames := 1, cells := 0, slots := 0, locals := 100 } : Room) f_X10_isWithin) {f_X6_copyFrom : List Value → ab_H → Option ab_O} (h_X6_copyFrom : ab_M l b D ab_cl cA (ab_E0 b) yX6_copyFrom (Cond.code yX6_copyFrom cX6_copyFrom 2 none :: ab_G) ({ frames := 2, cells := 0, slots := 0, locals := 200 } : Room) f_X6_copyFrom) {f_X1_passDays : List Value → ab_H → Option ab_O} (h_X1_passDays : ab_M l b D ab_cl cA (ab_E0 b) yX1_passDays (Cond.code yX1_passDays cX1_passDays 6 (some .int) :: ab_G) ({ frames := 5, cells := 0, slots := 0, locals := 500 } : Room) f_X1_passDays) : ab_M l b D ab_cl cA (ab_E0 b) yX10_loads (Cond.code yX10_loads cX10_loads 2 (some .int) :: ab_G) ({ frames := 6, cells := 0, slots := 0, locals := 600 } : Room) (ab_X (ab_T (L_X10_loads f_X10_isWithin f_X6_copyFrom f_X1_passDays)) 2) := by
  refine ab_meth (ret := (some .int)) (L_X10_loads f_X10_isWithin f_X6_copyFrom f_X1_passDays) (by decide) rfl fun p e R s m args below meth c o C => ?_
  unfold L_X10_loads
  refine List.forall_mem_cons.mpr ⟨ok_iload_n C (show decode cX10_loads 0 = .ok (.iload_n 1, 1) by decide +kernel) rfl rfl, ?_⟩
  refine List.forall_mem_cons.mpr ⟨ok_bipush C (show decode cX10_loads 1 = .ok (.bipush 60, 2) by decide +kernel) (by decide) rfl, ?_⟩
  refine List.forall_mem_cons.mpr ⟨ok_callS C h_X10_isWithin ⟨rfl, rfl⟩ kw_707 kw_705 kw_706 kw_1 ds_X10_isWithin ⟨by decide, by decide⟩ (show decode cX10_loads 3 = .ok (.invokestatic 251, 3) by decide +kernel) rfl, ?_⟩
  refine List.forall_mem_cons.mpr ⟨ok_ifne C (show decode cX10_loads 6 = .ok (.ifCond .ne 5, 3) by decide +kernel) (tg := 11) (by decide) rfl rfl, ?_⟩
  refine List.forall_mem_cons.mpr ⟨ok_iconst C (show decode cX10_loads 9 = .ok (.iconst (-1), 1) by decide +kernel) (by decide) rfl, ?_⟩
  refine List.forall_mem_cons.mpr ⟨ok_ret C rfl (show decode cX10_loads 10 = .ok (.ireturn, 1) by decide +kernel), ?_⟩
  refine List.forall_mem_cons.mpr ⟨ok_aload_n C (show decode cX10_loads 11 = .ok (.aload_n 0, 1) by decide +kernel) rfl rfl, ?_⟩
  refine List.forall_mem_cons.mpr ⟨ok_getf C (wi_X10) rfl (by decide) kw_320 (show decode cX10_loads 12 = .ok (.getfield 44, 3) by decide +kernel) rfl, ?_⟩
  refine List.forall_mem_cons.mpr ⟨ok_aload_n C (show decode cX10_loads 15 = .ok (.aload_n 0, 1) by decide +kernel) rfl rfl, ?_⟩
  refine List.forall_mem_cons.mpr ⟨ok_getf C (wi_X10) rfl (by decide) kw_319 (show decode cX10_loads 16 = .ok (.getfield 40, 3) by decide +kernel) rfl, ?_⟩
  refine List.forall_mem_cons.mpr ⟨ok_callV C h_X6_copyFrom ⟨rfl, rfl⟩ rfl kw_724 kw_806 kw_722 kw_723 kw_6 rfl ds_X6_copyFrom ⟨by decide, by decide⟩ (show decode cX10_loads 19 = .ok (.invokevirtual 284, 3) by decide +kernel) rfl, ?_⟩
  refine List.forall_mem_cons.mpr ⟨ok_aload_n C (show decode cX10_loads 22 = .ok (.aload_n 0, 1) by decide +kernel) rfl rfl, ?_⟩
  refine List.forall_mem_cons.mpr ⟨ok_getf C (wi_X10) rfl (by decide) kw_317 (show decode cX10_loads 23 = .ok (.getfield 26, 3) by decide +kernel) rfl, ?_⟩
  refine List.forall_mem_cons.mpr ⟨ok_aload_n C (show decode cX10_loads 26 = .ok (.aload_n 0, 1) by decide +kernel) rfl rfl, ?_⟩
  refine List.forall_mem_cons.mpr ⟨ok_getf C (wi_X10) rfl (by decide) kw_328 (show decode cX10_loads 27 = .ok (.getfield 83, 3) by decide +kernel) rfl, ?_⟩
  refine List.forall_mem_cons.mpr ⟨ok_aload_n C (show decode cX10_loads 30 = .ok (.aload_n 0, 1) by decide +kernel) rfl rfl, ?_⟩
  refine List.forall_mem_cons.mpr ⟨ok_getf C (wi_X10) rfl (by decide) kw_320 (show decode cX10_loads 31 = .ok (.getfield 44, 3) by decide +kernel) rfl, ?_⟩
  refine List.forall_mem_cons.mpr ⟨ok_iload_n C (show decode cX10_loads 34 = .ok (.iload_n 1, 1) by decide +kernel) rfl rfl, ?_⟩
  refine List.forall_mem_cons.mpr ⟨ok_callV C h_X1_passDays ⟨rfl, rfl⟩ rfl kw_751 kw_748 kw_749 kw_750 kw_4 rfl ds_X1_passDays ⟨by decide, by decide⟩ (show decode cX10_loads 35 = .ok (.invokevirtual 266, 3) by decide +kernel) rfl, ?_⟩
  refine List.forall_mem_cons.mpr ⟨ok_pop C (show decode cX10_loads 38 = .ok (.pop, 1) by decide +kernel) rfl, ?_⟩
  refine List.forall_mem_cons.mpr ⟨ok_aload_n C (show decode cX10_loads 39 = .ok (.aload_n 0, 1) by decide +kernel) rfl rfl, ?_⟩
  refine List.forall_mem_cons.mpr ⟨ok_getf C (wi_X10) rfl (by decide) kw_320 (show decode cX10_loads 40 = .ok (.getfield 44, 3) by decide +kernel) rfl, ?_⟩
  refine List.forall_mem_cons.mpr ⟨ok_getf C (wi_X6) rfl (by decide) kw_170 (show decode cX10_loads 43 = .ok (.getfield 226, 3) by decide +kernel) rfl, ?_⟩
  refine List.forall_mem_cons.mpr ⟨ok_aload_n C (show decode cX10_loads 46 = .ok (.aload_n 0, 1) by decide +kernel) rfl rfl, ?_⟩
  refine List.forall_mem_cons.mpr ⟨ok_getf C (wi_X10) rfl (by decide) kw_319 (show decode cX10_loads 47 = .ok (.getfield 40, 3) by decide +kernel) rfl, ?_⟩
  refine List.forall_mem_cons.mpr ⟨ok_getf C (wi_X6) rfl (by decide) kw_170 (show decode cX10_loads 50 = .ok (.getfield 226, 3) by decide +kernel) rfl, ?_⟩
  refine List.forall_mem_cons.mpr ⟨ok_isub C (show decode cX10_loads 53 = .ok (.isub, 1) by decide +kernel) rfl, ?_⟩
  refine List.forall_mem_cons.mpr ⟨ok_ret C rfl (show decode cX10_loads 54 = .ok (.ireturn, 1) by decide +kernel), ?_⟩
  exact fun _ h => absurd h List.not_mem_nil
def L_X10_settles (f_X6_copyFrom : List Value → ab_H → Option ab_O) (f_X1_passDays : List Value → ab_H → Option ab_O) (f_X6_looksLike : List Value → ab_H → Option ab_O) : List (Nat × ab_A) := [
  (0, ab_nx 1 (ab_aload 0)),
  (1, ab_nx 4 (ab_getf 10 6)),
  (4, ab_nx 5 (ab_aload 0)),
  (5, ab_nx 8 (ab_getf 10 4)),
  (8, ab_nx 11 (ab_callV 2 6 f_X6_copyFrom 0 0 0 0)),
  (11, ab_nx 12 (ab_aload 0)),
  (12, ab_nx 15 (ab_getf 10 5)),
  (15, ab_nx 16 (ab_aload 0)),
  (16, ab_nx 19 (ab_getf 10 4)),
  (19, ab_nx 22 (ab_callV 2 6 f_X6_copyFrom 0 0 0 0)),
  (22, ab_nx 23 (ab_aload 0)),
  (23, ab_nx 26 (ab_getf 10 2)),
  (26, ab_nx 27 (ab_aload 0)),
  (27, ab_nx 30 (ab_getf 10 13)),
  (30, ab_nx 31 (ab_aload 0)),
  (31, ab_nx 34 (ab_getf 10 5)),
  (34, ab_nx 35 (ab_lit (.int 2))),
  (35, ab_nx 38 (ab_callV 4 1 f_X1_passDays 0 0 0 0)),
  (38, ab_nx 39 (ab_lit (.int 2))),
  (39, ab_icmp 42 44 (fun x y => decide (y ≤ x))),
  (42, ab_nx 43 (ab_lit (.int (-1)))),
  (43, ab_ret 0 0),
  (44, ab_nx 45 (ab_lit (.int 0))),
  (45, ab_nx 46 (ab_istore 1)),
  (46, ab_nx 47 (ab_iload 1)),
  (47, ab_nx 50 (ab_lit (.int 200))),
  (50, ab_icmp 53 130 (fun x y => decide (y ≤ x))),
  (53, ab_nx 54 (ab_aload 0)),
  (54, ab_nx 57 (ab_getf 10 5)),
  (57, ab_nx 58 (ab_aload 0)),
  (58, ab_nx 61 (ab_getf 10 6)),
  (61, ab_nx 64 (ab_callV 2 6 f_X6_looksLike 0 0 0 0)),
  (64, ab_if 67 75 (fun x => decide (x = 0))),
  (67, ab_nx 68 (ab_aload 0)),
  (68, ab_nx 71 (ab_getf 10 6)),
  (71, ab_nx 74 (ab_getf 6 7)),
  (74, ab_ret 0 0),
  (75, ab_nx 76 (ab_aload 0)),
  (76, ab_nx 79 (ab_getf 10 5)),
  (79, ab_nx 82 (ab_getf 6 7)),
  (82, ab_nx 85 (ab_lit (.int 400))),
  (85, ab_icmp 88 90 (fun x y => decide (x < y))),
  (88, ab_nx 89 (ab_lit (.int (-1)))),
  (89, ab_ret 0 0),
  (90, ab_nx 91 (ab_aload 0)),
  (91, ab_nx 94 (ab_getf 10 2)),
  (94, ab_nx 95 (ab_aload 0)),
  (95, ab_nx 98 (ab_getf 10 13)),
  (98, ab_nx 99 (ab_aload 0)),
  (99, ab_nx 102 (ab_getf 10 5)),
  (102, ab_nx 103 (ab_lit (.int 1))),
  (103, ab_nx 106 (ab_callV 4 1 f_X1_passDays 0 0 0 0)),
  (106, ab_nx 107 ab_pop),
  (107, ab_nx 108 (ab_aload 0)),
  (108, ab_nx 111 (ab_getf 10 2)),
  (111, ab_nx 112 (ab_aload 0)),
  (112, ab_nx 115 (ab_getf 10 13)),
  (115, ab_nx 116 (ab_aload 0)),
  (116, ab_nx 119 (ab_getf 10 6)),
  (119, ab_nx 120 (ab_lit (.int 1))),
  (120, ab_nx 123 (ab_callV 4 1 f_X1_passDays 0 0 0 0)),
  (123, ab_nx 124 ab_pop),
  (124, ab_nx 127 (ab_iinc 1 1)),
  (127, ab_goto 46),
  (130, ab_nx 131 (ab_lit (.int (-1)))),
  (131, ab_ret 0 0)]
set_option maxRecDepth 100000 in
set_option maxHeartbeats 4000000 in
theorem M_X10_settles {l : Launch} {b : ab_B} {D : va_G} {cA : Nat → ClassId} {f_X6_copyFrom : List Value → ab_H → Option ab_O} (h_X6_copyFrom : ab_M l b D ab_cl cA (ab_E0 b) yX6_copyFrom (Cond.code yX6_copyFrom cX6_copyFrom 2 none :: ab_G) ({ frames := 2, cells := 0, slots := 0, locals := 200 } : Room) f_X6_copyFrom) {f_X1_passDays : List Value → ab_H → Option ab_O} (h_X1_passDays : ab_M l b D ab_cl cA (ab_E0 b) yX1_passDays (Cond.code yX1_passDays cX1_passDays 6 (some .int) :: ab_G) ({ frames := 5, cells := 0, slots := 0, locals := 500 } : Room) f_X1_passDays) {f_X6_looksLike : List Value → ab_H → Option ab_O} (h_X6_looksLike : ab_M l b D ab_cl cA (ab_E0 b) yX6_looksLike (Cond.code yX6_looksLike cX6_looksLike 3 (some .boolean) :: ab_G) ({ frames := 1, cells := 0, slots := 0, locals := 100 } : Room) f_X6_looksLike) : ab_M l b D ab_cl cA (ab_E0 b) yX10_settles (Cond.code yX10_settles cX10_settles 2 (some .int) :: ab_G) ({ frames := 6, cells := 0, slots := 0, locals := 600 } : Room) (ab_X (ab_T (L_X10_settles f_X6_copyFrom f_X1_passDays f_X6_looksLike)) 2) := by
  refine ab_meth (ret := (some .int)) (L_X10_settles f_X6_copyFrom f_X1_passDays f_X6_looksLike) (by decide) rfl fun p e R s m args below meth c o C => ?_
  unfold L_X10_settles
  refine List.forall_mem_cons.mpr ⟨ok_aload_n C (show decode cX10_settles 0 = .ok (.aload_n 0, 1) by decide +kernel) rfl rfl, ?_⟩
  refine List.forall_mem_cons.mpr ⟨ok_getf C (wi_X10) rfl (by decide) kw_321 (show decode cX10_settles 1 = .ok (.getfield 47, 3) by decide +kernel) rfl, ?_⟩
  refine List.forall_mem_cons.mpr ⟨ok_aload_n C (show decode cX10_settles 4 = .ok (.aload_n 0, 1) by decide +kernel) rfl rfl, ?_⟩
  refine List.forall_mem_cons.mpr ⟨ok_getf C (wi_X10) rfl (by decide) kw_319 (show decode cX10_settles 5 = .ok (.getfield 40, 3) by decide +kernel) rfl, ?_⟩
  refine List.forall_mem_cons.mpr ⟨ok_callV C h_X6_copyFrom ⟨rfl, rfl⟩ rfl kw_724 kw_806 kw_722 kw_723 kw_6 rfl ds_X6_copyFrom ⟨by decide, by decide⟩ (show decode cX10_settles 8 = .ok (.invokevirtual 284, 3) by decide +kernel) rfl, ?_⟩
  refine List.forall_mem_cons.mpr ⟨ok_aload_n C (show decode cX10_settles 11 = .ok (.aload_n 0, 1) by decide +kernel) rfl rfl, ?_⟩
  refine List.forall_mem_cons.mpr ⟨ok_getf C (wi_X10) rfl (by decide) kw_320 (show decode cX10_settles 12 = .ok (.getfield 44, 3) by decide +kernel) rfl, ?_⟩
  refine List.forall_mem_cons.mpr ⟨ok_aload_n C (show decode cX10_settles 15 = .ok (.aload_n 0, 1) by decide +kernel) rfl rfl, ?_⟩
  refine List.forall_mem_cons.mpr ⟨ok_getf C (wi_X10) rfl (by decide) kw_319 (show decode cX10_settles 16 = .ok (.getfield 40, 3) by decide +kernel) rfl, ?_⟩
  refine List.forall_mem_cons.mpr ⟨ok_callV C h_X6_copyFrom ⟨rfl, rfl⟩ rfl kw_724 kw_806 kw_722 kw_723 kw_6 rfl ds_X6_copyFrom ⟨by decide, by decide⟩ (show decode cX10_settles 19 = .ok (.invokevirtual 284, 3) by decide +kernel) rfl, ?_⟩
  refine List.forall_mem_cons.mpr ⟨ok_aload_n C (show decode cX10_settles 22 = .ok (.aload_n 0, 1) by decide +kernel) rfl rfl, ?_⟩
  refine List.forall_mem_cons.mpr ⟨ok_getf C (wi_X10) rfl (by decide) kw_317 (show decode cX10_settles 23 = .ok (.getfield 26, 3) by decide +kernel) rfl, ?_⟩
  refine List.forall_mem_cons.mpr ⟨ok_aload_n C (show decode cX10_settles 26 = .ok (.aload_n 0, 1) by decide +kernel) rfl rfl, ?_⟩
  refine List.forall_mem_cons.mpr ⟨ok_getf C (wi_X10) rfl (by decide) kw_328 (show decode cX10_settles 27 = .ok (.getfield 83, 3) by decide +kernel) rfl, ?_⟩
  refine List.forall_mem_cons.mpr ⟨ok_aload_n C (show decode cX10_settles 30 = .ok (.aload_n 0, 1) by decide +kernel) rfl rfl, ?_⟩
  refine List.forall_mem_cons.mpr ⟨ok_getf C (wi_X10) rfl (by decide) kw_320 (show decode cX10_settles 31 = .ok (.getfield 44, 3) by decide +kernel) rfl, ?_⟩
  refine List.forall_mem_cons.mpr ⟨ok_iconst C (show decode cX10_settles 34 = .ok (.iconst 2, 1) by decide +kernel) (by decide) rfl, ?_⟩
  refine List.forall_mem_cons.mpr ⟨ok_callV C h_X1_passDays ⟨rfl, rfl⟩ rfl kw_751 kw_748 kw_749 kw_750 kw_4 rfl ds_X1_passDays ⟨by decide, by decide⟩ (show decode cX10_settles 35 = .ok (.invokevirtual 266, 3) by decide +kernel) rfl, ?_⟩
  refine List.forall_mem_cons.mpr ⟨ok_iconst C (show decode cX10_settles 38 = .ok (.iconst 2, 1) by decide +kernel) (by decide) rfl, ?_⟩
  refine List.forall_mem_cons.mpr ⟨ok_icmpge C (show decode cX10_settles 39 = .ok (.if_icmp .ge 5, 3) by decide +kernel) (tg := 44) (by decide) rfl rfl, ?_⟩
  refine List.forall_mem_cons.mpr ⟨ok_iconst C (show decode cX10_settles 42 = .ok (.iconst (-1), 1) by decide +kernel) (by decide) rfl, ?_⟩
  refine List.forall_mem_cons.mpr ⟨ok_ret C rfl (show decode cX10_settles 43 = .ok (.ireturn, 1) by decide +kernel), ?_⟩
  refine List.forall_mem_cons.mpr ⟨ok_iconst C (show decode cX10_settles 44 = .ok (.iconst 0, 1) by decide +kernel) (by decide) rfl, ?_⟩
  refine List.forall_mem_cons.mpr ⟨ok_istore_n C (show decode cX10_settles 45 = .ok (.istore_n 1, 1) by decide +kernel) rfl (by decide) rfl, ?_⟩
  refine List.forall_mem_cons.mpr ⟨ok_iload_n C (show decode cX10_settles 46 = .ok (.iload_n 1, 1) by decide +kernel) rfl rfl, ?_⟩
  refine List.forall_mem_cons.mpr ⟨ok_sipush C (show decode cX10_settles 47 = .ok (.sipush 200, 3) by decide +kernel) (by decide) rfl, ?_⟩
  refine List.forall_mem_cons.mpr ⟨ok_icmpge C (show decode cX10_settles 50 = .ok (.if_icmp .ge 80, 3) by decide +kernel) (tg := 130) (by decide) rfl rfl, ?_⟩
  refine List.forall_mem_cons.mpr ⟨ok_aload_n C (show decode cX10_settles 53 = .ok (.aload_n 0, 1) by decide +kernel) rfl rfl, ?_⟩
  refine List.forall_mem_cons.mpr ⟨ok_getf C (wi_X10) rfl (by decide) kw_320 (show decode cX10_settles 54 = .ok (.getfield 44, 3) by decide +kernel) rfl, ?_⟩
  refine List.forall_mem_cons.mpr ⟨ok_aload_n C (show decode cX10_settles 57 = .ok (.aload_n 0, 1) by decide +kernel) rfl rfl, ?_⟩
  refine List.forall_mem_cons.mpr ⟨ok_getf C (wi_X10) rfl (by decide) kw_321 (show decode cX10_settles 58 = .ok (.getfield 47, 3) by decide +kernel) rfl, ?_⟩
  refine List.forall_mem_cons.mpr ⟨ok_callV C h_X6_looksLike ⟨rfl, rfl⟩ rfl kw_849 kw_846 kw_847 kw_848 kw_6 rfl ds_X6_looksLike ⟨by decide, by decide⟩ (show decode cX10_settles 61 = .ok (.invokevirtual 305, 3) by decide +kernel) rfl, ?_⟩
  refine List.forall_mem_cons.mpr ⟨ok_ifeq C (show decode cX10_settles 64 = .ok (.ifCond .eq 11, 3) by decide +kernel) (tg := 75) (by decide) rfl rfl, ?_⟩
  refine List.forall_mem_cons.mpr ⟨ok_aload_n C (show decode cX10_settles 67 = .ok (.aload_n 0, 1) by decide +kernel) rfl rfl, ?_⟩
  refine List.forall_mem_cons.mpr ⟨ok_getf C (wi_X10) rfl (by decide) kw_321 (show decode cX10_settles 68 = .ok (.getfield 47, 3) by decide +kernel) rfl, ?_⟩
  refine List.forall_mem_cons.mpr ⟨ok_getf C (wi_X6) rfl (by decide) kw_164 (show decode cX10_settles 71 = .ok (.getfield 213, 3) by decide +kernel) rfl, ?_⟩
  refine List.forall_mem_cons.mpr ⟨ok_ret C rfl (show decode cX10_settles 74 = .ok (.ireturn, 1) by decide +kernel), ?_⟩
  refine List.forall_mem_cons.mpr ⟨ok_aload_n C (show decode cX10_settles 75 = .ok (.aload_n 0, 1) by decide +kernel) rfl rfl, ?_⟩
  refine List.forall_mem_cons.mpr ⟨ok_getf C (wi_X10) rfl (by decide) kw_320 (show decode cX10_settles 76 = .ok (.getfield 44, 3) by decide +kernel) rfl, ?_⟩
  refine List.forall_mem_cons.mpr ⟨ok_getf C (wi_X6) rfl (by decide) kw_164 (show decode cX10_settles 79 = .ok (.getfield 213, 3) by decide +kernel) rfl, ?_⟩
  refine List.forall_mem_cons.mpr ⟨ok_sipush C (show decode cX10_settles 82 = .ok (.sipush 400, 3) by decide +kernel) (by decide) rfl, ?_⟩
  refine List.forall_mem_cons.mpr ⟨ok_icmplt C (show decode cX10_settles 85 = .ok (.if_icmp .lt 5, 3) by decide +kernel) (tg := 90) (by decide) rfl rfl, ?_⟩
  refine List.forall_mem_cons.mpr ⟨ok_iconst C (show decode cX10_settles 88 = .ok (.iconst (-1), 1) by decide +kernel) (by decide) rfl, ?_⟩
  refine List.forall_mem_cons.mpr ⟨ok_ret C rfl (show decode cX10_settles 89 = .ok (.ireturn, 1) by decide +kernel), ?_⟩
  refine List.forall_mem_cons.mpr ⟨ok_aload_n C (show decode cX10_settles 90 = .ok (.aload_n 0, 1) by decide +kernel) rfl rfl, ?_⟩
  refine List.forall_mem_cons.mpr ⟨ok_getf C (wi_X10) rfl (by decide) kw_317 (show decode cX10_settles 91 = .ok (.getfield 26, 3) by decide +kernel) rfl, ?_⟩
  refine List.forall_mem_cons.mpr ⟨ok_aload_n C (show decode cX10_settles 94 = .ok (.aload_n 0, 1) by decide +kernel) rfl rfl, ?_⟩
  refine List.forall_mem_cons.mpr ⟨ok_getf C (wi_X10) rfl (by decide) kw_328 (show decode cX10_settles 95 = .ok (.getfield 83, 3) by decide +kernel) rfl, ?_⟩
  refine List.forall_mem_cons.mpr ⟨ok_aload_n C (show decode cX10_settles 98 = .ok (.aload_n 0, 1) by decide +kernel) rfl rfl, ?_⟩
  refine List.forall_mem_cons.mpr ⟨ok_getf C (wi_X10) rfl (by decide) kw_320 (show decode cX10_settles 99 = .ok (.getfield 44, 3) by decide +kernel) rfl, ?_⟩
  refine List.forall_mem_cons.mpr ⟨ok_iconst C (show decode cX10_settles 102 = .ok (.iconst 1, 1) by decide +kernel) (by decide) rfl, ?_⟩
  refine List.forall_mem_cons.mpr ⟨ok_callV C h_X1_passDays ⟨rfl, rfl⟩ rfl kw_751 kw_748 kw_749 kw_750 kw_4 rfl ds_X1_passDays ⟨by decide, by decide⟩ (show decode cX10_settles 103 = .ok (.invokevirtual 266, 3) by decide +kernel) rfl, ?_⟩
  refine List.forall_mem_cons.mpr ⟨ok_pop C (show decode cX10_settles 106 = .ok (.pop, 1) by decide +kernel) rfl, ?_⟩
  refine List.forall_mem_cons.mpr ⟨ok_aload_n C (show decode cX10_settles 107 = .ok (.aload_n 0, 1) by decide +kernel) rfl rfl, ?_⟩
  refine List.forall_mem_cons.mpr ⟨ok_getf C (wi_X10) rfl (by decide) kw_317 (show decode cX10_settles 108 = .ok (.getfield 26, 3) by decide +kernel) rfl, ?_⟩
  refine List.forall_mem_cons.mpr ⟨ok_aload_n C (show decode cX10_settles 111 = .ok (.aload_n 0, 1) by decide +kernel) rfl rfl, ?_⟩
  refine List.forall_mem_cons.mpr ⟨ok_getf C (wi_X10) rfl (by decide) kw_328 (show decode cX10_settles 112 = .ok (.getfield 83, 3) by decide +kernel) rfl, ?_⟩
  refine List.forall_mem_cons.mpr ⟨ok_aload_n C (show decode cX10_settles 115 = .ok (.aload_n 0, 1) by decide +kernel) rfl rfl, ?_⟩
  refine List.forall_mem_cons.mpr ⟨ok_getf C (wi_X10) rfl (by decide) kw_321 (show decode cX10_settles 116 = .ok (.getfield 47, 3) by decide +kernel) rfl, ?_⟩
  refine List.forall_mem_cons.mpr ⟨ok_iconst C (show decode cX10_settles 119 = .ok (.iconst 1, 1) by decide +kernel) (by decide) rfl, ?_⟩
  refine List.forall_mem_cons.mpr ⟨ok_callV C h_X1_passDays ⟨rfl, rfl⟩ rfl kw_751 kw_748 kw_749 kw_750 kw_4 rfl ds_X1_passDays ⟨by decide, by decide⟩ (show decode cX10_settles 120 = .ok (.invokevirtual 266, 3) by decide +kernel) rfl, ?_⟩
  refine List.forall_mem_cons.mpr ⟨ok_pop C (show decode cX10_settles 123 = .ok (.pop, 1) by decide +kernel) rfl, ?_⟩
  refine List.forall_mem_cons.mpr ⟨ok_iinc C (show decode cX10_settles 124 = .ok (.iinc 1 1, 3) by decide +kernel) (by decide) (by decide) rfl, ?_⟩
  refine List.forall_mem_cons.mpr ⟨ok_goto C (show decode cX10_settles 127 = .ok (.goto (-81), 3) by decide +kernel) (tg := 46) (by decide) rfl, ?_⟩
  refine List.forall_mem_cons.mpr ⟨ok_iconst C (show decode cX10_settles 130 = .ok (.iconst (-1), 1) by decide +kernel) (by decide) rfl, ?_⟩
  refine List.forall_mem_cons.mpr ⟨ok_ret C rfl (show decode cX10_settles 131 = .ok (.ireturn, 1) by decide +kernel), ?_⟩
  exact fun _ h => absurd h List.not_mem_nil
def L_X10_hunger (f_X10_isSlot : List Value → ab_H → Option ab_O) (f_X10_isWithin : List Value → ab_H → Option ab_O) (f_X10_slotOf : List Value → ab_H → Option ab_O) (f_X6_copyFrom : List Value → ab_H → Option ab_O) (f_X1_passDays : List Value → ab_H → Option ab_O) : List (Nat × ab_A) := [
  (0, ab_nx 1 (ab_aload 0)),
  (1, ab_nx 2 (ab_iload 1)),
  (2, ab_nx 3 (ab_iload 2)),
  (3, ab_nx 6 (ab_callV 3 10 f_X10_isSlot 0 0 0 0)),
  (6, ab_if 9 18 (fun x => decide (x = 0))),
  (9, ab_nx 10 (ab_iload 3)),
  (10, ab_nx 12 (ab_lit (.int 60))),
  (12, ab_nx 15 (ab_call 2 f_X10_isWithin 0 0 0 0)),
  (15, ab_if 18 20 (fun x => !decide (x = 0))),
  (18, ab_nx 19 (ab_lit (.int (-1)))),
  (19, ab_ret 0 0),
  (20, ab_nx 21 (ab_iload 1)),
  (21, ab_nx 22 (ab_iload 2)),
  (22, ab_nx 25 (ab_call 2 f_X10_slotOf 0 0 0 0)),
  (25, ab_nx 27 (ab_istore 4)),
  (27, ab_nx 28 (ab_aload 0)),
  (28, ab_nx 31 (ab_getf 10 5)),
  (31, ab_nx 32 (ab_aload 0)),
  (32, ab_nx 35 (ab_getf 10 4)),
  (35, ab_nx 38 (ab_callV 2 6 f_X6_copyFrom 0 0 0 0)),
  (38, ab_nx 39 (ab_aload 0)),
  (39, ab_nx 42 (ab_getf 10 2)),
  (42, ab_nx 43 (ab_aload 0)),
  (43, ab_nx 46 (ab_getf 10 13)),
  (46, ab_nx 47 (ab_aload 0)),
  (47, ab_nx 50 (ab_getf 10 5)),
  (50, ab_nx 51 (ab_iload 3)),
  (51, ab_nx 54 (ab_callV 4 1 f_X1_passDays 0 0 0 0)),
  (54, ab_nx 55 ab_pop),
  (55, ab_nx 56 (ab_aload 0)),
  (56, ab_nx 59 (ab_getf 10 5)),
  (59, ab_nx 62 (ab_getf 6 2)),
  (62, ab_nx 64 (ab_iload 4)),
  (64, ab_nx 65 (ab_ald 1)),
  (65, ab_nx 66 (ab_aload 0)),
  (66, ab_nx 69 (ab_getf 10 4)),
  (69, ab_nx 72 (ab_getf 6 2)),
  (72, ab_nx 74 (ab_iload 4)),
  (74, ab_nx 75 (ab_ald 1)),
  (75, ab_nx 76 (ab_bin (fun x y => x - y))),
  (76, ab_ret 0 0)]
set_option maxRecDepth 100000 in
set_option maxHeartbeats 4000000 in
theorem M_X10_hunger {l : Launch} {b : ab_B} {D : va_G} {cA : Nat → ClassId} {f_X10_isSlot : List Value → ab_H → Option ab_O} (h_X10_isSlot : ab_M l b D ab_cl cA (ab_E0 b) yX10_isSlot (Cond.code yX10_isSlot cX10_isSlot 3 (some .boolean) :: ab_G) ({ frames := 2, cells := 0, slots := 0, locals := 200 } : Room) f_X10_isSlot) {f_X10_isWithin : List Value → ab_H → Option ab_O} (h_X10_isWithin : ab_M l b D ab_cl cA (ab_E0 b) yX10_isWithin (Cond.code yX10_isWithin cX10_isWithin 2 (some .boolean) :: ab_G) ({ frames := 1, cells := 0, slots := 0, locals := 100 } : Room) f_X10_isWithin) {f_X10_slotOf : List Value → ab_H → Option ab_O} (h_X10_slotOf : ab_M l b D ab_cl cA (ab_E0 b) yX10_slotOf (Cond.code yX10_slotOf cX10_slotOf 2 (some .int) :: ab_G) ({ frames := 1, cells := 0, slots := 0, locals := 100 } : Room) f_X10_slotOf) {f_X6_copyFrom : List Value → ab_H → Option ab_O} (h_X6_copyFrom : ab_M l b D ab_cl cA (ab_E0 b) yX6_copyFrom (Cond.code yX6_copyFrom cX6_copyFrom 2 none :: ab_G) ({ frames := 2, cells := 0, slots := 0, locals := 200 } : Room) f_X6_copyFrom) {f_X1_passDays : List Value → ab_H → Option ab_O} (h_X1_passDays : ab_M l b D ab_cl cA (ab_E0 b) yX1_passDays (Cond.code yX1_passDays cX1_passDays 6 (some .int) :: ab_G) ({ frames := 5, cells := 0, slots := 0, locals := 500 } : Room) f_X1_passDays) : ab_M l b D ab_cl cA (ab_E0 b) yX10_hunger (Cond.code yX10_hunger cX10_hunger 5 (some .int) :: ab_G) ({ frames := 6, cells := 0, slots := 0, locals := 600 } : Room) (ab_X (ab_T (L_X10_hunger f_X10_isSlot f_X10_isWithin f_X10_slotOf f_X6_copyFrom f_X1_passDays)) 5) := by
  refine ab_meth (ret := (some .int)) (L_X10_hunger f_X10_isSlot f_X10_isWithin f_X10_slotOf f_X6_copyFrom f_X1_passDays) (by decide) rfl fun p e R s m args below meth c o C => ?_
  unfold L_X10_hunger
  refine List.forall_mem_cons.mpr ⟨ok_aload_n C (show decode cX10_hunger 0 = .ok (.aload_n 0, 1) by decide +kernel) rfl rfl, ?_⟩
  refine List.forall_mem_cons.mpr ⟨ok_iload_n C (show decode cX10_hunger 1 = .ok (.iload_n 1, 1) by decide +kernel) rfl rfl, ?_⟩
  refine List.forall_mem_cons.mpr ⟨ok_iload_n C (show decode cX10_hunger 2 = .ok (.iload_n 2, 1) by decide +kernel) rfl rfl, ?_⟩
  refine List.forall_mem_cons.mpr ⟨ok_callV C h_X10_isSlot ⟨rfl, rfl⟩ rfl kw_592 kw_589 kw_591 kp_15 kw_1 rfl ds_X10_isSlot ⟨by decide, by decide⟩ (show decode cX10_hunger 3 = .ok (.invokevirtual 155, 3) by decide +kernel) rfl, ?_⟩
  refine List.forall_mem_cons.mpr ⟨ok_ifeq C (show decode cX10_hunger 6 = .ok (.ifCond .eq 12, 3) by decide +kernel) (tg := 18) (by decide) rfl rfl, ?_⟩
  refine List.forall_mem_cons.mpr ⟨ok_iload_n C (show decode cX10_hunger 9 = .ok (.iload_n 3, 1) by decide +kernel) rfl rfl, ?_⟩
  refine List.forall_mem_cons.mpr ⟨ok_bipush C (show decode cX10_hunger 10 = .ok (.bipush 60, 2) by decide +kernel) (by decide) rfl, ?_⟩
  refine List.forall_mem_cons.mpr ⟨ok_callS C h_X10_isWithin ⟨rfl, rfl⟩ kw_707 kw_705 kw_706 kw_1 ds_X10_isWithin ⟨by decide, by decide⟩ (show decode cX10_hunger 12 = .ok (.invokestatic 251, 3) by decide +kernel) rfl, ?_⟩
  refine List.forall_mem_cons.mpr ⟨ok_ifne C (show decode cX10_hunger 15 = .ok (.ifCond .ne 5, 3) by decide +kernel) (tg := 20) (by decide) rfl rfl, ?_⟩
  refine List.forall_mem_cons.mpr ⟨ok_iconst C (show decode cX10_hunger 18 = .ok (.iconst (-1), 1) by decide +kernel) (by decide) rfl, ?_⟩
  refine List.forall_mem_cons.mpr ⟨ok_ret C rfl (show decode cX10_hunger 19 = .ok (.ireturn, 1) by decide +kernel), ?_⟩
  refine List.forall_mem_cons.mpr ⟨ok_iload_n C (show decode cX10_hunger 20 = .ok (.iload_n 1, 1) by decide +kernel) rfl rfl, ?_⟩
  refine List.forall_mem_cons.mpr ⟨ok_iload_n C (show decode cX10_hunger 21 = .ok (.iload_n 2, 1) by decide +kernel) rfl rfl, ?_⟩
  refine List.forall_mem_cons.mpr ⟨ok_callS C h_X10_slotOf ⟨rfl, rfl⟩ kw_532 kw_600 kw_531 kw_1 ds_X10_slotOf ⟨by decide, by decide⟩ (show decode cX10_hunger 22 = .ok (.invokestatic 159, 3) by decide +kernel) rfl, ?_⟩
  refine List.forall_mem_cons.mpr ⟨ok_istore C (show decode cX10_hunger 25 = .ok (.istore 4, 2) by decide +kernel) (by decide) rfl, ?_⟩
  refine List.forall_mem_cons.mpr ⟨ok_aload_n C (show decode cX10_hunger 27 = .ok (.aload_n 0, 1) by decide +kernel) rfl rfl, ?_⟩
  refine List.forall_mem_cons.mpr ⟨ok_getf C (wi_X10) rfl (by decide) kw_320 (show decode cX10_hunger 28 = .ok (.getfield 44, 3) by decide +kernel) rfl, ?_⟩
  refine List.forall_mem_cons.mpr ⟨ok_aload_n C (show decode cX10_hunger 31 = .ok (.aload_n 0, 1) by decide +kernel) rfl rfl, ?_⟩
  refine List.forall_mem_cons.mpr ⟨ok_getf C (wi_X10) rfl (by decide) kw_319 (show decode cX10_hunger 32 = .ok (.getfield 40, 3) by decide +kernel) rfl, ?_⟩
  refine List.forall_mem_cons.mpr ⟨ok_callV C h_X6_copyFrom ⟨rfl, rfl⟩ rfl kw_724 kw_806 kw_722 kw_723 kw_6 rfl ds_X6_copyFrom ⟨by decide, by decide⟩ (show decode cX10_hunger 35 = .ok (.invokevirtual 284, 3) by decide +kernel) rfl, ?_⟩
  refine List.forall_mem_cons.mpr ⟨ok_aload_n C (show decode cX10_hunger 38 = .ok (.aload_n 0, 1) by decide +kernel) rfl rfl, ?_⟩
  refine List.forall_mem_cons.mpr ⟨ok_getf C (wi_X10) rfl (by decide) kw_317 (show decode cX10_hunger 39 = .ok (.getfield 26, 3) by decide +kernel) rfl, ?_⟩
  refine List.forall_mem_cons.mpr ⟨ok_aload_n C (show decode cX10_hunger 42 = .ok (.aload_n 0, 1) by decide +kernel) rfl rfl, ?_⟩
  refine List.forall_mem_cons.mpr ⟨ok_getf C (wi_X10) rfl (by decide) kw_328 (show decode cX10_hunger 43 = .ok (.getfield 83, 3) by decide +kernel) rfl, ?_⟩
  refine List.forall_mem_cons.mpr ⟨ok_aload_n C (show decode cX10_hunger 46 = .ok (.aload_n 0, 1) by decide +kernel) rfl rfl, ?_⟩
  refine List.forall_mem_cons.mpr ⟨ok_getf C (wi_X10) rfl (by decide) kw_320 (show decode cX10_hunger 47 = .ok (.getfield 44, 3) by decide +kernel) rfl, ?_⟩
  refine List.forall_mem_cons.mpr ⟨ok_iload_n C (show decode cX10_hunger 50 = .ok (.iload_n 3, 1) by decide +kernel) rfl rfl, ?_⟩
  refine List.forall_mem_cons.mpr ⟨ok_callV C h_X1_passDays ⟨rfl, rfl⟩ rfl kw_751 kw_748 kw_749 kw_750 kw_4 rfl ds_X1_passDays ⟨by decide, by decide⟩ (show decode cX10_hunger 51 = .ok (.invokevirtual 266, 3) by decide +kernel) rfl, ?_⟩
  refine List.forall_mem_cons.mpr ⟨ok_pop C (show decode cX10_hunger 54 = .ok (.pop, 1) by decide +kernel) rfl, ?_⟩
  refine List.forall_mem_cons.mpr ⟨ok_aload_n C (show decode cX10_hunger 55 = .ok (.aload_n 0, 1) by decide +kernel) rfl rfl, ?_⟩
  refine List.forall_mem_cons.mpr ⟨ok_getf C (wi_X10) rfl (by decide) kw_320 (show decode cX10_hunger 56 = .ok (.getfield 44, 3) by decide +kernel) rfl, ?_⟩
  refine List.forall_mem_cons.mpr ⟨ok_getf C (wi_X6) rfl (by decide) kw_150 (show decode cX10_hunger 59 = .ok (.getfield 180, 3) by decide +kernel) rfl, ?_⟩
  refine List.forall_mem_cons.mpr ⟨ok_iload C (show decode cX10_hunger 62 = .ok (.iload 4, 2) by decide +kernel) rfl, ?_⟩
  refine List.forall_mem_cons.mpr ⟨ok_iaload C (show decode cX10_hunger 64 = .ok (.iaload, 1) by decide +kernel) rfl, ?_⟩
  refine List.forall_mem_cons.mpr ⟨ok_aload_n C (show decode cX10_hunger 65 = .ok (.aload_n 0, 1) by decide +kernel) rfl rfl, ?_⟩
  refine List.forall_mem_cons.mpr ⟨ok_getf C (wi_X10) rfl (by decide) kw_319 (show decode cX10_hunger 66 = .ok (.getfield 40, 3) by decide +kernel) rfl, ?_⟩
  refine List.forall_mem_cons.mpr ⟨ok_getf C (wi_X6) rfl (by decide) kw_150 (show decode cX10_hunger 69 = .ok (.getfield 180, 3) by decide +kernel) rfl, ?_⟩
  refine List.forall_mem_cons.mpr ⟨ok_iload C (show decode cX10_hunger 72 = .ok (.iload 4, 2) by decide +kernel) rfl, ?_⟩
  refine List.forall_mem_cons.mpr ⟨ok_iaload C (show decode cX10_hunger 74 = .ok (.iaload, 1) by decide +kernel) rfl, ?_⟩
  refine List.forall_mem_cons.mpr ⟨ok_isub C (show decode cX10_hunger 75 = .ok (.isub, 1) by decide +kernel) rfl, ?_⟩
  refine List.forall_mem_cons.mpr ⟨ok_ret C rfl (show decode cX10_hunger 76 = .ok (.ireturn, 1) by decide +kernel), ?_⟩
  exact fun _ h => absurd h List.not_mem_nil
def L_X10_couldGoSo (f_X8_valueAt : List Value → ab_H → Option ab_O) (f_X7_stockAfter : List Value → ab_H → Option ab_O) : List (Nat × ab_A) := [
  (0, ab_nx 1 (ab_lit (.int 1))),
  (1, ab_nx 2 (ab_istore 3)),
  (2, ab_nx 3 (ab_iload 3)),
  (3, ab_nx 4 (ab_iload 2)),
  (4, ab_icmp 7 44 (fun x y => decide (y ≤ x))),
  (7, ab_nx 8 (ab_aload 0)),
  (8, ab_nx 11 (ab_getf 10 13)),
  (11, ab_nx 12 (ab_iload 1)),
  (12, ab_nx 13 (ab_aload 0)),
  (13, ab_nx 16 (ab_getf 10 0)),
  (16, ab_nx 17 (ab_iload 3)),
  (17, ab_nx 20 (ab_callV 2 8 f_X8_valueAt 0 0 0 0)),
  (20, ab_nx 23 (ab_callV 3 7 f_X7_stockAfter 0 0 0 0)),
  (23, ab_nx 24 (ab_aload 0)),
  (24, ab_nx 27 (ab_getf 10 0)),
  (27, ab_nx 28 (ab_iload 3)),
  (28, ab_nx 29 (ab_lit (.int 1))),
  (29, ab_nx 30 (ab_bin (fun x y => x + y))),
  (30, ab_nx 33 (ab_callV 2 8 f_X8_valueAt 0 0 0 0)),
  (33, ab_icmp 36 38 (fun x y => decide (x = y))),
  (36, ab_nx 37 (ab_lit (.int 0))),
  (37, ab_zret 0 0),
  (38, ab_nx 41 (ab_iinc 3 1)),
  (41, ab_goto 2),
  (44, ab_nx 45 (ab_lit (.int 1))),
  (45, ab_zret 0 0)]
set_option maxRecDepth 100000 in
set_option maxHeartbeats 4000000 in
theorem M_X10_couldGoSo {l : Launch} {b : ab_B} {D : va_G} {cA : Nat → ClassId} {f_X8_valueAt : List Value → ab_H → Option ab_O} (h_X8_valueAt : ab_M l b D ab_cl cA (ab_E0 b) yX8_valueAt (Cond.code yX8_valueAt cX8_valueAt 2 (some .int) :: ab_G) ({ frames := 1, cells := 0, slots := 0, locals := 100 } : Room) f_X8_valueAt) {f_X7_stockAfter : List Value → ab_H → Option ab_O} (h_X7_stockAfter : ab_M l b D ab_cl cA (ab_E0 b) yX7_stockAfter (Cond.code yX7_stockAfter cX7_stockAfter 3 (some .int) :: ab_G) ({ frames := 3, cells := 0, slots := 0, locals := 300 } : Room) f_X7_stockAfter) : ab_M l b D ab_cl cA (ab_E0 b) yX10_couldGoSo (Cond.code yX10_couldGoSo cX10_couldGoSo 4 (some .boolean) :: ab_G) ({ frames := 4, cells := 0, slots := 0, locals := 400 } : Room) (ab_X (ab_T (L_X10_couldGoSo f_X8_valueAt f_X7_stockAfter)) 4) := by
  refine ab_meth (ret := (some .boolean)) (L_X10_couldGoSo f_X8_valueAt f_X7_stockAfter) (by decide) rfl fun p e R s m args below meth c o C => ?_
  unfold L_X10_couldGoSo
  refine List.forall_mem_cons.mpr ⟨ok_iconst C (show decode cX10_couldGoSo 0 = .ok (.iconst 1, 1) by decide +kernel) (by decide) rfl, ?_⟩
  refine List.forall_mem_cons.mpr ⟨ok_istore_n C (show decode cX10_couldGoSo 1 = .ok (.istore_n 3, 1) by decide +kernel) rfl (by decide) rfl, ?_⟩
  refine List.forall_mem_cons.mpr ⟨ok_iload_n C (show decode cX10_couldGoSo 2 = .ok (.iload_n 3, 1) by decide +kernel) rfl rfl, ?_⟩
  refine List.forall_mem_cons.mpr ⟨ok_iload_n C (show decode cX10_couldGoSo 3 = .ok (.iload_n 2, 1) by decide +kernel) rfl rfl, ?_⟩
  refine List.forall_mem_cons.mpr ⟨ok_icmpge C (show decode cX10_couldGoSo 4 = .ok (.if_icmp .ge 40, 3) by decide +kernel) (tg := 44) (by decide) rfl rfl, ?_⟩
  refine List.forall_mem_cons.mpr ⟨ok_aload_n C (show decode cX10_couldGoSo 7 = .ok (.aload_n 0, 1) by decide +kernel) rfl rfl, ?_⟩
  refine List.forall_mem_cons.mpr ⟨ok_getf C (wi_X10) rfl (by decide) kw_328 (show decode cX10_couldGoSo 8 = .ok (.getfield 83, 3) by decide +kernel) rfl, ?_⟩
  refine List.forall_mem_cons.mpr ⟨ok_iload_n C (show decode cX10_couldGoSo 11 = .ok (.iload_n 1, 1) by decide +kernel) rfl rfl, ?_⟩
  refine List.forall_mem_cons.mpr ⟨ok_aload_n C (show decode cX10_couldGoSo 12 = .ok (.aload_n 0, 1) by decide +kernel) rfl rfl, ?_⟩
  refine List.forall_mem_cons.mpr ⟨ok_getf C (wi_X10) rfl (by decide) kw_315 (show decode cX10_couldGoSo 13 = .ok (.getfield 12, 3) by decide +kernel) rfl, ?_⟩
  refine List.forall_mem_cons.mpr ⟨ok_iload_n C (show decode cX10_couldGoSo 16 = .ok (.iload_n 3, 1) by decide +kernel) rfl rfl, ?_⟩
  refine List.forall_mem_cons.mpr ⟨ok_callV C h_X8_valueAt ⟨rfl, rfl⟩ rfl kw_404 kw_858 kw_402 kw_403 kw_2 rfl ds_X8_valueAt ⟨by decide, by decide⟩ (show decode cX10_couldGoSo 17 = .ok (.invokevirtual 309, 3) by decide +kernel) rfl, ?_⟩
  refine List.forall_mem_cons.mpr ⟨ok_callV C h_X7_stockAfter ⟨rfl, rfl⟩ rfl kw_831 kw_828 kw_829 kw_830 kw_9 rfl ds_X7_stockAfter ⟨by decide, by decide⟩ (show decode cX10_couldGoSo 20 = .ok (.invokevirtual 302, 3) by decide +kernel) rfl, ?_⟩
  refine List.forall_mem_cons.mpr ⟨ok_aload_n C (show decode cX10_couldGoSo 23 = .ok (.aload_n 0, 1) by decide +kernel) rfl rfl, ?_⟩
  refine List.forall_mem_cons.mpr ⟨ok_getf C (wi_X10) rfl (by decide) kw_315 (show decode cX10_couldGoSo 24 = .ok (.getfield 12, 3) by decide +kernel) rfl, ?_⟩
  refine List.forall_mem_cons.mpr ⟨ok_iload_n C (show decode cX10_couldGoSo 27 = .ok (.iload_n 3, 1) by decide +kernel) rfl rfl, ?_⟩
  refine List.forall_mem_cons.mpr ⟨ok_iconst C (show decode cX10_couldGoSo 28 = .ok (.iconst 1, 1) by decide +kernel) (by decide) rfl, ?_⟩
  refine List.forall_mem_cons.mpr ⟨ok_iadd C (show decode cX10_couldGoSo 29 = .ok (.iadd, 1) by decide +kernel) rfl, ?_⟩
  refine List.forall_mem_cons.mpr ⟨ok_callV C h_X8_valueAt ⟨rfl, rfl⟩ rfl kw_404 kw_858 kw_402 kw_403 kw_2 rfl ds_X8_valueAt ⟨by decide, by decide⟩ (show decode cX10_couldGoSo 30 = .ok (.invokevirtual 309, 3) by decide +kernel) rfl, ?_⟩
  refine List.forall_mem_cons.mpr ⟨ok_icmpeq C (show decode cX10_couldGoSo 33 = .ok (.if_icmp .eq 5, 3) by decide +kernel) (tg := 38) (by decide) rfl rfl, ?_⟩
  refine List.forall_mem_cons.mpr ⟨ok_iconst C (show decode cX10_couldGoSo 36 = .ok (.iconst 0, 1) by decide +kernel) (by decide) rfl, ?_⟩
  refine List.forall_mem_cons.mpr ⟨ok_zret C rfl (show decode cX10_couldGoSo 37 = .ok (.ireturn, 1) by decide +kernel), ?_⟩
  refine List.forall_mem_cons.mpr ⟨ok_iinc C (show decode cX10_couldGoSo 38 = .ok (.iinc 3 1, 3) by decide +kernel) (by decide) (by decide) rfl, ?_⟩
  refine List.forall_mem_cons.mpr ⟨ok_goto C (show decode cX10_couldGoSo 41 = .ok (.goto (-39), 3) by decide +kernel) (tg := 2) (by decide) rfl, ?_⟩
  refine List.forall_mem_cons.mpr ⟨ok_iconst C (show decode cX10_couldGoSo 44 = .ok (.iconst 1, 1) by decide +kernel) (by decide) rfl, ?_⟩
  refine List.forall_mem_cons.mpr ⟨ok_zret C rfl (show decode cX10_couldGoSo 45 = .ok (.ireturn, 1) by decide +kernel), ?_⟩
  exact fun _ h => absurd h List.not_mem_nil
def L_X10_which (f_X8_valueAt : List Value → ab_H → Option ab_O) (f_X10_isShore : List Value → ab_H → Option ab_O) (f_X10_slotOf : List Value → ab_H → Option ab_O) (f_X10_couldGoSo : List Value → ab_H → Option ab_O) : List (Nat × ab_A) := [
  (0, ab_nx 1 (ab_aload 0)),
  (1, ab_nx 4 (ab_getf 10 0)),
  (4, ab_nx 7 (ab_getf 8 1)),
  (7, ab_nx 8 (ab_istore 1)),
  (8, ab_nx 9 (ab_aload 0)),
  (9, ab_nx 12 (ab_getf 10 0)),
  (12, ab_nx 13 (ab_lit (.int 0))),
  (13, ab_nx 16 (ab_putf 8 1 0)),
  (16, ab_nx 17 (ab_iload 1)),
  (17, ab_nx 18 (ab_lit (.int 1))),
  (18, ab_nx 19 (ab_bin (fun x y => x - y))),
  (19, ab_nx 20 (ab_istore 2)),
  (20, ab_nx 21 (ab_iload 2)),
  (21, ab_nx 22 (ab_lit (.int 2))),
  (22, ab_icmp 25 45 (fun x y => decide (x < y))),
  (25, ab_nx 26 (ab_iload 2)),
  (26, ab_nx 28 (ab_lit (.int 30))),
  (28, ab_icmp 31 45 (fun x y => decide (y < x))),
  (31, ab_nx 32 (ab_aload 0)),
  (32, ab_nx 35 (ab_getf 10 0)),
  (35, ab_nx 36 (ab_lit (.int 0))),
  (36, ab_nx 39 (ab_callV 2 8 f_X8_valueAt 0 0 0 0)),
  (39, ab_nx 42 (ab_call 1 f_X10_isShore 0 0 0 0)),
  (42, ab_if 45 47 (fun x => !decide (x = 0))),
  (45, ab_nx 46 (ab_lit (.int (-1)))),
  (46, ab_ret 0 0),
  (47, ab_nx 48 (ab_aload 0)),
  (48, ab_nx 51 (ab_getf 10 0)),
  (51, ab_nx 52 (ab_lit (.int 0))),
  (52, ab_nx 55 (ab_callV 2 8 f_X8_valueAt 0 0 0 0)),
  (55, ab_nx 56 (ab_istore 3)),
  (56, ab_nx 57 (ab_lit (.int 0))),
  (57, ab_nx 59 (ab_istore 4)),
  (59, ab_nx 60 (ab_lit (.int 0))),
  (60, ab_nx 62 (ab_istore 5)),
  (62, ab_nx 64 (ab_iload 5)),
  (64, ab_nx 65 (ab_aload 0)),
  (65, ab_nx 68 (ab_getf 10 13)),
  (68, ab_nx 71 (ab_getf 7 8)),
  (71, ab_icmp 74 103 (fun x y => decide (y ≤ x))),
  (74, ab_nx 75 (ab_aload 0)),
  (75, ab_nx 77 (ab_iload 5)),
  (77, ab_nx 78 (ab_iload 3)),
  (78, ab_nx 81 (ab_call 2 f_X10_slotOf 0 0 0 0)),
  (81, ab_nx 82 (ab_iload 2)),
  (82, ab_nx 85 (ab_callV 3 10 f_X10_couldGoSo 0 0 0 0)),
  (85, ab_if 88 97 (fun x => decide (x = 0))),
  (88, ab_nx 90 (ab_iload 4)),
  (90, ab_nx 91 (ab_lit (.int 1))),
  (91, ab_nx 93 (ab_iload 5)),
  (93, ab_nx 94 (ab_bin (fun x y => x <<< (y &&& 31)))),
  (94, ab_nx 95 (ab_bin (fun x y => x ||| y))),
  (95, ab_nx 97 (ab_istore 4)),
  (97, ab_nx 100 (ab_iinc 5 1)),
  (100, ab_goto 62),
  (103, ab_nx 105 (ab_iload 4)),
  (105, ab_ret 0 0)]
set_option maxRecDepth 100000 in
set_option maxHeartbeats 4000000 in
theorem M_X10_which {l : Launch} {b : ab_B} {D : va_G} {cA : Nat → ClassId} {f_X8_valueAt : List Value → ab_H → Option ab_O} (h_X8_valueAt : ab_M l b D ab_cl cA (ab_E0 b) yX8_valueAt (Cond.code yX8_valueAt cX8_valueAt 2 (some .int) :: ab_G) ({ frames := 1, cells := 0, slots := 0, locals := 100 } : Room) f_X8_valueAt) {f_X10_isShore : List Value → ab_H → Option ab_O} (h_X10_isShore : ab_M l b D ab_cl cA (ab_E0 b) yX10_isShore (Cond.code yX10_isShore cX10_isShore 1 (some .boolean) :: ab_G) ({ frames := 1, cells := 0, slots := 0, locals := 100 } : Room) f_X10_isShore) {f_X10_slotOf : List Value → ab_H → Option ab_O} (h_X10_slotOf : ab_M l b D ab_cl cA (ab_E0 b) yX10_slotOf (Cond.code yX10_slotOf cX10_slotOf 2 (some .int) :: ab_G) ({ frames := 1, cells := 0, slots := 0, locals := 100 } : Room) f_X10_slotOf) {f_X10_couldGoSo : List Value → ab_H → Option ab_O} (h_X10_couldGoSo : ab_M l b D ab_cl cA (ab_E0 b) yX10_couldGoSo (Cond.code yX10_couldGoSo cX10_couldGoSo 4 (some .boolean) :: ab_G) ({ frames := 4, cells := 0, slots := 0, locals := 400 } : Room) f_X10_couldGoSo) : ab_M l b D ab_cl cA (ab_E0 b) yX10_which (Cond.code yX10_which cX10_which 6 (some .int) :: ab_G) ({ frames := 5, cells := 0, slots := 0, locals := 500 } : Room) (ab_X (ab_T (L_X10_which f_X8_valueAt f_X10_isShore f_X10_slotOf f_X10_couldGoSo)) 6) := by
  refine ab_meth (ret := (some .int)) (L_X10_which f_X8_valueAt f_X10_isShore f_X10_slotOf f_X10_couldGoSo) (by decide) rfl fun p e R s m args below meth c o C => ?_
  unfold L_X10_which
  refine List.forall_mem_cons.mpr ⟨ok_aload_n C (show decode cX10_which 0 = .ok (.aload_n 0, 1) by decide +kernel) rfl rfl, ?_⟩
  refine List.forall_mem_cons.mpr ⟨ok_getf C (wi_X10) rfl (by decide) kw_315 (show decode cX10_which 1 = .ok (.getfield 12, 3) by decide +kernel) rfl, ?_⟩
  refine List.forall_mem_cons.mpr ⟨ok_getf C (wi_X8) rfl (by decide) kw_39 (show decode cX10_which 4 = .ok (.getfield 100, 3) by decide +kernel) rfl, ?_⟩
  refine List.forall_mem_cons.mpr ⟨ok_istore_n C (show decode cX10_which 7 = .ok (.istore_n 1, 1) by decide +kernel) rfl (by decide) rfl, ?_⟩
  refine List.forall_mem_cons.mpr ⟨ok_aload_n C (show decode cX10_which 8 = .ok (.aload_n 0, 1) by decide +kernel) rfl rfl, ?_⟩
  refine List.forall_mem_cons.mpr ⟨ok_getf C (wi_X10) rfl (by decide) kw_315 (show decode cX10_which 9 = .ok (.getfield 12, 3) by decide +kernel) rfl, ?_⟩
  refine List.forall_mem_cons.mpr ⟨ok_iconst C (show decode cX10_which 12 = .ok (.iconst 0, 1) by decide +kernel) (by decide) rfl, ?_⟩
  refine List.forall_mem_cons.mpr ⟨ok_putf C (wi_X8) tyX8 tyX8_ok nmX8 rfl (by decide) kw_39 (Or.inl rfl) (Or.inl ⟨rfl, rfl⟩) (show decode cX10_which 13 = .ok (.putfield 100, 3) by decide +kernel) rfl, ?_⟩
  refine List.forall_mem_cons.mpr ⟨ok_iload_n C (show decode cX10_which 16 = .ok (.iload_n 1, 1) by decide +kernel) rfl rfl, ?_⟩
  refine List.forall_mem_cons.mpr ⟨ok_iconst C (show decode cX10_which 17 = .ok (.iconst 1, 1) by decide +kernel) (by decide) rfl, ?_⟩
  refine List.forall_mem_cons.mpr ⟨ok_isub C (show decode cX10_which 18 = .ok (.isub, 1) by decide +kernel) rfl, ?_⟩
  refine List.forall_mem_cons.mpr ⟨ok_istore_n C (show decode cX10_which 19 = .ok (.istore_n 2, 1) by decide +kernel) rfl (by decide) rfl, ?_⟩
  refine List.forall_mem_cons.mpr ⟨ok_iload_n C (show decode cX10_which 20 = .ok (.iload_n 2, 1) by decide +kernel) rfl rfl, ?_⟩
  refine List.forall_mem_cons.mpr ⟨ok_iconst C (show decode cX10_which 21 = .ok (.iconst 2, 1) by decide +kernel) (by decide) rfl, ?_⟩
  refine List.forall_mem_cons.mpr ⟨ok_icmplt C (show decode cX10_which 22 = .ok (.if_icmp .lt 23, 3) by decide +kernel) (tg := 45) (by decide) rfl rfl, ?_⟩
  refine List.forall_mem_cons.mpr ⟨ok_iload_n C (show decode cX10_which 25 = .ok (.iload_n 2, 1) by decide +kernel) rfl rfl, ?_⟩
  refine List.forall_mem_cons.mpr ⟨ok_bipush C (show decode cX10_which 26 = .ok (.bipush 30, 2) by decide +kernel) (by decide) rfl, ?_⟩
  refine List.forall_mem_cons.mpr ⟨ok_icmpgt C (show decode cX10_which 28 = .ok (.if_icmp .gt 17, 3) by decide +kernel) (tg := 45) (by decide) rfl rfl, ?_⟩
  refine List.forall_mem_cons.mpr ⟨ok_aload_n C (show decode cX10_which 31 = .ok (.aload_n 0, 1) by decide +kernel) rfl rfl, ?_⟩
  refine List.forall_mem_cons.mpr ⟨ok_getf C (wi_X10) rfl (by decide) kw_315 (show decode cX10_which 32 = .ok (.getfield 12, 3) by decide +kernel) rfl, ?_⟩
  refine List.forall_mem_cons.mpr ⟨ok_iconst C (show decode cX10_which 35 = .ok (.iconst 0, 1) by decide +kernel) (by decide) rfl, ?_⟩
  refine List.forall_mem_cons.mpr ⟨ok_callV C h_X8_valueAt ⟨rfl, rfl⟩ rfl kw_404 kw_858 kw_402 kw_403 kw_2 rfl ds_X8_valueAt ⟨by decide, by decide⟩ (show decode cX10_which 36 = .ok (.invokevirtual 309, 3) by decide +kernel) rfl, ?_⟩
  refine List.forall_mem_cons.mpr ⟨ok_callS C h_X10_isShore ⟨rfl, rfl⟩ kw_599 kw_597 kw_598 kw_1 ds_X10_isShore ⟨by decide, by decide⟩ (show decode cX10_which 39 = .ok (.invokestatic 143, 3) by decide +kernel) rfl, ?_⟩
  refine List.forall_mem_cons.mpr ⟨ok_ifne C (show decode cX10_which 42 = .ok (.ifCond .ne 5, 3) by decide +kernel) (tg := 47) (by decide) rfl rfl, ?_⟩
  refine List.forall_mem_cons.mpr ⟨ok_iconst C (show decode cX10_which 45 = .ok (.iconst (-1), 1) by decide +kernel) (by decide) rfl, ?_⟩
  refine List.forall_mem_cons.mpr ⟨ok_ret C rfl (show decode cX10_which 46 = .ok (.ireturn, 1) by decide +kernel), ?_⟩
  refine List.forall_mem_cons.mpr ⟨ok_aload_n C (show decode cX10_which 47 = .ok (.aload_n 0, 1) by decide +kernel) rfl rfl, ?_⟩
  refine List.forall_mem_cons.mpr ⟨ok_getf C (wi_X10) rfl (by decide) kw_315 (show decode cX10_which 48 = .ok (.getfield 12, 3) by decide +kernel) rfl, ?_⟩
  refine List.forall_mem_cons.mpr ⟨ok_iconst C (show decode cX10_which 51 = .ok (.iconst 0, 1) by decide +kernel) (by decide) rfl, ?_⟩
  refine List.forall_mem_cons.mpr ⟨ok_callV C h_X8_valueAt ⟨rfl, rfl⟩ rfl kw_404 kw_858 kw_402 kw_403 kw_2 rfl ds_X8_valueAt ⟨by decide, by decide⟩ (show decode cX10_which 52 = .ok (.invokevirtual 309, 3) by decide +kernel) rfl, ?_⟩
  refine List.forall_mem_cons.mpr ⟨ok_istore_n C (show decode cX10_which 55 = .ok (.istore_n 3, 1) by decide +kernel) rfl (by decide) rfl, ?_⟩
  refine List.forall_mem_cons.mpr ⟨ok_iconst C (show decode cX10_which 56 = .ok (.iconst 0, 1) by decide +kernel) (by decide) rfl, ?_⟩
  refine List.forall_mem_cons.mpr ⟨ok_istore C (show decode cX10_which 57 = .ok (.istore 4, 2) by decide +kernel) (by decide) rfl, ?_⟩
  refine List.forall_mem_cons.mpr ⟨ok_iconst C (show decode cX10_which 59 = .ok (.iconst 0, 1) by decide +kernel) (by decide) rfl, ?_⟩
  refine List.forall_mem_cons.mpr ⟨ok_istore C (show decode cX10_which 60 = .ok (.istore 5, 2) by decide +kernel) (by decide) rfl, ?_⟩
  refine List.forall_mem_cons.mpr ⟨ok_iload C (show decode cX10_which 62 = .ok (.iload 5, 2) by decide +kernel) rfl, ?_⟩
  refine List.forall_mem_cons.mpr ⟨ok_aload_n C (show decode cX10_which 64 = .ok (.aload_n 0, 1) by decide +kernel) rfl rfl, ?_⟩
  refine List.forall_mem_cons.mpr ⟨ok_getf C (wi_X10) rfl (by decide) kw_328 (show decode cX10_which 65 = .ok (.getfield 83, 3) by decide +kernel) rfl, ?_⟩
  refine List.forall_mem_cons.mpr ⟨ok_getf C (wi_X7) rfl (by decide) kw_250 (show decode cX10_which 68 = .ok (.getfield 136, 3) by decide +kernel) rfl, ?_⟩
  refine List.forall_mem_cons.mpr ⟨ok_icmpge C (show decode cX10_which 71 = .ok (.if_icmp .ge 32, 3) by decide +kernel) (tg := 103) (by decide) rfl rfl, ?_⟩
  refine List.forall_mem_cons.mpr ⟨ok_aload_n C (show decode cX10_which 74 = .ok (.aload_n 0, 1) by decide +kernel) rfl rfl, ?_⟩
  refine List.forall_mem_cons.mpr ⟨ok_iload C (show decode cX10_which 75 = .ok (.iload 5, 2) by decide +kernel) rfl, ?_⟩
  refine List.forall_mem_cons.mpr ⟨ok_iload_n C (show decode cX10_which 77 = .ok (.iload_n 3, 1) by decide +kernel) rfl rfl, ?_⟩
  refine List.forall_mem_cons.mpr ⟨ok_callS C h_X10_slotOf ⟨rfl, rfl⟩ kw_532 kw_600 kw_531 kw_1 ds_X10_slotOf ⟨by decide, by decide⟩ (show decode cX10_which 78 = .ok (.invokestatic 159, 3) by decide +kernel) rfl, ?_⟩
  refine List.forall_mem_cons.mpr ⟨ok_iload_n C (show decode cX10_which 81 = .ok (.iload_n 2, 1) by decide +kernel) rfl rfl, ?_⟩
  refine List.forall_mem_cons.mpr ⟨ok_callV C h_X10_couldGoSo ⟨rfl, rfl⟩ rfl kw_862 kw_859 kw_861 kp_26 kw_1 rfl ds_X10_couldGoSo ⟨by decide, by decide⟩ (show decode cX10_which 82 = .ok (.invokevirtual 312, 3) by decide +kernel) rfl, ?_⟩
  refine List.forall_mem_cons.mpr ⟨ok_ifeq C (show decode cX10_which 85 = .ok (.ifCond .eq 12, 3) by decide +kernel) (tg := 97) (by decide) rfl rfl, ?_⟩
  refine List.forall_mem_cons.mpr ⟨ok_iload C (show decode cX10_which 88 = .ok (.iload 4, 2) by decide +kernel) rfl, ?_⟩
  refine List.forall_mem_cons.mpr ⟨ok_iconst C (show decode cX10_which 90 = .ok (.iconst 1, 1) by decide +kernel) (by decide) rfl, ?_⟩
  refine List.forall_mem_cons.mpr ⟨ok_iload C (show decode cX10_which 91 = .ok (.iload 5, 2) by decide +kernel) rfl, ?_⟩
  refine List.forall_mem_cons.mpr ⟨ok_ishl C (show decode cX10_which 93 = .ok (.ishl, 1) by decide +kernel) rfl, ?_⟩
  refine List.forall_mem_cons.mpr ⟨ok_ior C (show decode cX10_which 94 = .ok (.ior, 1) by decide +kernel) rfl, ?_⟩
  refine List.forall_mem_cons.mpr ⟨ok_istore C (show decode cX10_which 95 = .ok (.istore 4, 2) by decide +kernel) (by decide) rfl, ?_⟩
  refine List.forall_mem_cons.mpr ⟨ok_iinc C (show decode cX10_which 97 = .ok (.iinc 5 1, 3) by decide +kernel) (by decide) (by decide) rfl, ?_⟩
  refine List.forall_mem_cons.mpr ⟨ok_goto C (show decode cX10_which 100 = .ok (.goto (-38), 3) by decide +kernel) (tg := 62) (by decide) rfl, ?_⟩
  refine List.forall_mem_cons.mpr ⟨ok_iload C (show decode cX10_which 103 = .ok (.iload 4, 2) by decide +kernel) rfl, ?_⟩
  refine List.forall_mem_cons.mpr ⟨ok_ret C rfl (show decode cX10_which 105 = .ok (.ireturn, 1) by decide +kernel), ?_⟩
  exact fun _ h => absurd h List.not_mem_nil
def L_X10_movePrices (f_X7_amountOf : List Value → ab_H → Option ab_O) : List (Nat × ab_A) := [
  (0, ab_nx 1 (ab_lit (.int 0))),
  (1, ab_nx 2 (ab_istore 1)),
  (2, ab_nx 3 (ab_lit (.int 0))),
  (3, ab_nx 4 (ab_istore 2)),
  (4, ab_nx 5 (ab_iload 2)),
  (5, ab_nx 6 (ab_lit (.int 2))),
  (6, ab_nx 7 (ab_aload 0)),
  (7, ab_nx 10 (ab_getf 10 13)),
  (10, ab_nx 13 (ab_getf 7 8)),
  (13, ab_nx 14 (ab_bin (fun x y => x * y))),
  (14, ab_icmp 17 95 (fun x y => decide (y ≤ x))),
  (17, ab_nx 18 (ab_aload 0)),
  (18, ab_nx 21 (ab_getf 10 13)),
  (21, ab_nx 22 (ab_lit (.int 1))),
  (22, ab_nx 23 (ab_iload 2)),
  (23, ab_nx 26 (ab_callV 3 7 f_X7_amountOf 0 0 0 0)),
  (26, ab_nx 27 (ab_istore 3)),
  (27, ab_nx 28 (ab_aload 0)),
  (28, ab_nx 31 (ab_getf 10 5)),
  (31, ab_nx 34 (ab_getf 6 0)),
  (34, ab_nx 35 (ab_iload 2)),
  (35, ab_nx 36 (ab_ald 1)),
  (36, ab_nx 37 (ab_iload 3)),
  (37, ab_icmp 40 55 (fun x y => decide (y ≤ x))),
  (40, ab_nx 41 (ab_aload 0)),
  (41, ab_nx 44 (ab_getf 10 10)),
  (44, ab_nx 45 (ab_iload 2)),
  (45, ab_nx 46 ab_dup2),
  (46, ab_nx 47 (ab_ald 1)),
  (47, ab_nx 48 (ab_lit (.int 1))),
  (48, ab_nx 49 (ab_bin (fun x y => x + y))),
  (49, ab_nx 50 (ab_ast 1)),
  (50, ab_nx 51 (ab_lit (.int 1))),
  (51, ab_nx 52 (ab_istore 1)),
  (52, ab_goto 89),
  (55, ab_nx 56 (ab_aload 0)),
  (56, ab_nx 59 (ab_getf 10 5)),
  (59, ab_nx 62 (ab_getf 6 0)),
  (62, ab_nx 63 (ab_iload 2)),
  (63, ab_nx 64 (ab_ald 1)),
  (64, ab_nx 65 (ab_iload 3)),
  (65, ab_icmp 68 89 (fun x y => decide (x ≤ y))),
  (68, ab_nx 69 (ab_aload 0)),
  (69, ab_nx 72 (ab_getf 10 10)),
  (72, ab_nx 73 (ab_iload 2)),
  (73, ab_nx 74 (ab_ald 1)),
  (74, ab_if 77 89 (fun x => decide (x ≤ 0))),
  (77, ab_nx 78 (ab_aload 0)),
  (78, ab_nx 81 (ab_getf 10 10)),
  (81, ab_nx 82 (ab_iload 2)),
  (82, ab_nx 83 ab_dup2),
  (83, ab_nx 84 (ab_ald 1)),
  (84, ab_nx 85 (ab_lit (.int 1))),
  (85, ab_nx 86 (ab_bin (fun x y => x - y))),
  (86, ab_nx 87 (ab_ast 1)),
  (87, ab_nx 88 (ab_lit (.int 1))),
  (88, ab_nx 89 (ab_istore 1)),
  (89, ab_nx 92 (ab_iinc 2 1)),
  (92, ab_goto 4),
  (95, ab_nx 96 (ab_iload 1)),
  (96, ab_zret 0 0)]
set_option maxRecDepth 100000 in
set_option maxHeartbeats 4000000 in
theorem M_X10_movePrices {l : Launch} {b : ab_B} {D : va_G} {cA : Nat → ClassId} {f_X7_amountOf : List Value → ab_H → Option ab_O} (h_X7_amountOf : ab_M l b D ab_cl cA (ab_E0 b) yX7_amountOf (Cond.code yX7_amountOf cX7_amountOf 3 (some .int) :: ab_G) ({ frames := 1, cells := 0, slots := 0, locals := 100 } : Room) f_X7_amountOf) : ab_M l b D ab_cl cA (ab_E0 b) yX10_movePrices (Cond.code yX10_movePrices cX10_movePrices 4 (some .boolean) :: ab_G) ({ frames := 2, cells := 0, slots := 0, locals := 200 } : Room) (ab_X (ab_T (L_X10_movePrices f_X7_amountOf)) 4) := by
  refine ab_meth (ret := (some .boolean)) (L_X10_movePrices f_X7_amountOf) (by decide) rfl fun p e R s m args below meth c o C => ?_
  unfold L_X10_movePrices
  refine List.forall_mem_cons.mpr ⟨ok_iconst C (show decode cX10_movePrices 0 = .ok (.iconst 0, 1) by decide +kernel) (by decide) rfl, ?_⟩
  refine List.forall_mem_cons.mpr ⟨ok_istore_n C (show decode cX10_movePrices 1 = .ok (.istore_n 1, 1) by decide +kernel) rfl (by decide) rfl, ?_⟩
  refine List.forall_mem_cons.mpr ⟨ok_iconst C (show decode cX10_movePrices 2 = .ok (.iconst 0, 1) by decide +kernel) (by decide) rfl, ?_⟩
  refine List.forall_mem_cons.mpr ⟨ok_istore_n C (show decode cX10_movePrices 3 = .ok (.istore_n 2, 1) by decide +kernel) rfl (by decide) rfl, ?_⟩
  refine List.forall_mem_cons.mpr ⟨ok_iload_n C (show decode cX10_movePrices 4 = .ok (.iload_n 2, 1) by decide +kernel) rfl rfl, ?_⟩
  refine List.forall_mem_cons.mpr ⟨ok_iconst C (show decode cX10_movePrices 5 = .ok (.iconst 2, 1) by decide +kernel) (by decide) rfl, ?_⟩
  refine List.forall_mem_cons.mpr ⟨ok_aload_n C (show decode cX10_movePrices 6 = .ok (.aload_n 0, 1) by decide +kernel) rfl rfl, ?_⟩
  refine List.forall_mem_cons.mpr ⟨ok_getf C (wi_X10) rfl (by decide) kw_328 (show decode cX10_movePrices 7 = .ok (.getfield 83, 3) by decide +kernel) rfl, ?_⟩
  refine List.forall_mem_cons.mpr ⟨ok_getf C (wi_X7) rfl (by decide) kw_250 (show decode cX10_movePrices 10 = .ok (.getfield 136, 3) by decide +kernel) rfl, ?_⟩
  refine List.forall_mem_cons.mpr ⟨ok_imul C (show decode cX10_movePrices 13 = .ok (.imul, 1) by decide +kernel) rfl, ?_⟩
  refine List.forall_mem_cons.mpr ⟨ok_icmpge C (show decode cX10_movePrices 14 = .ok (.if_icmp .ge 81, 3) by decide +kernel) (tg := 95) (by decide) rfl rfl, ?_⟩
  refine List.forall_mem_cons.mpr ⟨ok_aload_n C (show decode cX10_movePrices 17 = .ok (.aload_n 0, 1) by decide +kernel) rfl rfl, ?_⟩
  refine List.forall_mem_cons.mpr ⟨ok_getf C (wi_X10) rfl (by decide) kw_328 (show decode cX10_movePrices 18 = .ok (.getfield 83, 3) by decide +kernel) rfl, ?_⟩
  refine List.forall_mem_cons.mpr ⟨ok_iconst C (show decode cX10_movePrices 21 = .ok (.iconst 1, 1) by decide +kernel) (by decide) rfl, ?_⟩
  refine List.forall_mem_cons.mpr ⟨ok_iload_n C (show decode cX10_movePrices 22 = .ok (.iload_n 2, 1) by decide +kernel) rfl rfl, ?_⟩
  refine List.forall_mem_cons.mpr ⟨ok_callV C h_X7_amountOf ⟨rfl, rfl⟩ rfl kw_576 kw_601 kw_574 kw_575 kw_9 rfl ds_X7_amountOf ⟨by decide, by decide⟩ (show decode cX10_movePrices 23 = .ok (.invokevirtual 169, 3) by decide +kernel) rfl, ?_⟩
  refine List.forall_mem_cons.mpr ⟨ok_istore_n C (show decode cX10_movePrices 26 = .ok (.istore_n 3, 1) by decide +kernel) rfl (by decide) rfl, ?_⟩
  refine List.forall_mem_cons.mpr ⟨ok_aload_n C (show decode cX10_movePrices 27 = .ok (.aload_n 0, 1) by decide +kernel) rfl rfl, ?_⟩
  refine List.forall_mem_cons.mpr ⟨ok_getf C (wi_X10) rfl (by decide) kw_320 (show decode cX10_movePrices 28 = .ok (.getfield 44, 3) by decide +kernel) rfl, ?_⟩
  refine List.forall_mem_cons.mpr ⟨ok_getf C (wi_X6) rfl (by decide) kw_144 (show decode cX10_movePrices 31 = .ok (.getfield 163, 3) by decide +kernel) rfl, ?_⟩
  refine List.forall_mem_cons.mpr ⟨ok_iload_n C (show decode cX10_movePrices 34 = .ok (.iload_n 2, 1) by decide +kernel) rfl rfl, ?_⟩
  refine List.forall_mem_cons.mpr ⟨ok_iaload C (show decode cX10_movePrices 35 = .ok (.iaload, 1) by decide +kernel) rfl, ?_⟩
  refine List.forall_mem_cons.mpr ⟨ok_iload_n C (show decode cX10_movePrices 36 = .ok (.iload_n 3, 1) by decide +kernel) rfl rfl, ?_⟩
  refine List.forall_mem_cons.mpr ⟨ok_icmpge C (show decode cX10_movePrices 37 = .ok (.if_icmp .ge 18, 3) by decide +kernel) (tg := 55) (by decide) rfl rfl, ?_⟩
  refine List.forall_mem_cons.mpr ⟨ok_aload_n C (show decode cX10_movePrices 40 = .ok (.aload_n 0, 1) by decide +kernel) rfl rfl, ?_⟩
  refine List.forall_mem_cons.mpr ⟨ok_getf C (wi_X10) rfl (by decide) kw_325 (show decode cX10_movePrices 41 = .ok (.getfield 70, 3) by decide +kernel) rfl, ?_⟩
  refine List.forall_mem_cons.mpr ⟨ok_iload_n C (show decode cX10_movePrices 44 = .ok (.iload_n 2, 1) by decide +kernel) rfl rfl, ?_⟩
  refine List.forall_mem_cons.mpr ⟨ok_dup2 C (show decode cX10_movePrices 45 = .ok (.dup2, 1) by decide +kernel) rfl, ?_⟩
  refine List.forall_mem_cons.mpr ⟨ok_iaload C (show decode cX10_movePrices 46 = .ok (.iaload, 1) by decide +kernel) rfl, ?_⟩
  refine List.forall_mem_cons.mpr ⟨ok_iconst C (show decode cX10_movePrices 47 = .ok (.iconst 1, 1) by decide +kernel) (by decide) rfl, ?_⟩
  refine List.forall_mem_cons.mpr ⟨ok_iadd C (show decode cX10_movePrices 48 = .ok (.iadd, 1) by decide +kernel) rfl, ?_⟩
  refine List.forall_mem_cons.mpr ⟨ok_iastore C (show decode cX10_movePrices 49 = .ok (.iastore, 1) by decide +kernel) rfl, ?_⟩
  refine List.forall_mem_cons.mpr ⟨ok_iconst C (show decode cX10_movePrices 50 = .ok (.iconst 1, 1) by decide +kernel) (by decide) rfl, ?_⟩
  refine List.forall_mem_cons.mpr ⟨ok_istore_n C (show decode cX10_movePrices 51 = .ok (.istore_n 1, 1) by decide +kernel) rfl (by decide) rfl, ?_⟩
  refine List.forall_mem_cons.mpr ⟨ok_goto C (show decode cX10_movePrices 52 = .ok (.goto 37, 3) by decide +kernel) (tg := 89) (by decide) rfl, ?_⟩
  refine List.forall_mem_cons.mpr ⟨ok_aload_n C (show decode cX10_movePrices 55 = .ok (.aload_n 0, 1) by decide +kernel) rfl rfl, ?_⟩
  refine List.forall_mem_cons.mpr ⟨ok_getf C (wi_X10) rfl (by decide) kw_320 (show decode cX10_movePrices 56 = .ok (.getfield 44, 3) by decide +kernel) rfl, ?_⟩
  refine List.forall_mem_cons.mpr ⟨ok_getf C (wi_X6) rfl (by decide) kw_144 (show decode cX10_movePrices 59 = .ok (.getfield 163, 3) by decide +kernel) rfl, ?_⟩
  refine List.forall_mem_cons.mpr ⟨ok_iload_n C (show decode cX10_movePrices 62 = .ok (.iload_n 2, 1) by decide +kernel) rfl rfl, ?_⟩
  refine List.forall_mem_cons.mpr ⟨ok_iaload C (show decode cX10_movePrices 63 = .ok (.iaload, 1) by decide +kernel) rfl, ?_⟩
  refine List.forall_mem_cons.mpr ⟨ok_iload_n C (show decode cX10_movePrices 64 = .ok (.iload_n 3, 1) by decide +kernel) rfl rfl, ?_⟩
  refine List.forall_mem_cons.mpr ⟨ok_icmple C (show decode cX10_movePrices 65 = .ok (.if_icmp .le 24, 3) by decide +kernel) (tg := 89) (by decide) rfl rfl, ?_⟩
  refine List.forall_mem_cons.mpr ⟨ok_aload_n C (show decode cX10_movePrices 68 = .ok (.aload_n 0, 1) by decide +kernel) rfl rfl, ?_⟩
  refine List.forall_mem_cons.mpr ⟨ok_getf C (wi_X10) rfl (by decide) kw_325 (show decode cX10_movePrices 69 = .ok (.getfield 70, 3) by decide +kernel) rfl, ?_⟩
  refine List.forall_mem_cons.mpr ⟨ok_iload_n C (show decode cX10_movePrices 72 = .ok (.iload_n 2, 1) by decide +kernel) rfl rfl, ?_⟩
  refine List.forall_mem_cons.mpr ⟨ok_iaload C (show decode cX10_movePrices 73 = .ok (.iaload, 1) by decide +kernel) rfl, ?_⟩
  refine List.forall_mem_cons.mpr ⟨ok_ifle C (show decode cX10_movePrices 74 = .ok (.ifCond .le 15, 3) by decide +kernel) (tg := 89) (by decide) rfl rfl, ?_⟩
  refine List.forall_mem_cons.mpr ⟨ok_aload_n C (show decode cX10_movePrices 77 = .ok (.aload_n 0, 1) by decide +kernel) rfl rfl, ?_⟩
  refine List.forall_mem_cons.mpr ⟨ok_getf C (wi_X10) rfl (by decide) kw_325 (show decode cX10_movePrices 78 = .ok (.getfield 70, 3) by decide +kernel) rfl, ?_⟩
  refine List.forall_mem_cons.mpr ⟨ok_iload_n C (show decode cX10_movePrices 81 = .ok (.iload_n 2, 1) by decide +kernel) rfl rfl, ?_⟩
  refine List.forall_mem_cons.mpr ⟨ok_dup2 C (show decode cX10_movePrices 82 = .ok (.dup2, 1) by decide +kernel) rfl, ?_⟩
  refine List.forall_mem_cons.mpr ⟨ok_iaload C (show decode cX10_movePrices 83 = .ok (.iaload, 1) by decide +kernel) rfl, ?_⟩
  refine List.forall_mem_cons.mpr ⟨ok_iconst C (show decode cX10_movePrices 84 = .ok (.iconst 1, 1) by decide +kernel) (by decide) rfl, ?_⟩
  refine List.forall_mem_cons.mpr ⟨ok_isub C (show decode cX10_movePrices 85 = .ok (.isub, 1) by decide +kernel) rfl, ?_⟩
  refine List.forall_mem_cons.mpr ⟨ok_iastore C (show decode cX10_movePrices 86 = .ok (.iastore, 1) by decide +kernel) rfl, ?_⟩
  refine List.forall_mem_cons.mpr ⟨ok_iconst C (show decode cX10_movePrices 87 = .ok (.iconst 1, 1) by decide +kernel) (by decide) rfl, ?_⟩
  refine List.forall_mem_cons.mpr ⟨ok_istore_n C (show decode cX10_movePrices 88 = .ok (.istore_n 1, 1) by decide +kernel) rfl (by decide) rfl, ?_⟩
  refine List.forall_mem_cons.mpr ⟨ok_iinc C (show decode cX10_movePrices 89 = .ok (.iinc 2 1, 3) by decide +kernel) (by decide) (by decide) rfl, ?_⟩
  refine List.forall_mem_cons.mpr ⟨ok_goto C (show decode cX10_movePrices 92 = .ok (.goto (-88), 3) by decide +kernel) (tg := 4) (by decide) rfl, ?_⟩
  refine List.forall_mem_cons.mpr ⟨ok_iload_n C (show decode cX10_movePrices 95 = .ok (.iload_n 1, 1) by decide +kernel) rfl rfl, ?_⟩
  refine List.forall_mem_cons.mpr ⟨ok_zret C rfl (show decode cX10_movePrices 96 = .ok (.ireturn, 1) by decide +kernel), ?_⟩
  exact fun _ h => absurd h List.not_mem_nil
def L_X10_prices (f_X6_copyFrom : List Value → ab_H → Option ab_O) (f_X10_movePrices : List Value → ab_H → Option ab_O) (f_X1_passDays : List Value → ab_H → Option ab_O) : List (Nat × ab_A) := [
  (0, ab_nx 1 (ab_aload 0)),
  (1, ab_nx 4 (ab_getf 10 5)),
  (4, ab_nx 5 (ab_aload 0)),
  (5, ab_nx 8 (ab_getf 10 4)),
  (8, ab_nx 11 (ab_callV 2 6 f_X6_copyFrom 0 0 0 0)),
  (11, ab_nx 12 (ab_aload 0)),
  (12, ab_nx 13 (ab_aload 0)),
  (13, ab_nx 16 (ab_getf 10 13)),
  (16, ab_nx 19 (ab_getf 7 8)),
  (19, ab_nx 22 (ab_putf 10 17 0)),
  (22, ab_nx 23 (ab_lit (.int 0))),
  (23, ab_nx 24 (ab_istore 1)),
  (24, ab_nx 25 (ab_iload 1)),
  (25, ab_nx 27 (ab_lit (.int 12))),
  (27, ab_icmp 30 43 (fun x y => decide (y ≤ x))),
  (30, ab_nx 31 (ab_aload 0)),
  (31, ab_nx 34 (ab_getf 10 10)),
  (34, ab_nx 35 (ab_iload 1)),
  (35, ab_nx 36 (ab_lit (.int 5))),
  (36, ab_nx 37 (ab_ast 1)),
  (37, ab_nx 40 (ab_iinc 1 1)),
  (40, ab_goto 24),
  (43, ab_nx 44 (ab_lit (.int 1))),
  (44, ab_nx 45 (ab_istore 1)),
  (45, ab_nx 46 (ab_iload 1)),
  (46, ab_nx 48 (ab_lit (.int 60))),
  (48, ab_icmp 51 83 (fun x y => decide (y ≤ x))),
  (51, ab_nx 52 (ab_aload 0)),
  (52, ab_nx 55 (ab_callV 1 10 f_X10_movePrices 0 0 0 0)),
  (55, ab_if 58 60 (fun x => !decide (x = 0))),
  (58, ab_nx 59 (ab_iload 1)),
  (59, ab_ret 0 0),
  (60, ab_nx 61 (ab_aload 0)),
  (61, ab_nx 64 (ab_getf 10 2)),
  (64, ab_nx 65 (ab_aload 0)),
  (65, ab_nx 68 (ab_getf 10 13)),
  (68, ab_nx 69 (ab_aload 0)),
  (69, ab_nx 72 (ab_getf 10 5)),
  (72, ab_nx 73 (ab_lit (.int 1))),
  (73, ab_nx 76 (ab_callV 4 1 f_X1_passDays 0 0 0 0)),
  (76, ab_nx 77 ab_pop),
  (77, ab_nx 80 (ab_iinc 1 1)),
  (80, ab_goto 45),
  (83, ab_nx 84 (ab_aload 0)),
  (84, ab_nx 87 (ab_callV 1 10 f_X10_movePrices 0 0 0 0)),
  (87, ab_nx 88 ab_pop),
  (88, ab_nx 90 (ab_lit (.int 60))),
  (90, ab_ret 0 0)]
set_option maxRecDepth 100000 in
set_option maxHeartbeats 4000000 in
theorem M_X10_prices {l : Launch} {b : ab_B} {D : va_G} {cA : Nat → ClassId} {f_X6_copyFrom : List Value → ab_H → Option ab_O} (h_X6_copyFrom : ab_M l b D ab_cl cA (ab_E0 b) yX6_copyFrom (Cond.code yX6_copyFrom cX6_copyFrom 2 none :: ab_G) ({ frames := 2, cells := 0, slots := 0, locals := 200 } : Room) f_X6_copyFrom) {f_X10_movePrices : List Value → ab_H → Option ab_O} (h_X10_movePrices : ab_M l b D ab_cl cA (ab_E0 b) yX10_movePrices (Cond.code yX10_movePrices cX10_movePrices 4 (some .boolean) :: ab_G) ({ frames := 2, cells := 0, slots := 0, locals := 200 } : Room) f_X10_movePrices) {f_X1_passDays : List Value → ab_H → Option ab_O} (h_X1_passDays : ab_M l b D ab_cl cA (ab_E0 b) yX1_passDays (Cond.code yX1_passDays cX1_passDays 6 (some .int) :: ab_G) ({ frames := 5, cells := 0, slots := 0, locals := 500 } : Room) f_X1_passDays) : ab_M l b D ab_cl cA (ab_E0 b) yX10_prices (Cond.code yX10_prices cX10_prices 2 (some .int) :: ab_G) ({ frames := 6, cells := 0, slots := 0, locals := 600 } : Room) (ab_X (ab_T (L_X10_prices f_X6_copyFrom f_X10_movePrices f_X1_passDays)) 2) := by
  refine ab_meth (ret := (some .int)) (L_X10_prices f_X6_copyFrom f_X10_movePrices f_X1_passDays) (by decide) rfl fun p e R s m args below meth c o C => ?_
  unfold L_X10_prices
  refine List.forall_mem_cons.mpr ⟨ok_aload_n C (show decode cX10_prices 0 = .ok (.aload_n 0, 1) by decide +kernel) rfl rfl, ?_⟩
  refine List.forall_mem_cons.mpr ⟨ok_getf C (wi_X10) rfl (by decide) kw_320 (show decode cX10_prices 1 = .ok (.getfield 44, 3) by decide +kernel) rfl, ?_⟩
  refine List.forall_mem_cons.mpr ⟨ok_aload_n C (show decode cX10_prices 4 = .ok (.aload_n 0, 1) by decide +kernel) rfl rfl, ?_⟩
  refine List.forall_mem_cons.mpr ⟨ok_getf C (wi_X10) rfl (by decide) kw_319 (show decode cX10_prices 5 = .ok (.getfield 40, 3) by decide +kernel) rfl, ?_⟩
  refine List.forall_mem_cons.mpr ⟨ok_callV C h_X6_copyFrom ⟨rfl, rfl⟩ rfl kw_724 kw_806 kw_722 kw_723 kw_6 rfl ds_X6_copyFrom ⟨by decide, by decide⟩ (show decode cX10_prices 8 = .ok (.invokevirtual 284, 3) by decide +kernel) rfl, ?_⟩
  refine List.forall_mem_cons.mpr ⟨ok_aload_n C (show decode cX10_prices 11 = .ok (.aload_n 0, 1) by decide +kernel) rfl rfl, ?_⟩
  refine List.forall_mem_cons.mpr ⟨ok_aload_n C (show decode cX10_prices 12 = .ok (.aload_n 0, 1) by decide +kernel) rfl rfl, ?_⟩
  refine List.forall_mem_cons.mpr ⟨ok_getf C (wi_X10) rfl (by decide) kw_328 (show decode cX10_prices 13 = .ok (.getfield 83, 3) by decide +kernel) rfl, ?_⟩
  refine List.forall_mem_cons.mpr ⟨ok_getf C (wi_X7) rfl (by decide) kw_250 (show decode cX10_prices 16 = .ok (.getfield 136, 3) by decide +kernel) rfl, ?_⟩
  refine List.forall_mem_cons.mpr ⟨ok_putf C (wi_X10) tyX10 tyX10_ok nmX10 rfl (by decide) kw_332 (Or.inl rfl) (Or.inl ⟨rfl, rfl⟩) (show decode cX10_prices 19 = .ok (.putfield 315, 3) by decide +kernel) rfl, ?_⟩
  refine List.forall_mem_cons.mpr ⟨ok_iconst C (show decode cX10_prices 22 = .ok (.iconst 0, 1) by decide +kernel) (by decide) rfl, ?_⟩
  refine List.forall_mem_cons.mpr ⟨ok_istore_n C (show decode cX10_prices 23 = .ok (.istore_n 1, 1) by decide +kernel) rfl (by decide) rfl, ?_⟩
  refine List.forall_mem_cons.mpr ⟨ok_iload_n C (show decode cX10_prices 24 = .ok (.iload_n 1, 1) by decide +kernel) rfl rfl, ?_⟩
  refine List.forall_mem_cons.mpr ⟨ok_bipush C (show decode cX10_prices 25 = .ok (.bipush 12, 2) by decide +kernel) (by decide) rfl, ?_⟩
  refine List.forall_mem_cons.mpr ⟨ok_icmpge C (show decode cX10_prices 27 = .ok (.if_icmp .ge 16, 3) by decide +kernel) (tg := 43) (by decide) rfl rfl, ?_⟩
  refine List.forall_mem_cons.mpr ⟨ok_aload_n C (show decode cX10_prices 30 = .ok (.aload_n 0, 1) by decide +kernel) rfl rfl, ?_⟩
  refine List.forall_mem_cons.mpr ⟨ok_getf C (wi_X10) rfl (by decide) kw_325 (show decode cX10_prices 31 = .ok (.getfield 70, 3) by decide +kernel) rfl, ?_⟩
  refine List.forall_mem_cons.mpr ⟨ok_iload_n C (show decode cX10_prices 34 = .ok (.iload_n 1, 1) by decide +kernel) rfl rfl, ?_⟩
  refine List.forall_mem_cons.mpr ⟨ok_iconst C (show decode cX10_prices 35 = .ok (.iconst 5, 1) by decide +kernel) (by decide) rfl, ?_⟩
  refine List.forall_mem_cons.mpr ⟨ok_iastore C (show decode cX10_prices 36 = .ok (.iastore, 1) by decide +kernel) rfl, ?_⟩
  refine List.forall_mem_cons.mpr ⟨ok_iinc C (show decode cX10_prices 37 = .ok (.iinc 1 1, 3) by decide +kernel) (by decide) (by decide) rfl, ?_⟩
  refine List.forall_mem_cons.mpr ⟨ok_goto C (show decode cX10_prices 40 = .ok (.goto (-16), 3) by decide +kernel) (tg := 24) (by decide) rfl, ?_⟩
  refine List.forall_mem_cons.mpr ⟨ok_iconst C (show decode cX10_prices 43 = .ok (.iconst 1, 1) by decide +kernel) (by decide) rfl, ?_⟩
  refine List.forall_mem_cons.mpr ⟨ok_istore_n C (show decode cX10_prices 44 = .ok (.istore_n 1, 1) by decide +kernel) rfl (by decide) rfl, ?_⟩
  refine List.forall_mem_cons.mpr ⟨ok_iload_n C (show decode cX10_prices 45 = .ok (.iload_n 1, 1) by decide +kernel) rfl rfl, ?_⟩
  refine List.forall_mem_cons.mpr ⟨ok_bipush C (show decode cX10_prices 46 = .ok (.bipush 60, 2) by decide +kernel) (by decide) rfl, ?_⟩
  refine List.forall_mem_cons.mpr ⟨ok_icmpge C (show decode cX10_prices 48 = .ok (.if_icmp .ge 35, 3) by decide +kernel) (tg := 83) (by decide) rfl rfl, ?_⟩
  refine List.forall_mem_cons.mpr ⟨ok_aload_n C (show decode cX10_prices 51 = .ok (.aload_n 0, 1) by decide +kernel) rfl rfl, ?_⟩
  refine List.forall_mem_cons.mpr ⟨ok_callV C h_X10_movePrices ⟨rfl, rfl⟩ rfl kw_870 kw_867 kw_869 kp_27 kw_1 rfl ds_X10_movePrices ⟨by decide, by decide⟩ (show decode cX10_prices 52 = .ok (.invokevirtual 318, 3) by decide +kernel) rfl, ?_⟩
  refine List.forall_mem_cons.mpr ⟨ok_ifne C (show decode cX10_prices 55 = .ok (.ifCond .ne 5, 3) by decide +kernel) (tg := 60) (by decide) rfl rfl, ?_⟩
  refine List.forall_mem_cons.mpr ⟨ok_iload_n C (show decode cX10_prices 58 = .ok (.iload_n 1, 1) by decide +kernel) rfl rfl, ?_⟩
  refine List.forall_mem_cons.mpr ⟨ok_ret C rfl (show decode cX10_prices 59 = .ok (.ireturn, 1) by decide +kernel), ?_⟩
  refine List.forall_mem_cons.mpr ⟨ok_aload_n C (show decode cX10_prices 60 = .ok (.aload_n 0, 1) by decide +kernel) rfl rfl, ?_⟩
  refine List.forall_mem_cons.mpr ⟨ok_getf C (wi_X10) rfl (by decide) kw_317 (show decode cX10_prices 61 = .ok (.getfield 26, 3) by decide +kernel) rfl, ?_⟩
  refine List.forall_mem_cons.mpr ⟨ok_aload_n C (show decode cX10_prices 64 = .ok (.aload_n 0, 1) by decide +kernel) rfl rfl, ?_⟩
  refine List.forall_mem_cons.mpr ⟨ok_getf C (wi_X10) rfl (by decide) kw_328 (show decode cX10_prices 65 = .ok (.getfield 83, 3) by decide +kernel) rfl, ?_⟩
  refine List.forall_mem_cons.mpr ⟨ok_aload_n C (show decode cX10_prices 68 = .ok (.aload_n 0, 1) by decide +kernel) rfl rfl, ?_⟩
  refine List.forall_mem_cons.mpr ⟨ok_getf C (wi_X10) rfl (by decide) kw_320 (show decode cX10_prices 69 = .ok (.getfield 44, 3) by decide +kernel) rfl, ?_⟩
  refine List.forall_mem_cons.mpr ⟨ok_iconst C (show decode cX10_prices 72 = .ok (.iconst 1, 1) by decide +kernel) (by decide) rfl, ?_⟩
  refine List.forall_mem_cons.mpr ⟨ok_callV C h_X1_passDays ⟨rfl, rfl⟩ rfl kw_751 kw_748 kw_749 kw_750 kw_4 rfl ds_X1_passDays ⟨by decide, by decide⟩ (show decode cX10_prices 73 = .ok (.invokevirtual 266, 3) by decide +kernel) rfl, ?_⟩
  refine List.forall_mem_cons.mpr ⟨ok_pop C (show decode cX10_prices 76 = .ok (.pop, 1) by decide +kernel) rfl, ?_⟩
  refine List.forall_mem_cons.mpr ⟨ok_iinc C (show decode cX10_prices 77 = .ok (.iinc 1 1, 3) by decide +kernel) (by decide) (by decide) rfl, ?_⟩
  refine List.forall_mem_cons.mpr ⟨ok_goto C (show decode cX10_prices 80 = .ok (.goto (-35), 3) by decide +kernel) (tg := 45) (by decide) rfl, ?_⟩
  refine List.forall_mem_cons.mpr ⟨ok_aload_n C (show decode cX10_prices 83 = .ok (.aload_n 0, 1) by decide +kernel) rfl rfl, ?_⟩
  refine List.forall_mem_cons.mpr ⟨ok_callV C h_X10_movePrices ⟨rfl, rfl⟩ rfl kw_870 kw_867 kw_869 kp_27 kw_1 rfl ds_X10_movePrices ⟨by decide, by decide⟩ (show decode cX10_prices 84 = .ok (.invokevirtual 318, 3) by decide +kernel) rfl, ?_⟩
  refine List.forall_mem_cons.mpr ⟨ok_pop C (show decode cX10_prices 87 = .ok (.pop, 1) by decide +kernel) rfl, ?_⟩
  refine List.forall_mem_cons.mpr ⟨ok_bipush C (show decode cX10_prices 88 = .ok (.bipush 60, 2) by decide +kernel) (by decide) rfl, ?_⟩
  refine List.forall_mem_cons.mpr ⟨ok_ret C rfl (show decode cX10_prices 90 = .ok (.ireturn, 1) by decide +kernel), ?_⟩
  exact fun _ h => absurd h List.not_mem_nil
def L_X10_price (f_X10_isShore : List Value → ab_H → Option ab_O) (f_X10_slotOf : List Value → ab_H → Option ab_O) : List (Nat × ab_A) := [
  (0, ab_nx 1 (ab_iload 1)),
  (1, ab_if 4 23 (fun x => decide (x < 0))),
  (4, ab_nx 5 (ab_iload 1)),
  (5, ab_nx 6 (ab_aload 0)),
  (6, ab_nx 9 (ab_getf 10 17)),
  (9, ab_icmp 12 23 (fun x y => decide (y ≤ x))),
  (12, ab_nx 13 (ab_iload 2)),
  (13, ab_nx 16 (ab_call 1 f_X10_isShore 0 0 0 0)),
  (16, ab_if 19 23 (fun x => decide (x = 0))),
  (19, ab_nx 20 (ab_lit (.int 1))),
  (20, ab_goto 24),
  (23, ab_nx 24 (ab_lit (.int 0))),
  (24, ab_nx 25 (ab_istore 3)),
  (25, ab_nx 26 (ab_iload 3)),
  (26, ab_if 29 42 (fun x => decide (x = 0))),
  (29, ab_nx 30 (ab_aload 0)),
  (30, ab_nx 33 (ab_getf 10 10)),
  (33, ab_nx 34 (ab_iload 1)),
  (34, ab_nx 35 (ab_iload 2)),
  (35, ab_nx 38 (ab_call 2 f_X10_slotOf 0 0 0 0)),
  (38, ab_nx 39 (ab_ald 1)),
  (39, ab_goto 43),
  (42, ab_nx 43 (ab_lit (.int (-1)))),
  (43, ab_ret 0 0)]
set_option maxRecDepth 100000 in
set_option maxHeartbeats 4000000 in
theorem M_X10_price {l : Launch} {b : ab_B} {D : va_G} {cA : Nat → ClassId} {f_X10_isShore : List Value → ab_H → Option ab_O} (h_X10_isShore : ab_M l b D ab_cl cA (ab_E0 b) yX10_isShore (Cond.code yX10_isShore cX10_isShore 1 (some .boolean) :: ab_G) ({ frames := 1, cells := 0, slots := 0, locals := 100 } : Room) f_X10_isShore) {f_X10_slotOf : List Value → ab_H → Option ab_O} (h_X10_slotOf : ab_M l b D ab_cl cA (ab_E0 b) yX10_slotOf (Cond.code yX10_slotOf cX10_slotOf 2 (some .int) :: ab_G) ({ frames := 1, cells := 0, slots := 0, locals := 100 } : Room) f_X10_slotOf) : ab_M l b D ab_cl cA (ab_E0 b) yX10_price (Cond.code yX10_price cX10_price 4 (some .int) :: ab_G) ({ frames := 2, cells := 0, slots := 0, locals := 200 } : Room) (ab_X (ab_T (L_X10_price f_X10_isShore f_X10_slotOf)) 4) := by
  refine ab_meth (ret := (some .int)) (L_X10_price f_X10_isShore f_X10_slotOf) (by decide) rfl fun p e R s m args below meth c o C => ?_
  unfold L_X10_price
  refine List.forall_mem_cons.mpr ⟨ok_iload_n C (show decode cX10_price 0 = .ok (.iload_n 1, 1) by decide +kernel) rfl rfl, ?_⟩
  refine List.forall_mem_cons.mpr ⟨ok_iflt C (show decode cX10_price 1 = .ok (.ifCond .lt 22, 3) by decide +kernel) (tg := 23) (by decide) rfl rfl, ?_⟩
  refine List.forall_mem_cons.mpr ⟨ok_iload_n C (show decode cX10_price 4 = .ok (.iload_n 1, 1) by decide +kernel) rfl rfl, ?_⟩
  refine List.forall_mem_cons.mpr ⟨ok_aload_n C (show decode cX10_price 5 = .ok (.aload_n 0, 1) by decide +kernel) rfl rfl, ?_⟩
  refine List.forall_mem_cons.mpr ⟨ok_getf C (wi_X10) rfl (by decide) kw_332 (show decode cX10_price 6 = .ok (.getfield 315, 3) by decide +kernel) rfl, ?_⟩
  refine List.forall_mem_cons.mpr ⟨ok_icmpge C (show decode cX10_price 9 = .ok (.if_icmp .ge 14, 3) by decide +kernel) (tg := 23) (by decide) rfl rfl, ?_⟩
  refine List.forall_mem_cons.mpr ⟨ok_iload_n C (show decode cX10_price 12 = .ok (.iload_n 2, 1) by decide +kernel) rfl rfl, ?_⟩
  refine List.forall_mem_cons.mpr ⟨ok_callS C h_X10_isShore ⟨rfl, rfl⟩ kw_599 kw_597 kw_598 kw_1 ds_X10_isShore ⟨by decide, by decide⟩ (show decode cX10_price 13 = .ok (.invokestatic 143, 3) by decide +kernel) rfl, ?_⟩
  refine List.forall_mem_cons.mpr ⟨ok_ifeq C (show decode cX10_price 16 = .ok (.ifCond .eq 7, 3) by decide +kernel) (tg := 23) (by decide) rfl rfl, ?_⟩
  refine List.forall_mem_cons.mpr ⟨ok_iconst C (show decode cX10_price 19 = .ok (.iconst 1, 1) by decide +kernel) (by decide) rfl, ?_⟩
  refine List.forall_mem_cons.mpr ⟨ok_goto C (show decode cX10_price 20 = .ok (.goto 4, 3) by decide +kernel) (tg := 24) (by decide) rfl, ?_⟩
  refine List.forall_mem_cons.mpr ⟨ok_iconst C (show decode cX10_price 23 = .ok (.iconst 0, 1) by decide +kernel) (by decide) rfl, ?_⟩
  refine List.forall_mem_cons.mpr ⟨ok_istore_n C (show decode cX10_price 24 = .ok (.istore_n 3, 1) by decide +kernel) rfl (by decide) rfl, ?_⟩
  refine List.forall_mem_cons.mpr ⟨ok_iload_n C (show decode cX10_price 25 = .ok (.iload_n 3, 1) by decide +kernel) rfl rfl, ?_⟩
  refine List.forall_mem_cons.mpr ⟨ok_ifeq C (show decode cX10_price 26 = .ok (.ifCond .eq 16, 3) by decide +kernel) (tg := 42) (by decide) rfl rfl, ?_⟩
  refine List.forall_mem_cons.mpr ⟨ok_aload_n C (show decode cX10_price 29 = .ok (.aload_n 0, 1) by decide +kernel) rfl rfl, ?_⟩
  refine List.forall_mem_cons.mpr ⟨ok_getf C (wi_X10) rfl (by decide) kw_325 (show decode cX10_price 30 = .ok (.getfield 70, 3) by decide +kernel) rfl, ?_⟩
  refine List.forall_mem_cons.mpr ⟨ok_iload_n C (show decode cX10_price 33 = .ok (.iload_n 1, 1) by decide +kernel) rfl rfl, ?_⟩
  refine List.forall_mem_cons.mpr ⟨ok_iload_n C (show decode cX10_price 34 = .ok (.iload_n 2, 1) by decide +kernel) rfl rfl, ?_⟩
  refine List.forall_mem_cons.mpr ⟨ok_callS C h_X10_slotOf ⟨rfl, rfl⟩ kw_532 kw_600 kw_531 kw_1 ds_X10_slotOf ⟨by decide, by decide⟩ (show decode cX10_price 35 = .ok (.invokestatic 159, 3) by decide +kernel) rfl, ?_⟩
  refine List.forall_mem_cons.mpr ⟨ok_iaload C (show decode cX10_price 38 = .ok (.iaload, 1) by decide +kernel) rfl, ?_⟩
  refine List.forall_mem_cons.mpr ⟨ok_goto C (show decode cX10_price 39 = .ok (.goto 4, 3) by decide +kernel) (tg := 43) (by decide) rfl, ?_⟩
  refine List.forall_mem_cons.mpr ⟨ok_iconst C (show decode cX10_price 42 = .ok (.iconst (-1), 1) by decide +kernel) (by decide) rfl, ?_⟩
  refine List.forall_mem_cons.mpr ⟨ok_ret C rfl (show decode cX10_price 43 = .ok (.ireturn, 1) by decide +kernel), ?_⟩
  exact fun _ h => absurd h List.not_mem_nil
def L_X10_drawDeed (f_X0_drawOf : List Value → ab_H → Option ab_O) (f_X10_slotOf : List Value → ab_H → Option ab_O) (f_X6_attempt : List Value → ab_H → Option ab_O) : List (Nat × ab_A) := [
  (0, ab_nx 1 (ab_aload 0)),
  (1, ab_nx 4 (ab_getf 10 8)),
  (4, ab_nx 6 (ab_lit (.int 6))),
  (6, ab_nx 9 (ab_callV 2 0 f_X0_drawOf 0 0 0 0)),
  (9, ab_nx 10 (ab_istore 2)),
  (10, ab_nx 11 (ab_iload 2)),
  (11, ab_nx 12 (ab_lit (.int 2))),
  (12, ab_icmp 15 16 (fun x y => decide (x ≤ y))),
  (15, ab_vret 0 0),
  (16, ab_nx 17 (ab_aload 0)),
  (17, ab_nx 20 (ab_getf 10 8)),
  (20, ab_nx 21 (ab_aload 0)),
  (21, ab_nx 24 (ab_getf 10 13)),
  (24, ab_nx 27 (ab_getf 7 8)),
  (27, ab_nx 30 (ab_callV 2 0 f_X0_drawOf 0 0 0 0)),
  (30, ab_nx 31 (ab_istore 3)),
  (31, ab_nx 32 (ab_aload 0)),
  (32, ab_nx 35 (ab_getf 10 8)),
  (35, ab_nx 36 (ab_lit (.int 2))),
  (36, ab_nx 39 (ab_callV 2 0 f_X0_drawOf 0 0 0 0)),
  (39, ab_nx 41 (ab_istore 4)),
  (41, ab_nx 42 (ab_aload 0)),
  (42, ab_nx 45 (ab_getf 10 8)),
  (45, ab_nx 47 (ab_lit (.int 20))),
  (47, ab_nx 50 (ab_callV 2 0 f_X0_drawOf 0 0 0 0)),
  (50, ab_nx 51 (ab_lit (.int 1))),
  (51, ab_nx 52 (ab_bin (fun x y => x + y))),
  (52, ab_nx 54 (ab_istore 5)),
  (54, ab_nx 55 (ab_aload 1)),
  (55, ab_nx 56 (ab_iload 2)),
  (56, ab_nx 57 (ab_iload 3)),
  (57, ab_nx 59 (ab_iload 4)),
  (59, ab_nx 62 (ab_call 2 f_X10_slotOf 0 0 0 0)),
  (62, ab_nx 64 (ab_iload 5)),
  (64, ab_nx 67 (ab_callV 4 6 f_X6_attempt 0 0 0 0)),
  (67, ab_nx 68 ab_pop),
  (68, ab_vret 0 0)]
set_option maxRecDepth 100000 in
set_option maxHeartbeats 4000000 in
theorem M_X10_drawDeed {l : Launch} {b : ab_B} {D : va_G} {cA : Nat → ClassId} {f_X0_drawOf : List Value → ab_H → Option ab_O} (h_X0_drawOf : ab_M l b D ab_cl cA (ab_E0 b) yX0_drawOf (Cond.code yX0_drawOf cX0_drawOf 2 (some .int) :: ab_G) ({ frames := 1, cells := 0, slots := 0, locals := 100 } : Room) f_X0_drawOf) {f_X10_slotOf : List Value → ab_H → Option ab_O} (h_X10_slotOf : ab_M l b D ab_cl cA (ab_E0 b) yX10_slotOf (Cond.code yX10_slotOf cX10_slotOf 2 (some .int) :: ab_G) ({ frames := 1, cells := 0, slots := 0, locals := 100 } : Room) f_X10_slotOf) {f_X6_attempt : List Value → ab_H → Option ab_O} (h_X6_attempt : ab_M l b D ab_cl cA (ab_E0 b) yX6_attempt (Cond.code yX6_attempt cX6_attempt 5 (some .int) :: ab_G) ({ frames := 3, cells := 0, slots := 0, locals := 300 } : Room) f_X6_attempt) : ab_M l b D ab_cl cA (ab_E0 b) yX10_drawDeed (Cond.code yX10_drawDeed cX10_drawDeed 6 none :: ab_G) ({ frames := 4, cells := 0, slots := 0, locals := 400 } : Room) (ab_X (ab_T (L_X10_drawDeed f_X0_drawOf f_X10_slotOf f_X6_attempt)) 6) := by
  refine ab_meth (ret := none) (L_X10_drawDeed f_X0_drawOf f_X10_slotOf f_X6_attempt) (by decide) rfl fun p e R s m args below meth c o C => ?_
  unfold L_X10_drawDeed
  refine List.forall_mem_cons.mpr ⟨ok_aload_n C (show decode cX10_drawDeed 0 = .ok (.aload_n 0, 1) by decide +kernel) rfl rfl, ?_⟩
  refine List.forall_mem_cons.mpr ⟨ok_getf C (wi_X10) rfl (by decide) kw_323 (show decode cX10_drawDeed 1 = .ok (.getfield 60, 3) by decide +kernel) rfl, ?_⟩
  refine List.forall_mem_cons.mpr ⟨ok_bipush C (show decode cX10_drawDeed 4 = .ok (.bipush 6, 2) by decide +kernel) (by decide) rfl, ?_⟩
  refine List.forall_mem_cons.mpr ⟨ok_callV C h_X0_drawOf ⟨rfl, rfl⟩ rfl kw_890 kw_887 kw_888 kw_889 kw_8 rfl ds_X0_drawOf ⟨by decide, by decide⟩ (show decode cX10_drawDeed 6 = .ok (.invokevirtual 335, 3) by decide +kernel) rfl, ?_⟩
  refine List.forall_mem_cons.mpr ⟨ok_istore_n C (show decode cX10_drawDeed 9 = .ok (.istore_n 2, 1) by decide +kernel) rfl (by decide) rfl, ?_⟩
  refine List.forall_mem_cons.mpr ⟨ok_iload_n C (show decode cX10_drawDeed 10 = .ok (.iload_n 2, 1) by decide +kernel) rfl rfl, ?_⟩
  refine List.forall_mem_cons.mpr ⟨ok_iconst C (show decode cX10_drawDeed 11 = .ok (.iconst 2, 1) by decide +kernel) (by decide) rfl, ?_⟩
  refine List.forall_mem_cons.mpr ⟨ok_icmple C (show decode cX10_drawDeed 12 = .ok (.if_icmp .le 4, 3) by decide +kernel) (tg := 16) (by decide) rfl rfl, ?_⟩
  refine List.forall_mem_cons.mpr ⟨ok_vret C rfl (show decode cX10_drawDeed 15 = .ok (.return_, 1) by decide +kernel), ?_⟩
  refine List.forall_mem_cons.mpr ⟨ok_aload_n C (show decode cX10_drawDeed 16 = .ok (.aload_n 0, 1) by decide +kernel) rfl rfl, ?_⟩
  refine List.forall_mem_cons.mpr ⟨ok_getf C (wi_X10) rfl (by decide) kw_323 (show decode cX10_drawDeed 17 = .ok (.getfield 60, 3) by decide +kernel) rfl, ?_⟩
  refine List.forall_mem_cons.mpr ⟨ok_aload_n C (show decode cX10_drawDeed 20 = .ok (.aload_n 0, 1) by decide +kernel) rfl rfl, ?_⟩
  refine List.forall_mem_cons.mpr ⟨ok_getf C (wi_X10) rfl (by decide) kw_328 (show decode cX10_drawDeed 21 = .ok (.getfield 83, 3) by decide +kernel) rfl, ?_⟩
  refine List.forall_mem_cons.mpr ⟨ok_getf C (wi_X7) rfl (by decide) kw_250 (show decode cX10_drawDeed 24 = .ok (.getfield 136, 3) by decide +kernel) rfl, ?_⟩
  refine List.forall_mem_cons.mpr ⟨ok_callV C h_X0_drawOf ⟨rfl, rfl⟩ rfl kw_890 kw_887 kw_888 kw_889 kw_8 rfl ds_X0_drawOf ⟨by decide, by decide⟩ (show decode cX10_drawDeed 27 = .ok (.invokevirtual 335, 3) by decide +kernel) rfl, ?_⟩
  refine List.forall_mem_cons.mpr ⟨ok_istore_n C (show decode cX10_drawDeed 30 = .ok (.istore_n 3, 1) by decide +kernel) rfl (by decide) rfl, ?_⟩
  refine List.forall_mem_cons.mpr ⟨ok_aload_n C (show decode cX10_drawDeed 31 = .ok (.aload_n 0, 1) by decide +kernel) rfl rfl, ?_⟩
  refine List.forall_mem_cons.mpr ⟨ok_getf C (wi_X10) rfl (by decide) kw_323 (show decode cX10_drawDeed 32 = .ok (.getfield 60, 3) by decide +kernel) rfl, ?_⟩
  refine List.forall_mem_cons.mpr ⟨ok_iconst C (show decode cX10_drawDeed 35 = .ok (.iconst 2, 1) by decide +kernel) (by decide) rfl, ?_⟩
  refine List.forall_mem_cons.mpr ⟨ok_callV C h_X0_drawOf ⟨rfl, rfl⟩ rfl kw_890 kw_887 kw_888 kw_889 kw_8 rfl ds_X0_drawOf ⟨by decide, by decide⟩ (show decode cX10_drawDeed 36 = .ok (.invokevirtual 335, 3) by decide +kernel) rfl, ?_⟩
  refine List.forall_mem_cons.mpr ⟨ok_istore C (show decode cX10_drawDeed 39 = .ok (.istore 4, 2) by decide +kernel) (by decide) rfl, ?_⟩
  refine List.forall_mem_cons.mpr ⟨ok_aload_n C (show decode cX10_drawDeed 41 = .ok (.aload_n 0, 1) by decide +kernel) rfl rfl, ?_⟩
  refine List.forall_mem_cons.mpr ⟨ok_getf C (wi_X10) rfl (by decide) kw_323 (show decode cX10_drawDeed 42 = .ok (.getfield 60, 3) by decide +kernel) rfl, ?_⟩
  refine List.forall_mem_cons.mpr ⟨ok_bipush C (show decode cX10_drawDeed 45 = .ok (.bipush 20, 2) by decide +kernel) (by decide) rfl, ?_⟩
  refine List.forall_mem_cons.mpr ⟨ok_callV C h_X0_drawOf ⟨rfl, rfl⟩ rfl kw_890 kw_887 kw_888 kw_889 kw_8 rfl ds_X0_drawOf ⟨by decide, by decide⟩ (show decode cX10_drawDeed 47 = .ok (.invokevirtual 335, 3) by decide +kernel) rfl, ?_⟩
  refine List.forall_mem_cons.mpr ⟨ok_iconst C (show decode cX10_drawDeed 50 = .ok (.iconst 1, 1) by decide +kernel) (by decide) rfl, ?_⟩
  refine List.forall_mem_cons.mpr ⟨ok_iadd C (show decode cX10_drawDeed 51 = .ok (.iadd, 1) by decide +kernel) rfl, ?_⟩
  refine List.forall_mem_cons.mpr ⟨ok_istore C (show decode cX10_drawDeed 52 = .ok (.istore 5, 2) by decide +kernel) (by decide) rfl, ?_⟩
  refine List.forall_mem_cons.mpr ⟨ok_aload_n C (show decode cX10_drawDeed 54 = .ok (.aload_n 1, 1) by decide +kernel) rfl rfl, ?_⟩
  refine List.forall_mem_cons.mpr ⟨ok_iload_n C (show decode cX10_drawDeed 55 = .ok (.iload_n 2, 1) by decide +kernel) rfl rfl, ?_⟩
  refine List.forall_mem_cons.mpr ⟨ok_iload_n C (show decode cX10_drawDeed 56 = .ok (.iload_n 3, 1) by decide +kernel) rfl rfl, ?_⟩
  refine List.forall_mem_cons.mpr ⟨ok_iload C (show decode cX10_drawDeed 57 = .ok (.iload 4, 2) by decide +kernel) rfl, ?_⟩
  refine List.forall_mem_cons.mpr ⟨ok_callS C h_X10_slotOf ⟨rfl, rfl⟩ kw_532 kw_600 kw_531 kw_1 ds_X10_slotOf ⟨by decide, by decide⟩ (show decode cX10_drawDeed 59 = .ok (.invokestatic 159, 3) by decide +kernel) rfl, ?_⟩
  refine List.forall_mem_cons.mpr ⟨ok_iload C (show decode cX10_drawDeed 62 = .ok (.iload 5, 2) by decide +kernel) rfl, ?_⟩
  refine List.forall_mem_cons.mpr ⟨ok_callV C h_X6_attempt ⟨rfl, rfl⟩ rfl kw_895 kw_892 kw_893 kw_894 kw_6 rfl ds_X6_attempt ⟨by decide, by decide⟩ (show decode cX10_drawDeed 64 = .ok (.invokevirtual 338, 3) by decide +kernel) rfl, ?_⟩
  refine List.forall_mem_cons.mpr ⟨ok_pop C (show decode cX10_drawDeed 67 = .ok (.pop, 1) by decide +kernel) rfl, ?_⟩
  refine List.forall_mem_cons.mpr ⟨ok_vret C rfl (show decode cX10_drawDeed 68 = .ok (.return_, 1) by decide +kernel), ?_⟩
  exact fun _ h => absurd h List.not_mem_nil
