-- 39.m19.lean.txt
section
def L_X11_meet (f_X11_isMan : List Value → ab_H → Option ab_O) (f_X11_isDead : List Value → ab_H → Option ab_O) (f_X11_tries : List Value → ab_H → Option ab_O) (f_X11_areUnlike : List Value → ab_H → Option ab_O) (f_X11_goesOn : List Value → ab_H → Option ab_O) (f_X11_back : List Value → ab_H → Option ab_O) : List (Nat × ab_A) := [
  (0, ab_nx 1 (ab_aload 0)),
  (1, ab_nx 2 (ab_lit (.int 0))),
  (2, ab_nx 5 (ab_putf 11 0 0)),
  (5, ab_nx 6 (ab_aload 0)),
  (6, ab_nx 7 (ab_iload 1)),
  (7, ab_nx 10 (ab_callV 2 11 f_X11_isMan 0 0 0 0)),
  (10, ab_if 13 42 (fun x => decide (x = 0))),
  (13, ab_nx 14 (ab_aload 0)),
  (14, ab_nx 15 (ab_iload 2)),
  (15, ab_nx 18 (ab_callV 2 11 f_X11_isMan 0 0 0 0)),
  (18, ab_if 21 42 (fun x => decide (x = 0))),
  (21, ab_nx 22 (ab_iload 1)),
  (22, ab_nx 23 (ab_iload 2)),
  (23, ab_icmp 26 42 (fun x y => decide (x = y))),
  (26, ab_nx 27 (ab_aload 0)),
  (27, ab_nx 28 (ab_iload 1)),
  (28, ab_nx 31 (ab_callV 2 11 f_X11_isDead 0 0 0 0)),
  (31, ab_if 34 42 (fun x => !decide (x = 0))),
  (34, ab_nx 35 (ab_aload 0)),
  (35, ab_nx 36 (ab_iload 2)),
  (36, ab_nx 39 (ab_callV 2 11 f_X11_isDead 0 0 0 0)),
  (39, ab_if 42 44 (fun x => decide (x = 0))),
  (42, ab_nx 43 (ab_lit (.int (-1)))),
  (43, ab_ret 0 0),
  (44, ab_nx 45 (ab_aload 0)),
  (45, ab_nx 48 (ab_callV 1 11 f_X11_tries 0 0 0 0)),
  (48, ab_nx 49 (ab_lit (.int 0))),
  (49, ab_nx 50 (ab_istore 3)),
  (50, ab_nx 51 (ab_lit (.int 1))),
  (51, ab_nx 53 (ab_istore 4)),
  (53, ab_nx 55 (ab_iload 4)),
  (55, ab_if 58 95 (fun x => decide (x = 0))),
  (58, ab_nx 59 (ab_aload 0)),
  (59, ab_nx 60 (ab_iload 1)),
  (60, ab_nx 61 (ab_iload 2)),
  (61, ab_nx 64 (ab_callV 3 11 f_X11_areUnlike 0 0 0 0)),
  (64, ab_if 67 95 (fun x => decide (x = 0))),
  (67, ab_nx 68 (ab_iload 3)),
  (68, ab_nx 70 (ab_lit (.int 100))),
  (70, ab_icmp 73 86 (fun x y => decide (y ≤ x))),
  (73, ab_nx 74 (ab_aload 0)),
  (74, ab_nx 75 (ab_lit (.int 1))),
  (75, ab_nx 78 (ab_callV 2 11 f_X11_goesOn 0 0 0 0)),
  (78, ab_nx 79 (ab_lit (.int 1))),
  (79, ab_icmp 82 86 (fun x y => !decide (x = y))),
  (82, ab_nx 83 (ab_lit (.int 1))),
  (83, ab_goto 87),
  (86, ab_nx 87 (ab_lit (.int 0))),
  (87, ab_nx 89 (ab_istore 4)),
  (89, ab_nx 92 (ab_iinc 3 1)),
  (92, ab_goto 53),
  (95, ab_nx 96 (ab_aload 0)),
  (96, ab_nx 99 (ab_callV 1 11 f_X11_back 0 0 0 0)),
  (99, ab_nx 101 (ab_iload 4)),
  (101, ab_if 104 108 (fun x => decide (x = 0))),
  (104, ab_nx 105 (ab_iload 3)),
  (105, ab_goto 109),
  (108, ab_nx 109 (ab_lit (.int (-1)))),
  (109, ab_ret 0 0)]
set_option maxRecDepth 100000 in
theorem dq39_0 : ([(0, .aload_n 0, 1), (1, .iconst 0, 1), (2, .putfield 1, 3), (5, .aload_n 0, 1), (6, .iload_n 1, 1), (7, .invokevirtual 266, 3), (10, .ifCond .eq 32, 3), (13, .aload_n 0, 1), (14, .iload_n 2, 1), (15, .invokevirtual 266, 3), (18, .ifCond .eq 24, 3), (21, .iload_n 1, 1), (22, .iload_n 2, 1), (23, .if_icmp .eq 19, 3), (26, .aload_n 0, 1), (27, .iload_n 1, 1)] : List (Nat × Instr × Nat)).all (fun q => decide (decode cX11_meet q.1 = .ok q.2)) = true := by decide +kernel
set_option maxRecDepth 100000 in
theorem dq39_1 : ([(28, .invokevirtual 257, 3), (31, .ifCond .ne 11, 3), (34, .aload_n 0, 1), (35, .iload_n 2, 1), (36, .invokevirtual 257, 3), (39, .ifCond .eq 5, 3), (42, .iconst (-1), 1), (43, .ireturn, 1), (44, .aload_n 0, 1), (45, .invokevirtual 317, 3), (48, .iconst 0, 1), (49, .istore_n 3, 1), (50, .iconst 1, 1), (51, .istore 4, 2), (53, .iload 4, 2), (55, .ifCond .eq 40, 3)] : List (Nat × Instr × Nat)).all (fun q => decide (decode cX11_meet q.1 = .ok q.2)) = true := by decide +kernel
set_option maxRecDepth 100000 in
theorem dq39_2 : ([(58, .aload_n 0, 1), (59, .iload_n 1, 1), (60, .iload_n 2, 1), (61, .invokevirtual 260, 3), (64, .ifCond .eq 31, 3), (67, .iload_n 3, 1), (68, .bipush 100, 2), (70, .if_icmp .ge 16, 3), (73, .aload_n 0, 1), (74, .iconst 1, 1), (75, .invokevirtual 314, 3), (78, .iconst 1, 1), (79, .if_icmp .ne 7, 3), (82, .iconst 1, 1), (83, .goto 4, 3), (86, .iconst 0, 1)] : List (Nat × Instr × Nat)).all (fun q => decide (decode cX11_meet q.1 = .ok q.2)) = true := by decide +kernel
set_option maxRecDepth 100000 in
theorem dq39_3 : ([(87, .istore 4, 2), (89, .iinc 3 1, 3), (92, .goto (-39), 3), (95, .aload_n 0, 1), (96, .invokevirtual 320, 3), (99, .iload 4, 2), (101, .ifCond .eq 7, 3), (104, .iload_n 3, 1), (105, .goto 4, 3), (108, .iconst (-1), 1), (109, .ireturn, 1)] : List (Nat × Instr × Nat)).all (fun q => decide (decode cX11_meet q.1 = .ok q.2)) = true := by decide +kernel
set_option maxRecDepth 100000 in
set_option maxHeartbeats 4000000 in
theorem M_X11_meet {l : Launch} {b : ab_B} {D : va_G} {cA : Nat → ClassId} {f_X11_isMan : List Value → ab_H → Option ab_O} (h_X11_isMan : ab_M l b D ab_cl cA (ab_E0 b) yX11_isMan (Cond.code yX11_isMan cX11_isMan 2 (some .boolean) :: ab_G) ({ frames := 2, cells := 0, slots := 0, locals := 200 } : Room) f_X11_isMan) {f_X11_isDead : List Value → ab_H → Option ab_O} (h_X11_isDead : ab_M l b D ab_cl cA (ab_E0 b) yX11_isDead (Cond.code yX11_isDead cX11_isDead 2 (some .boolean) :: ab_G) ({ frames := 2, cells := 0, slots := 0, locals := 200 } : Room) f_X11_isDead) {f_X11_tries : List Value → ab_H → Option ab_O} (h_X11_tries : ab_M l b D ab_cl cA (ab_E0 b) yX11_tries (Cond.code yX11_tries cX11_tries 2 none :: ab_G) ({ frames := 1, cells := 0, slots := 0, locals := 100 } : Room) f_X11_tries) {f_X11_areUnlike : List Value → ab_H → Option ab_O} (h_X11_areUnlike : ab_M l b D ab_cl cA (ab_E0 b) yX11_areUnlike (Cond.code yX11_areUnlike cX11_areUnlike 3 (some .boolean) :: ab_G) ({ frames := 3, cells := 0, slots := 0, locals := 300 } : Room) f_X11_areUnlike) {f_X11_goesOn : List Value → ab_H → Option ab_O} (h_X11_goesOn : ab_M l b D ab_cl cA (ab_E0 b) yX11_goesOn (Cond.code yX11_goesOn cX11_goesOn 3 (some .int) :: ab_G) ({ frames := 8, cells := 0, slots := 0, locals := 800 } : Room) f_X11_goesOn) {f_X11_back : List Value → ab_H → Option ab_O} (h_X11_back : ab_M l b D ab_cl cA (ab_E0 b) yX11_back (Cond.code yX11_back cX11_back 2 none :: ab_G) ({ frames := 1, cells := 0, slots := 0, locals := 100 } : Room) f_X11_back) : ab_M l b D ab_cl cA (ab_E0 b) yX11_meet (Cond.code yX11_meet cX11_meet 5 (some .int) :: ab_G) ({ frames := 9, cells := 0, slots := 0, locals := 900 } : Room) (ab_X (ab_T (L_X11_meet f_X11_isMan f_X11_isDead f_X11_tries f_X11_areUnlike f_X11_goesOn f_X11_back)) 5) := by
  refine ab_meth (ret := (some .int)) (L_X11_meet f_X11_isMan f_X11_isDead f_X11_tries f_X11_areUnlike f_X11_goesOn f_X11_back) (by decide) rfl fun p e R s m args below meth c o C => ?_
  unfold L_X11_meet
  refine List.forall_mem_cons.mpr ⟨ok_aload_n C (show decode cX11_meet 0 = .ok (.aload_n 0, 1) from dk_at dq39_0 (i := 0) rfl) rfl rfl, ?_⟩
  refine List.forall_mem_cons.mpr ⟨ok_iconst C (show decode cX11_meet 1 = .ok (.iconst 0, 1) from dk_at dq39_0 (i := 1) rfl) (by decide) rfl, ?_⟩
  refine List.forall_mem_cons.mpr ⟨ok_putf C (wi_X11) tyX11 tyX11_ok nmX11 rfl (by decide) kw_1180 (Or.inl rfl) (Or.inl ⟨rfl, rfl⟩) (show decode cX11_meet 2 = .ok (.putfield 1, 3) from dk_at dq39_0 (i := 2) rfl) rfl, ?_⟩
  refine List.forall_mem_cons.mpr ⟨ok_aload_n C (show decode cX11_meet 5 = .ok (.aload_n 0, 1) from dk_at dq39_0 (i := 3) rfl) rfl rfl, ?_⟩
  refine List.forall_mem_cons.mpr ⟨ok_iload_n C (show decode cX11_meet 6 = .ok (.iload_n 1, 1) from dk_at dq39_0 (i := 4) rfl) rfl rfl, ?_⟩
  refine List.forall_mem_cons.mpr ⟨ok_callV C h_X11_isMan ⟨rfl, rfl⟩ rfl kw_1433 kw_1430 kw_1432 kp_69 kw_11 rfl ds_X11_isMan ⟨by decide, by decide⟩ (show decode cX11_meet 7 = .ok (.invokevirtual 266, 3) from dk_at dq39_0 (i := 5) rfl) rfl, ?_⟩
  refine List.forall_mem_cons.mpr ⟨ok_ifeq C (show decode cX11_meet 10 = .ok (.ifCond .eq 32, 3) from dk_at dq39_0 (i := 6) rfl) (tg := 42) (by decide) rfl rfl, ?_⟩
  refine List.forall_mem_cons.mpr ⟨ok_aload_n C (show decode cX11_meet 13 = .ok (.aload_n 0, 1) from dk_at dq39_0 (i := 7) rfl) rfl rfl, ?_⟩
  refine List.forall_mem_cons.mpr ⟨ok_iload_n C (show decode cX11_meet 14 = .ok (.iload_n 2, 1) from dk_at dq39_0 (i := 8) rfl) rfl rfl, ?_⟩
  refine List.forall_mem_cons.mpr ⟨ok_callV C h_X11_isMan ⟨rfl, rfl⟩ rfl kw_1433 kw_1430 kw_1432 kp_69 kw_11 rfl ds_X11_isMan ⟨by decide, by decide⟩ (show decode cX11_meet 15 = .ok (.invokevirtual 266, 3) from dk_at dq39_0 (i := 9) rfl) rfl, ?_⟩
  refine List.forall_mem_cons.mpr ⟨ok_ifeq C (show decode cX11_meet 18 = .ok (.ifCond .eq 24, 3) from dk_at dq39_0 (i := 10) rfl) (tg := 42) (by decide) rfl rfl, ?_⟩
  refine List.forall_mem_cons.mpr ⟨ok_iload_n C (show decode cX11_meet 21 = .ok (.iload_n 1, 1) from dk_at dq39_0 (i := 11) rfl) rfl rfl, ?_⟩
  refine List.forall_mem_cons.mpr ⟨ok_iload_n C (show decode cX11_meet 22 = .ok (.iload_n 2, 1) from dk_at dq39_0 (i := 12) rfl) rfl rfl, ?_⟩
  refine List.forall_mem_cons.mpr ⟨ok_icmpeq C (show decode cX11_meet 23 = .ok (.if_icmp .eq 19, 3) from dk_at dq39_0 (i := 13) rfl) (tg := 42) (by decide) rfl rfl, ?_⟩
  refine List.forall_mem_cons.mpr ⟨ok_aload_n C (show decode cX11_meet 26 = .ok (.aload_n 0, 1) from dk_at dq39_0 (i := 14) rfl) rfl rfl, ?_⟩
  refine List.forall_mem_cons.mpr ⟨ok_iload_n C (show decode cX11_meet 27 = .ok (.iload_n 1, 1) from dk_at dq39_0 (i := 15) rfl) rfl rfl, ?_⟩
  refine List.forall_mem_cons.mpr ⟨ok_callV C h_X11_isDead ⟨rfl, rfl⟩ rfl kw_1441 kw_1438 kw_1440 kp_71 kw_11 rfl ds_X11_isDead ⟨by decide, by decide⟩ (show decode cX11_meet 28 = .ok (.invokevirtual 257, 3) from dk_at dq39_1 (i := 0) rfl) rfl, ?_⟩
  refine List.forall_mem_cons.mpr ⟨ok_ifne C (show decode cX11_meet 31 = .ok (.ifCond .ne 11, 3) from dk_at dq39_1 (i := 1) rfl) (tg := 42) (by decide) rfl rfl, ?_⟩
  refine List.forall_mem_cons.mpr ⟨ok_aload_n C (show decode cX11_meet 34 = .ok (.aload_n 0, 1) from dk_at dq39_1 (i := 2) rfl) rfl rfl, ?_⟩
  refine List.forall_mem_cons.mpr ⟨ok_iload_n C (show decode cX11_meet 35 = .ok (.iload_n 2, 1) from dk_at dq39_1 (i := 3) rfl) rfl rfl, ?_⟩
  refine List.forall_mem_cons.mpr ⟨ok_callV C h_X11_isDead ⟨rfl, rfl⟩ rfl kw_1441 kw_1438 kw_1440 kp_71 kw_11 rfl ds_X11_isDead ⟨by decide, by decide⟩ (show decode cX11_meet 36 = .ok (.invokevirtual 257, 3) from dk_at dq39_1 (i := 4) rfl) rfl, ?_⟩
  refine List.forall_mem_cons.mpr ⟨ok_ifeq C (show decode cX11_meet 39 = .ok (.ifCond .eq 5, 3) from dk_at dq39_1 (i := 5) rfl) (tg := 44) (by decide) rfl rfl, ?_⟩
  refine List.forall_mem_cons.mpr ⟨ok_iconst C (show decode cX11_meet 42 = .ok (.iconst (-1), 1) from dk_at dq39_1 (i := 6) rfl) (by decide) rfl, ?_⟩
  refine List.forall_mem_cons.mpr ⟨ok_ret C rfl (show decode cX11_meet 43 = .ok (.ireturn, 1) from dk_at dq39_1 (i := 7) rfl), ?_⟩
  refine List.forall_mem_cons.mpr ⟨ok_aload_n C (show decode cX11_meet 44 = .ok (.aload_n 0, 1) from dk_at dq39_1 (i := 8) rfl) rfl rfl, ?_⟩
  refine List.forall_mem_cons.mpr ⟨ok_callV C h_X11_tries ⟨rfl, rfl⟩ rfl kw_1556 kw_1553 kw_1555 kp_86 kw_11 rfl ds_X11_tries ⟨by decide, by decide⟩ (show decode cX11_meet 45 = .ok (.invokevirtual 317, 3) from dk_at dq39_1 (i := 9) rfl) rfl, ?_⟩
  refine List.forall_mem_cons.mpr ⟨ok_iconst C (show decode cX11_meet 48 = .ok (.iconst 0, 1) from dk_at dq39_1 (i := 10) rfl) (by decide) rfl, ?_⟩
  refine List.forall_mem_cons.mpr ⟨ok_istore_n C (show decode cX11_meet 49 = .ok (.istore_n 3, 1) from dk_at dq39_1 (i := 11) rfl) rfl (by decide) rfl, ?_⟩
  refine List.forall_mem_cons.mpr ⟨ok_iconst C (show decode cX11_meet 50 = .ok (.iconst 1, 1) from dk_at dq39_1 (i := 12) rfl) (by decide) rfl, ?_⟩
  refine List.forall_mem_cons.mpr ⟨ok_istore C (show decode cX11_meet 51 = .ok (.istore 4, 2) from dk_at dq39_1 (i := 13) rfl) (by decide) rfl, ?_⟩
  refine List.forall_mem_cons.mpr ⟨ok_iload C (show decode cX11_meet 53 = .ok (.iload 4, 2) from dk_at dq39_1 (i := 14) rfl) rfl, ?_⟩
  refine List.forall_mem_cons.mpr ⟨ok_ifeq C (show decode cX11_meet 55 = .ok (.ifCond .eq 40, 3) from dk_at dq39_1 (i := 15) rfl) (tg := 95) (by decide) rfl rfl, ?_⟩
  refine List.forall_mem_cons.mpr ⟨ok_aload_n C (show decode cX11_meet 58 = .ok (.aload_n 0, 1) from dk_at dq39_2 (i := 0) rfl) rfl rfl, ?_⟩
  refine List.forall_mem_cons.mpr ⟨ok_iload_n C (show decode cX11_meet 59 = .ok (.iload_n 1, 1) from dk_at dq39_2 (i := 1) rfl) rfl rfl, ?_⟩
  refine List.forall_mem_cons.mpr ⟨ok_iload_n C (show decode cX11_meet 60 = .ok (.iload_n 2, 1) from dk_at dq39_2 (i := 2) rfl) rfl rfl, ?_⟩
  refine List.forall_mem_cons.mpr ⟨ok_callV C h_X11_areUnlike ⟨rfl, rfl⟩ rfl kw_1453 kw_1450 kw_1452 kp_74 kw_11 rfl ds_X11_areUnlike ⟨by decide, by decide⟩ (show decode cX11_meet 61 = .ok (.invokevirtual 260, 3) from dk_at dq39_2 (i := 3) rfl) rfl, ?_⟩
  refine List.forall_mem_cons.mpr ⟨ok_ifeq C (show decode cX11_meet 64 = .ok (.ifCond .eq 31, 3) from dk_at dq39_2 (i := 4) rfl) (tg := 95) (by decide) rfl rfl, ?_⟩
  refine List.forall_mem_cons.mpr ⟨ok_iload_n C (show decode cX11_meet 67 = .ok (.iload_n 3, 1) from dk_at dq39_2 (i := 5) rfl) rfl rfl, ?_⟩
  refine List.forall_mem_cons.mpr ⟨ok_bipush C (show decode cX11_meet 68 = .ok (.bipush 100, 2) from dk_at dq39_2 (i := 6) rfl) (by decide) rfl, ?_⟩
  refine List.forall_mem_cons.mpr ⟨ok_icmpge C (show decode cX11_meet 70 = .ok (.if_icmp .ge 16, 3) from dk_at dq39_2 (i := 7) rfl) (tg := 86) (by decide) rfl rfl, ?_⟩
  refine List.forall_mem_cons.mpr ⟨ok_aload_n C (show decode cX11_meet 73 = .ok (.aload_n 0, 1) from dk_at dq39_2 (i := 8) rfl) rfl rfl, ?_⟩
  refine List.forall_mem_cons.mpr ⟨ok_iconst C (show decode cX11_meet 74 = .ok (.iconst 1, 1) from dk_at dq39_2 (i := 9) rfl) (by decide) rfl, ?_⟩
  refine List.forall_mem_cons.mpr ⟨ok_callV C h_X11_goesOn ⟨rfl, rfl⟩ rfl kw_1509 kw_1506 kw_1508 kp_81 kw_11 rfl ds_X11_goesOn ⟨by decide, by decide⟩ (show decode cX11_meet 75 = .ok (.invokevirtual 314, 3) from dk_at dq39_2 (i := 10) rfl) rfl, ?_⟩
  refine List.forall_mem_cons.mpr ⟨ok_iconst C (show decode cX11_meet 78 = .ok (.iconst 1, 1) from dk_at dq39_2 (i := 11) rfl) (by decide) rfl, ?_⟩
  refine List.forall_mem_cons.mpr ⟨ok_icmpne C (show decode cX11_meet 79 = .ok (.if_icmp .ne 7, 3) from dk_at dq39_2 (i := 12) rfl) (tg := 86) (by decide) rfl rfl, ?_⟩
  refine List.forall_mem_cons.mpr ⟨ok_iconst C (show decode cX11_meet 82 = .ok (.iconst 1, 1) from dk_at dq39_2 (i := 13) rfl) (by decide) rfl, ?_⟩
  refine List.forall_mem_cons.mpr ⟨ok_goto C (show decode cX11_meet 83 = .ok (.goto 4, 3) from dk_at dq39_2 (i := 14) rfl) (tg := 87) (by decide) rfl, ?_⟩
  refine List.forall_mem_cons.mpr ⟨ok_iconst C (show decode cX11_meet 86 = .ok (.iconst 0, 1) from dk_at dq39_2 (i := 15) rfl) (by decide) rfl, ?_⟩
  refine List.forall_mem_cons.mpr ⟨ok_istore C (show decode cX11_meet 87 = .ok (.istore 4, 2) from dk_at dq39_3 (i := 0) rfl) (by decide) rfl, ?_⟩
  refine List.forall_mem_cons.mpr ⟨ok_iinc C (show decode cX11_meet 89 = .ok (.iinc 3 1, 3) from dk_at dq39_3 (i := 1) rfl) (by decide) (by decide) rfl, ?_⟩
  refine List.forall_mem_cons.mpr ⟨ok_goto C (show decode cX11_meet 92 = .ok (.goto (-39), 3) from dk_at dq39_3 (i := 2) rfl) (tg := 53) (by decide) rfl, ?_⟩
  refine List.forall_mem_cons.mpr ⟨ok_aload_n C (show decode cX11_meet 95 = .ok (.aload_n 0, 1) from dk_at dq39_3 (i := 3) rfl) rfl rfl, ?_⟩
  refine List.forall_mem_cons.mpr ⟨ok_callV C h_X11_back ⟨rfl, rfl⟩ rfl kw_1560 kw_1557 kw_1559 kp_87 kw_11 rfl ds_X11_back ⟨by decide, by decide⟩ (show decode cX11_meet 96 = .ok (.invokevirtual 320, 3) from dk_at dq39_3 (i := 4) rfl) rfl, ?_⟩
  refine List.forall_mem_cons.mpr ⟨ok_iload C (show decode cX11_meet 99 = .ok (.iload 4, 2) from dk_at dq39_3 (i := 5) rfl) rfl, ?_⟩
  refine List.forall_mem_cons.mpr ⟨ok_ifeq C (show decode cX11_meet 101 = .ok (.ifCond .eq 7, 3) from dk_at dq39_3 (i := 6) rfl) (tg := 108) (by decide) rfl rfl, ?_⟩
  refine List.forall_mem_cons.mpr ⟨ok_iload_n C (show decode cX11_meet 104 = .ok (.iload_n 3, 1) from dk_at dq39_3 (i := 7) rfl) rfl rfl, ?_⟩
  refine List.forall_mem_cons.mpr ⟨ok_goto C (show decode cX11_meet 105 = .ok (.goto 4, 3) from dk_at dq39_3 (i := 8) rfl) (tg := 109) (by decide) rfl, ?_⟩
  refine List.forall_mem_cons.mpr ⟨ok_iconst C (show decode cX11_meet 108 = .ok (.iconst (-1), 1) from dk_at dq39_3 (i := 9) rfl) (by decide) rfl, ?_⟩
  refine List.forall_mem_cons.mpr ⟨ok_ret C rfl (show decode cX11_meet 109 = .ok (.ireturn, 1) from dk_at dq39_3 (i := 10) rfl), ?_⟩
  exact fun _ h => absurd h List.not_mem_nil
def L_X11_loads (f_X11_isIn : List Value → ab_H → Option ab_O) (f_X11_tries : List Value → ab_H → Option ab_O) (f_X11_goesOn : List Value → ab_H → Option ab_O) (f_X11_back : List Value → ab_H → Option ab_O) : List (Nat × ab_A) := [
  (0, ab_nx 1 (ab_aload 0)),
  (1, ab_nx 2 (ab_lit (.int 0))),
  (2, ab_nx 5 (ab_putf 11 0 0)),
  (5, ab_nx 6 (ab_iload 1)),
  (6, ab_nx 7 (ab_lit (.int 1))),
  (7, ab_nx 9 (ab_lit (.int 60))),
  (9, ab_nx 12 (ab_call 3 f_X11_isIn 0 0 0 0)),
  (12, ab_if 15 17 (fun x => !decide (x = 0))),
  (15, ab_nx 16 (ab_lit (.int (-1)))),
  (16, ab_ret 0 0),
  (17, ab_nx 18 (ab_aload 0)),
  (18, ab_nx 21 (ab_callV 1 11 f_X11_tries 0 0 0 0)),
  (21, ab_nx 22 (ab_aload 0)),
  (22, ab_nx 25 (ab_getf 11 6)),
  (25, ab_nx 27 (ab_lit (.int 122))),
  (27, ab_nx 28 (ab_ald 1)),
  (28, ab_nx 29 (ab_istore 2)),
  (29, ab_nx 30 (ab_aload 0)),
  (30, ab_nx 31 (ab_iload 1)),
  (31, ab_nx 34 (ab_callV 2 11 f_X11_goesOn 0 0 0 0)),
  (34, ab_nx 35 ab_pop),
  (35, ab_nx 36 (ab_aload 0)),
  (36, ab_nx 39 (ab_getf 11 6)),
  (39, ab_nx 41 (ab_lit (.int 122))),
  (41, ab_nx 42 (ab_ald 1)),
  (42, ab_nx 43 (ab_iload 2)),
  (43, ab_nx 44 (ab_bin (fun x y => x - y))),
  (44, ab_nx 45 (ab_istore 3)),
  (45, ab_nx 46 (ab_aload 0)),
  (46, ab_nx 49 (ab_callV 1 11 f_X11_back 0 0 0 0)),
  (49, ab_nx 50 (ab_iload 3)),
  (50, ab_ret 0 0)]
set_option maxRecDepth 100000 in
theorem dq39_4 : ([(0, .aload_n 0, 1), (1, .iconst 0, 1), (2, .putfield 1, 3), (5, .iload_n 1, 1), (6, .iconst 1, 1), (7, .bipush 60, 2), (9, .invokestatic 179, 3), (12, .ifCond .ne 5, 3), (15, .iconst (-1), 1), (16, .ireturn, 1), (17, .aload_n 0, 1), (18, .invokevirtual 317, 3), (21, .aload_n 0, 1), (22, .getfield 33, 3), (25, .bipush 122, 2), (27, .iaload, 1)] : List (Nat × Instr × Nat)).all (fun q => decide (decode cX11_loads q.1 = .ok q.2)) = true := by decide +kernel
set_option maxRecDepth 100000 in
theorem dq39_5 : ([(28, .istore_n 2, 1), (29, .aload_n 0, 1), (30, .iload_n 1, 1), (31, .invokevirtual 314, 3), (34, .pop, 1), (35, .aload_n 0, 1), (36, .getfield 33, 3), (39, .bipush 122, 2), (41, .iaload, 1), (42, .iload_n 2, 1), (43, .isub, 1), (44, .istore_n 3, 1), (45, .aload_n 0, 1), (46, .invokevirtual 320, 3), (49, .iload_n 3, 1), (50, .ireturn, 1)] : List (Nat × Instr × Nat)).all (fun q => decide (decode cX11_loads q.1 = .ok q.2)) = true := by decide +kernel
set_option maxRecDepth 100000 in
set_option maxHeartbeats 4000000 in
theorem M_X11_loads {l : Launch} {b : ab_B} {D : va_G} {cA : Nat → ClassId} {f_X11_isIn : List Value → ab_H → Option ab_O} (h_X11_isIn : ab_M l b D ab_cl cA (ab_E0 b) yX11_isIn (Cond.code yX11_isIn cX11_isIn 3 (some .boolean) :: ab_G) ({ frames := 1, cells := 0, slots := 0, locals := 100 } : Room) f_X11_isIn) {f_X11_tries : List Value → ab_H → Option ab_O} (h_X11_tries : ab_M l b D ab_cl cA (ab_E0 b) yX11_tries (Cond.code yX11_tries cX11_tries 2 none :: ab_G) ({ frames := 1, cells := 0, slots := 0, locals := 100 } : Room) f_X11_tries) {f_X11_goesOn : List Value → ab_H → Option ab_O} (h_X11_goesOn : ab_M l b D ab_cl cA (ab_E0 b) yX11_goesOn (Cond.code yX11_goesOn cX11_goesOn 3 (some .int) :: ab_G) ({ frames := 8, cells := 0, slots := 0, locals := 800 } : Room) f_X11_goesOn) {f_X11_back : List Value → ab_H → Option ab_O} (h_X11_back : ab_M l b D ab_cl cA (ab_E0 b) yX11_back (Cond.code yX11_back cX11_back 2 none :: ab_G) ({ frames := 1, cells := 0, slots := 0, locals := 100 } : Room) f_X11_back) : ab_M l b D ab_cl cA (ab_E0 b) yX11_loads (Cond.code yX11_loads cX11_loads 4 (some .int) :: ab_G) ({ frames := 9, cells := 0, slots := 0, locals := 900 } : Room) (ab_X (ab_T (L_X11_loads f_X11_isIn f_X11_tries f_X11_goesOn f_X11_back)) 4) := by
  refine ab_meth (ret := (some .int)) (L_X11_loads f_X11_isIn f_X11_tries f_X11_goesOn f_X11_back) (by decide) rfl fun p e R s m args below meth c o C => ?_
  unfold L_X11_loads
  refine List.forall_mem_cons.mpr ⟨ok_aload_n C (show decode cX11_loads 0 = .ok (.aload_n 0, 1) from dk_at dq39_4 (i := 0) rfl) rfl rfl, ?_⟩
  refine List.forall_mem_cons.mpr ⟨ok_iconst C (show decode cX11_loads 1 = .ok (.iconst 0, 1) from dk_at dq39_4 (i := 1) rfl) (by decide) rfl, ?_⟩
  refine List.forall_mem_cons.mpr ⟨ok_putf C (wi_X11) tyX11 tyX11_ok nmX11 rfl (by decide) kw_1180 (Or.inl rfl) (Or.inl ⟨rfl, rfl⟩) (show decode cX11_loads 2 = .ok (.putfield 1, 3) from dk_at dq39_4 (i := 2) rfl) rfl, ?_⟩
  refine List.forall_mem_cons.mpr ⟨ok_iload_n C (show decode cX11_loads 5 = .ok (.iload_n 1, 1) from dk_at dq39_4 (i := 3) rfl) rfl rfl, ?_⟩
  refine List.forall_mem_cons.mpr ⟨ok_iconst C (show decode cX11_loads 6 = .ok (.iconst 1, 1) from dk_at dq39_4 (i := 4) rfl) (by decide) rfl, ?_⟩
  refine List.forall_mem_cons.mpr ⟨ok_bipush C (show decode cX11_loads 7 = .ok (.bipush 60, 2) from dk_at dq39_4 (i := 5) rfl) (by decide) rfl, ?_⟩
  refine List.forall_mem_cons.mpr ⟨ok_callS C h_X11_isIn ⟨rfl, rfl⟩ kw_1355 kw_1353 kw_1354 kw_11 ds_X11_isIn ⟨by decide, by decide⟩ (show decode cX11_loads 9 = .ok (.invokestatic 179, 3) from dk_at dq39_4 (i := 6) rfl) rfl, ?_⟩
  refine List.forall_mem_cons.mpr ⟨ok_ifne C (show decode cX11_loads 12 = .ok (.ifCond .ne 5, 3) from dk_at dq39_4 (i := 7) rfl) (tg := 17) (by decide) rfl rfl, ?_⟩
  refine List.forall_mem_cons.mpr ⟨ok_iconst C (show decode cX11_loads 15 = .ok (.iconst (-1), 1) from dk_at dq39_4 (i := 8) rfl) (by decide) rfl, ?_⟩
  refine List.forall_mem_cons.mpr ⟨ok_ret C rfl (show decode cX11_loads 16 = .ok (.ireturn, 1) from dk_at dq39_4 (i := 9) rfl), ?_⟩
  refine List.forall_mem_cons.mpr ⟨ok_aload_n C (show decode cX11_loads 17 = .ok (.aload_n 0, 1) from dk_at dq39_4 (i := 10) rfl) rfl rfl, ?_⟩
  refine List.forall_mem_cons.mpr ⟨ok_callV C h_X11_tries ⟨rfl, rfl⟩ rfl kw_1556 kw_1553 kw_1555 kp_86 kw_11 rfl ds_X11_tries ⟨by decide, by decide⟩ (show decode cX11_loads 18 = .ok (.invokevirtual 317, 3) from dk_at dq39_4 (i := 11) rfl) rfl, ?_⟩
  refine List.forall_mem_cons.mpr ⟨ok_aload_n C (show decode cX11_loads 21 = .ok (.aload_n 0, 1) from dk_at dq39_4 (i := 12) rfl) rfl rfl, ?_⟩
  refine List.forall_mem_cons.mpr ⟨ok_getf C (wi_X11) rfl (by decide) kw_1186 (show decode cX11_loads 22 = .ok (.getfield 33, 3) from dk_at dq39_4 (i := 13) rfl) rfl, ?_⟩
  refine List.forall_mem_cons.mpr ⟨ok_bipush C (show decode cX11_loads 25 = .ok (.bipush 122, 2) from dk_at dq39_4 (i := 14) rfl) (by decide) rfl, ?_⟩
  refine List.forall_mem_cons.mpr ⟨ok_iaload C (show decode cX11_loads 27 = .ok (.iaload, 1) from dk_at dq39_4 (i := 15) rfl) rfl, ?_⟩
  refine List.forall_mem_cons.mpr ⟨ok_istore_n C (show decode cX11_loads 28 = .ok (.istore_n 2, 1) from dk_at dq39_5 (i := 0) rfl) rfl (by decide) rfl, ?_⟩
  refine List.forall_mem_cons.mpr ⟨ok_aload_n C (show decode cX11_loads 29 = .ok (.aload_n 0, 1) from dk_at dq39_5 (i := 1) rfl) rfl rfl, ?_⟩
  refine List.forall_mem_cons.mpr ⟨ok_iload_n C (show decode cX11_loads 30 = .ok (.iload_n 1, 1) from dk_at dq39_5 (i := 2) rfl) rfl rfl, ?_⟩
  refine List.forall_mem_cons.mpr ⟨ok_callV C h_X11_goesOn ⟨rfl, rfl⟩ rfl kw_1509 kw_1506 kw_1508 kp_81 kw_11 rfl ds_X11_goesOn ⟨by decide, by decide⟩ (show decode cX11_loads 31 = .ok (.invokevirtual 314, 3) from dk_at dq39_5 (i := 3) rfl) rfl, ?_⟩
  refine List.forall_mem_cons.mpr ⟨ok_pop C (show decode cX11_loads 34 = .ok (.pop, 1) from dk_at dq39_5 (i := 4) rfl) rfl, ?_⟩
  refine List.forall_mem_cons.mpr ⟨ok_aload_n C (show decode cX11_loads 35 = .ok (.aload_n 0, 1) from dk_at dq39_5 (i := 5) rfl) rfl rfl, ?_⟩
  refine List.forall_mem_cons.mpr ⟨ok_getf C (wi_X11) rfl (by decide) kw_1186 (show decode cX11_loads 36 = .ok (.getfield 33, 3) from dk_at dq39_5 (i := 6) rfl) rfl, ?_⟩
  refine List.forall_mem_cons.mpr ⟨ok_bipush C (show decode cX11_loads 39 = .ok (.bipush 122, 2) from dk_at dq39_5 (i := 7) rfl) (by decide) rfl, ?_⟩
  refine List.forall_mem_cons.mpr ⟨ok_iaload C (show decode cX11_loads 41 = .ok (.iaload, 1) from dk_at dq39_5 (i := 8) rfl) rfl, ?_⟩
  refine List.forall_mem_cons.mpr ⟨ok_iload_n C (show decode cX11_loads 42 = .ok (.iload_n 2, 1) from dk_at dq39_5 (i := 9) rfl) rfl rfl, ?_⟩
  refine List.forall_mem_cons.mpr ⟨ok_isub C (show decode cX11_loads 43 = .ok (.isub, 1) from dk_at dq39_5 (i := 10) rfl) rfl, ?_⟩
  refine List.forall_mem_cons.mpr ⟨ok_istore_n C (show decode cX11_loads 44 = .ok (.istore_n 3, 1) from dk_at dq39_5 (i := 11) rfl) rfl (by decide) rfl, ?_⟩
  refine List.forall_mem_cons.mpr ⟨ok_aload_n C (show decode cX11_loads 45 = .ok (.aload_n 0, 1) from dk_at dq39_5 (i := 12) rfl) rfl rfl, ?_⟩
  refine List.forall_mem_cons.mpr ⟨ok_callV C h_X11_back ⟨rfl, rfl⟩ rfl kw_1560 kw_1557 kw_1559 kp_87 kw_11 rfl ds_X11_back ⟨by decide, by decide⟩ (show decode cX11_loads 46 = .ok (.invokevirtual 320, 3) from dk_at dq39_5 (i := 13) rfl) rfl, ?_⟩
  refine List.forall_mem_cons.mpr ⟨ok_iload_n C (show decode cX11_loads 49 = .ok (.iload_n 3, 1) from dk_at dq39_5 (i := 14) rfl) rfl rfl, ?_⟩
  refine List.forall_mem_cons.mpr ⟨ok_ret C rfl (show decode cX11_loads 50 = .ok (.ireturn, 1) from dk_at dq39_5 (i := 15) rfl), ?_⟩
  exact fun _ h => absurd h List.not_mem_nil
def L_X11_which (f_X11_taken : List Value → ab_H → Option ab_O) (f_X11_isIn : List Value → ab_H → Option ab_O) (f_X11_octet : List Value → ab_H → Option ab_O) (f_X11_cell : List Value → ab_H → Option ab_O) (f_X11_lesser : List Value → ab_H → Option ab_O) : List (Nat × ab_A) := [
  (0, ab_nx 1 (ab_aload 0)),
  (1, ab_nx 2 (ab_lit (.int 0))),
  (2, ab_nx 5 (ab_putf 11 0 0)),
  (5, ab_nx 6 (ab_aload 0)),
  (6, ab_nx 9 (ab_lit (.int 940))),
  (9, ab_nx 12 (ab_callV 2 11 f_X11_taken 0 0 0 0)),
  (12, ab_nx 13 (ab_aload 0)),
  (13, ab_nx 16 (ab_getf 11 3)),
  (16, ab_nx 17 (ab_lit (.int 3))),
  (17, ab_nx 19 (ab_lit (.int 31))),
  (19, ab_nx 22 (ab_call 3 f_X11_isIn 0 0 0 0)),
  (22, ab_if 25 34 (fun x => decide (x = 0))),
  (25, ab_nx 26 (ab_aload 0)),
  (26, ab_nx 27 (ab_lit (.int 0))),
  (27, ab_nx 30 (ab_callV 2 11 f_X11_octet 0 0 0 0)),
  (30, ab_nx 31 (ab_lit (.int 1))),
  (31, ab_icmp 34 36 (fun x y => decide (x ≤ y))),
  (34, ab_nx 35 (ab_lit (.int (-1)))),
  (35, ab_ret 0 0),
  (36, ab_nx 37 (ab_lit (.int 0))),
  (37, ab_nx 38 (ab_istore 1)),
  (38, ab_nx 39 (ab_lit (.int 0))),
  (39, ab_nx 40 (ab_istore 2)),
  (40, ab_nx 41 (ab_iload 2)),
  (41, ab_nx 42 (ab_aload 0)),
  (42, ab_nx 45 (ab_getf 11 6)),
  (45, ab_nx 46 (ab_lit (.int 0))),
  (46, ab_nx 47 (ab_ald 1)),
  (47, ab_icmp 50 170 (fun x y => decide (y ≤ x))),
  (50, ab_nx 51 (ab_iload 2)),
  (51, ab_nx 52 (ab_aload 0)),
  (52, ab_nx 53 (ab_lit (.int 0))),
  (53, ab_nx 56 (ab_callV 2 11 f_X11_octet 0 0 0 0)),
  (56, ab_nx 59 (ab_call 2 f_X11_cell 0 0 0 0)),
  (59, ab_nx 60 (ab_istore 3)),
  (60, ab_nx 61 (ab_lit (.int 1))),
  (61, ab_nx 63 (ab_istore 4)),
  (63, ab_nx 64 (ab_lit (.int 2))),
  (64, ab_nx 66 (ab_istore 5)),
  (66, ab_nx 68 (ab_iload 5)),
  (68, ab_nx 69 (ab_aload 0)),
  (69, ab_nx 72 (ab_getf 11 3)),
  (72, ab_icmp 75 149 (fun x y => decide (y ≤ x))),
  (75, ab_nx 78 (ab_lit (.int 999))),
  (78, ab_nx 79 (ab_aload 0)),
  (79, ab_nx 81 (ab_iload 5)),
  (81, ab_nx 82 (ab_lit (.int 1))),
  (82, ab_nx 83 (ab_bin (fun x y => x - y))),
  (83, ab_nx 86 (ab_callV 2 11 f_X11_octet 0 0 0 0)),
  (86, ab_nx 87 (ab_aload 0)),
  (87, ab_nx 90 (ab_getf 11 6)),
  (90, ab_nx 92 (ab_lit (.int 40))),
  (92, ab_nx 93 (ab_iload 3)),
  (93, ab_nx 94 (ab_bin (fun x y => x + y))),
  (94, ab_nx 95 (ab_ald 1)),
  (95, ab_nx 96 (ab_bin (fun x y => x + y))),
  (96, ab_nx 99 (ab_call 2 f_X11_lesser 0 0 0 0)),
  (99, ab_nx 100 (ab_aload 0)),
  (100, ab_nx 103 (ab_getf 11 6)),
  (103, ab_nx 105 (ab_lit (.int 28))),
  (105, ab_nx 106 (ab_iload 3)),
  (106, ab_nx 107 (ab_bin (fun x y => x + y))),
  (107, ab_nx 108 (ab_ald 1)),
  (108, ab_nx 109 (ab_bin (fun x y => x - y))),
  (109, ab_nx 111 (ab_istore 6)),
  (111, ab_nx 113 (ab_iload 4)),
  (113, ab_if 116 140 (fun x => decide (x = 0))),
  (116, ab_nx 117 (ab_aload 0)),
  (117, ab_nx 119 (ab_iload 5)),
  (119, ab_nx 122 (ab_callV 2 11 f_X11_octet 0 0 0 0)),
  (122, ab_nx 124 (ab_iload 6)),
  (124, ab_if 127 131 (fun x => decide (0 ≤ x))),
  (127, ab_nx 128 (ab_lit (.int 0))),
  (128, ab_goto 133),
  (131, ab_nx 133 (ab_iload 6)),
  (133, ab_icmp 136 140 (fun x y => !decide (x = y))),
  (136, ab_nx 137 (ab_lit (.int 1))),
  (137, ab_goto 141),
  (140, ab_nx 141 (ab_lit (.int 0))),
  (141, ab_nx 143 (ab_istore 4)),
  (143, ab_nx 146 (ab_iinc 5 1)),
  (146, ab_goto 66),
  (149, ab_nx 150 (ab_iload 1)),
  (150, ab_nx 152 (ab_iload 4)),
  (152, ab_if 155 161 (fun x => decide (x = 0))),
  (155, ab_nx 156 (ab_lit (.int 1))),
  (156, ab_nx 157 (ab_iload 2)),
  (157, ab_nx 158 (ab_bin (fun x y => x <<< (y &&& 31)))),
  (158, ab_goto 162),
  (161, ab_nx 162 (ab_lit (.int 0))),
  (162, ab_nx 163 (ab_bin (fun x y => x ||| y))),
  (163, ab_nx 164 (ab_istore 1)),
  (164, ab_nx 167 (ab_iinc 2 1)),
  (167, ab_goto 40),
  (170, ab_nx 171 (ab_iload 1)),
  (171, ab_ret 0 0)]
set_option maxRecDepth 100000 in
theorem dq39_6 : ([(0, .aload_n 0, 1), (1, .iconst 0, 1), (2, .putfield 1, 3), (5, .aload_n 0, 1), (6, .sipush 940, 3), (9, .invokevirtual 224, 3), (12, .aload_n 0, 1), (13, .getfield 18, 3), (16, .iconst 3, 1), (17, .bipush 31, 2), (19, .invokestatic 179, 3), (22, .ifCond .eq 12, 3), (25, .aload_n 0, 1), (26, .iconst 0, 1), (27, .invokevirtual 323, 3), (30, .iconst 1, 1)] : List (Nat × Instr × Nat)).all (fun q => decide (decode cX11_which q.1 = .ok q.2)) = true := by decide +kernel
set_option maxRecDepth 100000 in
theorem dq39_7 : ([(31, .if_icmp .le 5, 3), (34, .iconst (-1), 1), (35, .ireturn, 1), (36, .iconst 0, 1), (37, .istore_n 1, 1), (38, .iconst 0, 1), (39, .istore_n 2, 1), (40, .iload_n 2, 1), (41, .aload_n 0, 1), (42, .getfield 33, 3), (45, .iconst 0, 1), (46, .iaload, 1), (47, .if_icmp .ge 123, 3), (50, .iload_n 2, 1), (51, .aload_n 0, 1), (52, .iconst 0, 1)] : List (Nat × Instr × Nat)).all (fun q => decide (decode cX11_which q.1 = .ok q.2)) = true := by decide +kernel
set_option maxRecDepth 100000 in
theorem dq39_8 : ([(53, .invokevirtual 323, 3), (56, .invokestatic 245, 3), (59, .istore_n 3, 1), (60, .iconst 1, 1), (61, .istore 4, 2), (63, .iconst 2, 1), (64, .istore 5, 2), (66, .iload 5, 2), (68, .aload_n 0, 1), (69, .getfield 18, 3), (72, .if_icmp .ge 77, 3), (75, .sipush 999, 3), (78, .aload_n 0, 1), (79, .iload 5, 2), (81, .iconst 1, 1), (82, .isub, 1)] : List (Nat × Instr × Nat)).all (fun q => decide (decode cX11_which q.1 = .ok q.2)) = true := by decide +kernel
set_option maxRecDepth 100000 in
theorem dq39_9 : ([(83, .invokevirtual 323, 3), (86, .aload_n 0, 1), (87, .getfield 33, 3), (90, .bipush 40, 2), (92, .iload_n 3, 1), (93, .iadd, 1), (94, .iaload, 1), (95, .iadd, 1), (96, .invokestatic 286, 3), (99, .aload_n 0, 1), (100, .getfield 33, 3), (103, .bipush 28, 2), (105, .iload_n 3, 1), (106, .iadd, 1), (107, .iaload, 1), (108, .isub, 1)] : List (Nat × Instr × Nat)).all (fun q => decide (decode cX11_which q.1 = .ok q.2)) = true := by decide +kernel
set_option maxRecDepth 100000 in
theorem dq39_10 : ([(109, .istore 6, 2), (111, .iload 4, 2), (113, .ifCond .eq 27, 3), (116, .aload_n 0, 1), (117, .iload 5, 2), (119, .invokevirtual 323, 3), (122, .iload 6, 2), (124, .ifCond .ge 7, 3), (127, .iconst 0, 1), (128, .goto 5, 3), (131, .iload 6, 2), (133, .if_icmp .ne 7, 3), (136, .iconst 1, 1), (137, .goto 4, 3), (140, .iconst 0, 1), (141, .istore 4, 2)] : List (Nat × Instr × Nat)).all (fun q => decide (decode cX11_which q.1 = .ok q.2)) = true := by decide +kernel
set_option maxRecDepth 100000 in
theorem dq39_11 : ([(143, .iinc 5 1, 3), (146, .goto (-80), 3), (149, .iload_n 1, 1), (150, .iload 4, 2), (152, .ifCond .eq 9, 3), (155, .iconst 1, 1), (156, .iload_n 2, 1), (157, .ishl, 1), (158, .goto 4, 3), (161, .iconst 0, 1), (162, .ior, 1), (163, .istore_n 1, 1), (164, .iinc 2 1, 3), (167, .goto (-127), 3), (170, .iload_n 1, 1), (171, .ireturn, 1)] : List (Nat × Instr × Nat)).all (fun q => decide (decode cX11_which q.1 = .ok q.2)) = true := by decide +kernel
set_option maxRecDepth 100000 in
set_option maxHeartbeats 4000000 in
theorem M_X11_which {l : Launch} {b : ab_B} {D : va_G} {cA : Nat → ClassId} {f_X11_taken : List Value → ab_H → Option ab_O} (h_X11_taken : ab_M l b D ab_cl cA (ab_E0 b) yX11_taken (Cond.code yX11_taken cX11_taken 2 none :: ab_G) ({ frames := 1, cells := 0, slots := 0, locals := 100 } : Room) f_X11_taken) {f_X11_isIn : List Value → ab_H → Option ab_O} (h_X11_isIn : ab_M l b D ab_cl cA (ab_E0 b) yX11_isIn (Cond.code yX11_isIn cX11_isIn 3 (some .boolean) :: ab_G) ({ frames := 1, cells := 0, slots := 0, locals := 100 } : Room) f_X11_isIn) {f_X11_octet : List Value → ab_H → Option ab_O} (h_X11_octet : ab_M l b D ab_cl cA (ab_E0 b) yX11_octet (Cond.code yX11_octet cX11_octet 2 (some .int) :: ab_G) ({ frames := 1, cells := 0, slots := 0, locals := 100 } : Room) f_X11_octet) {f_X11_cell : List Value → ab_H → Option ab_O} (h_X11_cell : ab_M l b D ab_cl cA (ab_E0 b) yX11_cell (Cond.code yX11_cell cX11_cell 2 (some .int) :: ab_G) ({ frames := 1, cells := 0, slots := 0, locals := 100 } : Room) f_X11_cell) {f_X11_lesser : List Value → ab_H → Option ab_O} (h_X11_lesser : ab_M l b D ab_cl cA (ab_E0 b) yX11_lesser (Cond.code yX11_lesser cX11_lesser 2 (some .int) :: ab_G) ({ frames := 1, cells := 0, slots := 0, locals := 100 } : Room) f_X11_lesser) : ab_M l b D ab_cl cA (ab_E0 b) yX11_which (Cond.code yX11_which cX11_which 7 (some .int) :: ab_G) ({ frames := 2, cells := 0, slots := 0, locals := 200 } : Room) (ab_X (ab_T (L_X11_which f_X11_taken f_X11_isIn f_X11_octet f_X11_cell f_X11_lesser)) 7) := by
  refine ab_meth (ret := (some .int)) (L_X11_which f_X11_taken f_X11_isIn f_X11_octet f_X11_cell f_X11_lesser) (by decide) rfl fun p e R s m args below meth c o C => ?_
  unfold L_X11_which
  refine List.forall_mem_cons.mpr ⟨ok_aload_n C (show decode cX11_which 0 = .ok (.aload_n 0, 1) from dk_at dq39_6 (i := 0) rfl) rfl rfl, ?_⟩
  refine List.forall_mem_cons.mpr ⟨ok_iconst C (show decode cX11_which 1 = .ok (.iconst 0, 1) from dk_at dq39_6 (i := 1) rfl) (by decide) rfl, ?_⟩
  refine List.forall_mem_cons.mpr ⟨ok_putf C (wi_X11) tyX11 tyX11_ok nmX11 rfl (by decide) kw_1180 (Or.inl rfl) (Or.inl ⟨rfl, rfl⟩) (show decode cX11_which 2 = .ok (.putfield 1, 3) from dk_at dq39_6 (i := 2) rfl) rfl, ?_⟩
  refine List.forall_mem_cons.mpr ⟨ok_aload_n C (show decode cX11_which 5 = .ok (.aload_n 0, 1) from dk_at dq39_6 (i := 3) rfl) rfl rfl, ?_⟩
  refine List.forall_mem_cons.mpr ⟨ok_sipush C (show decode cX11_which 6 = .ok (.sipush 940, 3) from dk_at dq39_6 (i := 4) rfl) (by decide) rfl, ?_⟩
  refine List.forall_mem_cons.mpr ⟨ok_callV C h_X11_taken ⟨rfl, rfl⟩ rfl kw_1318 kw_1315 kw_1317 kp_48 kw_11 rfl ds_X11_taken ⟨by decide, by decide⟩ (show decode cX11_which 9 = .ok (.invokevirtual 224, 3) from dk_at dq39_6 (i := 5) rfl) rfl, ?_⟩
  refine List.forall_mem_cons.mpr ⟨ok_aload_n C (show decode cX11_which 12 = .ok (.aload_n 0, 1) from dk_at dq39_6 (i := 6) rfl) rfl rfl, ?_⟩
  refine List.forall_mem_cons.mpr ⟨ok_getf C (wi_X11) rfl (by decide) kw_1183 (show decode cX11_which 13 = .ok (.getfield 18, 3) from dk_at dq39_6 (i := 7) rfl) rfl, ?_⟩
  refine List.forall_mem_cons.mpr ⟨ok_iconst C (show decode cX11_which 16 = .ok (.iconst 3, 1) from dk_at dq39_6 (i := 8) rfl) (by decide) rfl, ?_⟩
  refine List.forall_mem_cons.mpr ⟨ok_bipush C (show decode cX11_which 17 = .ok (.bipush 31, 2) from dk_at dq39_6 (i := 9) rfl) (by decide) rfl, ?_⟩
  refine List.forall_mem_cons.mpr ⟨ok_callS C h_X11_isIn ⟨rfl, rfl⟩ kw_1355 kw_1353 kw_1354 kw_11 ds_X11_isIn ⟨by decide, by decide⟩ (show decode cX11_which 19 = .ok (.invokestatic 179, 3) from dk_at dq39_6 (i := 10) rfl) rfl, ?_⟩
  refine List.forall_mem_cons.mpr ⟨ok_ifeq C (show decode cX11_which 22 = .ok (.ifCond .eq 12, 3) from dk_at dq39_6 (i := 11) rfl) (tg := 34) (by decide) rfl rfl, ?_⟩
  refine List.forall_mem_cons.mpr ⟨ok_aload_n C (show decode cX11_which 25 = .ok (.aload_n 0, 1) from dk_at dq39_6 (i := 12) rfl) rfl rfl, ?_⟩
  refine List.forall_mem_cons.mpr ⟨ok_iconst C (show decode cX11_which 26 = .ok (.iconst 0, 1) from dk_at dq39_6 (i := 13) rfl) (by decide) rfl, ?_⟩
  refine List.forall_mem_cons.mpr ⟨ok_callV C h_X11_octet ⟨rfl, rfl⟩ rfl kw_1584 kw_1581 kw_1583 kp_88 kw_11 rfl ds_X11_octet ⟨by decide, by decide⟩ (show decode cX11_which 27 = .ok (.invokevirtual 323, 3) from dk_at dq39_6 (i := 14) rfl) rfl, ?_⟩
  refine List.forall_mem_cons.mpr ⟨ok_iconst C (show decode cX11_which 30 = .ok (.iconst 1, 1) from dk_at dq39_6 (i := 15) rfl) (by decide) rfl, ?_⟩
  refine List.forall_mem_cons.mpr ⟨ok_icmple C (show decode cX11_which 31 = .ok (.if_icmp .le 5, 3) from dk_at dq39_7 (i := 0) rfl) (tg := 36) (by decide) rfl rfl, ?_⟩
  refine List.forall_mem_cons.mpr ⟨ok_iconst C (show decode cX11_which 34 = .ok (.iconst (-1), 1) from dk_at dq39_7 (i := 1) rfl) (by decide) rfl, ?_⟩
  refine List.forall_mem_cons.mpr ⟨ok_ret C rfl (show decode cX11_which 35 = .ok (.ireturn, 1) from dk_at dq39_7 (i := 2) rfl), ?_⟩
  refine List.forall_mem_cons.mpr ⟨ok_iconst C (show decode cX11_which 36 = .ok (.iconst 0, 1) from dk_at dq39_7 (i := 3) rfl) (by decide) rfl, ?_⟩
  refine List.forall_mem_cons.mpr ⟨ok_istore_n C (show decode cX11_which 37 = .ok (.istore_n 1, 1) from dk_at dq39_7 (i := 4) rfl) rfl (by decide) rfl, ?_⟩
  refine List.forall_mem_cons.mpr ⟨ok_iconst C (show decode cX11_which 38 = .ok (.iconst 0, 1) from dk_at dq39_7 (i := 5) rfl) (by decide) rfl, ?_⟩
  refine List.forall_mem_cons.mpr ⟨ok_istore_n C (show decode cX11_which 39 = .ok (.istore_n 2, 1) from dk_at dq39_7 (i := 6) rfl) rfl (by decide) rfl, ?_⟩
  refine List.forall_mem_cons.mpr ⟨ok_iload_n C (show decode cX11_which 40 = .ok (.iload_n 2, 1) from dk_at dq39_7 (i := 7) rfl) rfl rfl, ?_⟩
  refine List.forall_mem_cons.mpr ⟨ok_aload_n C (show decode cX11_which 41 = .ok (.aload_n 0, 1) from dk_at dq39_7 (i := 8) rfl) rfl rfl, ?_⟩
  refine List.forall_mem_cons.mpr ⟨ok_getf C (wi_X11) rfl (by decide) kw_1186 (show decode cX11_which 42 = .ok (.getfield 33, 3) from dk_at dq39_7 (i := 9) rfl) rfl, ?_⟩
  refine List.forall_mem_cons.mpr ⟨ok_iconst C (show decode cX11_which 45 = .ok (.iconst 0, 1) from dk_at dq39_7 (i := 10) rfl) (by decide) rfl, ?_⟩
  refine List.forall_mem_cons.mpr ⟨ok_iaload C (show decode cX11_which 46 = .ok (.iaload, 1) from dk_at dq39_7 (i := 11) rfl) rfl, ?_⟩
  refine List.forall_mem_cons.mpr ⟨ok_icmpge C (show decode cX11_which 47 = .ok (.if_icmp .ge 123, 3) from dk_at dq39_7 (i := 12) rfl) (tg := 170) (by decide) rfl rfl, ?_⟩
  refine List.forall_mem_cons.mpr ⟨ok_iload_n C (show decode cX11_which 50 = .ok (.iload_n 2, 1) from dk_at dq39_7 (i := 13) rfl) rfl rfl, ?_⟩
  refine List.forall_mem_cons.mpr ⟨ok_aload_n C (show decode cX11_which 51 = .ok (.aload_n 0, 1) from dk_at dq39_7 (i := 14) rfl) rfl rfl, ?_⟩
  refine List.forall_mem_cons.mpr ⟨ok_iconst C (show decode cX11_which 52 = .ok (.iconst 0, 1) from dk_at dq39_7 (i := 15) rfl) (by decide) rfl, ?_⟩
  refine List.forall_mem_cons.mpr ⟨ok_callV C h_X11_octet ⟨rfl, rfl⟩ rfl kw_1584 kw_1581 kw_1583 kp_88 kw_11 rfl ds_X11_octet ⟨by decide, by decide⟩ (show decode cX11_which 53 = .ok (.invokevirtual 323, 3) from dk_at dq39_8 (i := 0) rfl) rfl, ?_⟩
  refine List.forall_mem_cons.mpr ⟨ok_callS C h_X11_cell ⟨rfl, rfl⟩ kw_1413 kw_1411 kw_1412 kw_11 ds_X11_cell ⟨by decide, by decide⟩ (show decode cX11_which 56 = .ok (.invokestatic 245, 3) from dk_at dq39_8 (i := 1) rfl) rfl, ?_⟩
  refine List.forall_mem_cons.mpr ⟨ok_istore_n C (show decode cX11_which 59 = .ok (.istore_n 3, 1) from dk_at dq39_8 (i := 2) rfl) rfl (by decide) rfl, ?_⟩
  refine List.forall_mem_cons.mpr ⟨ok_iconst C (show decode cX11_which 60 = .ok (.iconst 1, 1) from dk_at dq39_8 (i := 3) rfl) (by decide) rfl, ?_⟩
  refine List.forall_mem_cons.mpr ⟨ok_istore C (show decode cX11_which 61 = .ok (.istore 4, 2) from dk_at dq39_8 (i := 4) rfl) (by decide) rfl, ?_⟩
  refine List.forall_mem_cons.mpr ⟨ok_iconst C (show decode cX11_which 63 = .ok (.iconst 2, 1) from dk_at dq39_8 (i := 5) rfl) (by decide) rfl, ?_⟩
  refine List.forall_mem_cons.mpr ⟨ok_istore C (show decode cX11_which 64 = .ok (.istore 5, 2) from dk_at dq39_8 (i := 6) rfl) (by decide) rfl, ?_⟩
  refine List.forall_mem_cons.mpr ⟨ok_iload C (show decode cX11_which 66 = .ok (.iload 5, 2) from dk_at dq39_8 (i := 7) rfl) rfl, ?_⟩
  refine List.forall_mem_cons.mpr ⟨ok_aload_n C (show decode cX11_which 68 = .ok (.aload_n 0, 1) from dk_at dq39_8 (i := 8) rfl) rfl rfl, ?_⟩
  refine List.forall_mem_cons.mpr ⟨ok_getf C (wi_X11) rfl (by decide) kw_1183 (show decode cX11_which 69 = .ok (.getfield 18, 3) from dk_at dq39_8 (i := 9) rfl) rfl, ?_⟩
  refine List.forall_mem_cons.mpr ⟨ok_icmpge C (show decode cX11_which 72 = .ok (.if_icmp .ge 77, 3) from dk_at dq39_8 (i := 10) rfl) (tg := 149) (by decide) rfl rfl, ?_⟩
  refine List.forall_mem_cons.mpr ⟨ok_sipush C (show decode cX11_which 75 = .ok (.sipush 999, 3) from dk_at dq39_8 (i := 11) rfl) (by decide) rfl, ?_⟩
  refine List.forall_mem_cons.mpr ⟨ok_aload_n C (show decode cX11_which 78 = .ok (.aload_n 0, 1) from dk_at dq39_8 (i := 12) rfl) rfl rfl, ?_⟩
  refine List.forall_mem_cons.mpr ⟨ok_iload C (show decode cX11_which 79 = .ok (.iload 5, 2) from dk_at dq39_8 (i := 13) rfl) rfl, ?_⟩
  refine List.forall_mem_cons.mpr ⟨ok_iconst C (show decode cX11_which 81 = .ok (.iconst 1, 1) from dk_at dq39_8 (i := 14) rfl) (by decide) rfl, ?_⟩
  refine List.forall_mem_cons.mpr ⟨ok_isub C (show decode cX11_which 82 = .ok (.isub, 1) from dk_at dq39_8 (i := 15) rfl) rfl, ?_⟩
  refine List.forall_mem_cons.mpr ⟨ok_callV C h_X11_octet ⟨rfl, rfl⟩ rfl kw_1584 kw_1581 kw_1583 kp_88 kw_11 rfl ds_X11_octet ⟨by decide, by decide⟩ (show decode cX11_which 83 = .ok (.invokevirtual 323, 3) from dk_at dq39_9 (i := 0) rfl) rfl, ?_⟩
  refine List.forall_mem_cons.mpr ⟨ok_aload_n C (show decode cX11_which 86 = .ok (.aload_n 0, 1) from dk_at dq39_9 (i := 1) rfl) rfl rfl, ?_⟩
  refine List.forall_mem_cons.mpr ⟨ok_getf C (wi_X11) rfl (by decide) kw_1186 (show decode cX11_which 87 = .ok (.getfield 33, 3) from dk_at dq39_9 (i := 2) rfl) rfl, ?_⟩
  refine List.forall_mem_cons.mpr ⟨ok_bipush C (show decode cX11_which 90 = .ok (.bipush 40, 2) from dk_at dq39_9 (i := 3) rfl) (by decide) rfl, ?_⟩
  refine List.forall_mem_cons.mpr ⟨ok_iload_n C (show decode cX11_which 92 = .ok (.iload_n 3, 1) from dk_at dq39_9 (i := 4) rfl) rfl rfl, ?_⟩
  refine List.forall_mem_cons.mpr ⟨ok_iadd C (show decode cX11_which 93 = .ok (.iadd, 1) from dk_at dq39_9 (i := 5) rfl) rfl, ?_⟩
  refine List.forall_mem_cons.mpr ⟨ok_iaload C (show decode cX11_which 94 = .ok (.iaload, 1) from dk_at dq39_9 (i := 6) rfl) rfl, ?_⟩
  refine List.forall_mem_cons.mpr ⟨ok_iadd C (show decode cX11_which 95 = .ok (.iadd, 1) from dk_at dq39_9 (i := 7) rfl) rfl, ?_⟩
  refine List.forall_mem_cons.mpr ⟨ok_callS C h_X11_lesser ⟨rfl, rfl⟩ kw_1524 kw_1522 kw_1523 kw_11 ds_X11_lesser ⟨by decide, by decide⟩ (show decode cX11_which 96 = .ok (.invokestatic 286, 3) from dk_at dq39_9 (i := 8) rfl) rfl, ?_⟩
  refine List.forall_mem_cons.mpr ⟨ok_aload_n C (show decode cX11_which 99 = .ok (.aload_n 0, 1) from dk_at dq39_9 (i := 9) rfl) rfl rfl, ?_⟩
  refine List.forall_mem_cons.mpr ⟨ok_getf C (wi_X11) rfl (by decide) kw_1186 (show decode cX11_which 100 = .ok (.getfield 33, 3) from dk_at dq39_9 (i := 10) rfl) rfl, ?_⟩
  refine List.forall_mem_cons.mpr ⟨ok_bipush C (show decode cX11_which 103 = .ok (.bipush 28, 2) from dk_at dq39_9 (i := 11) rfl) (by decide) rfl, ?_⟩
  refine List.forall_mem_cons.mpr ⟨ok_iload_n C (show decode cX11_which 105 = .ok (.iload_n 3, 1) from dk_at dq39_9 (i := 12) rfl) rfl rfl, ?_⟩
  refine List.forall_mem_cons.mpr ⟨ok_iadd C (show decode cX11_which 106 = .ok (.iadd, 1) from dk_at dq39_9 (i := 13) rfl) rfl, ?_⟩
  refine List.forall_mem_cons.mpr ⟨ok_iaload C (show decode cX11_which 107 = .ok (.iaload, 1) from dk_at dq39_9 (i := 14) rfl) rfl, ?_⟩
  refine List.forall_mem_cons.mpr ⟨ok_isub C (show decode cX11_which 108 = .ok (.isub, 1) from dk_at dq39_9 (i := 15) rfl) rfl, ?_⟩
  refine List.forall_mem_cons.mpr ⟨ok_istore C (show decode cX11_which 109 = .ok (.istore 6, 2) from dk_at dq39_10 (i := 0) rfl) (by decide) rfl, ?_⟩
  refine List.forall_mem_cons.mpr ⟨ok_iload C (show decode cX11_which 111 = .ok (.iload 4, 2) from dk_at dq39_10 (i := 1) rfl) rfl, ?_⟩
  refine List.forall_mem_cons.mpr ⟨ok_ifeq C (show decode cX11_which 113 = .ok (.ifCond .eq 27, 3) from dk_at dq39_10 (i := 2) rfl) (tg := 140) (by decide) rfl rfl, ?_⟩
  refine List.forall_mem_cons.mpr ⟨ok_aload_n C (show decode cX11_which 116 = .ok (.aload_n 0, 1) from dk_at dq39_10 (i := 3) rfl) rfl rfl, ?_⟩
  refine List.forall_mem_cons.mpr ⟨ok_iload C (show decode cX11_which 117 = .ok (.iload 5, 2) from dk_at dq39_10 (i := 4) rfl) rfl, ?_⟩
  refine List.forall_mem_cons.mpr ⟨ok_callV C h_X11_octet ⟨rfl, rfl⟩ rfl kw_1584 kw_1581 kw_1583 kp_88 kw_11 rfl ds_X11_octet ⟨by decide, by decide⟩ (show decode cX11_which 119 = .ok (.invokevirtual 323, 3) from dk_at dq39_10 (i := 5) rfl) rfl, ?_⟩
  refine List.forall_mem_cons.mpr ⟨ok_iload C (show decode cX11_which 122 = .ok (.iload 6, 2) from dk_at dq39_10 (i := 6) rfl) rfl, ?_⟩
  refine List.forall_mem_cons.mpr ⟨ok_ifge C (show decode cX11_which 124 = .ok (.ifCond .ge 7, 3) from dk_at dq39_10 (i := 7) rfl) (tg := 131) (by decide) rfl rfl, ?_⟩
  refine List.forall_mem_cons.mpr ⟨ok_iconst C (show decode cX11_which 127 = .ok (.iconst 0, 1) from dk_at dq39_10 (i := 8) rfl) (by decide) rfl, ?_⟩
  refine List.forall_mem_cons.mpr ⟨ok_goto C (show decode cX11_which 128 = .ok (.goto 5, 3) from dk_at dq39_10 (i := 9) rfl) (tg := 133) (by decide) rfl, ?_⟩
  refine List.forall_mem_cons.mpr ⟨ok_iload C (show decode cX11_which 131 = .ok (.iload 6, 2) from dk_at dq39_10 (i := 10) rfl) rfl, ?_⟩
  refine List.forall_mem_cons.mpr ⟨ok_icmpne C (show decode cX11_which 133 = .ok (.if_icmp .ne 7, 3) from dk_at dq39_10 (i := 11) rfl) (tg := 140) (by decide) rfl rfl, ?_⟩
  refine List.forall_mem_cons.mpr ⟨ok_iconst C (show decode cX11_which 136 = .ok (.iconst 1, 1) from dk_at dq39_10 (i := 12) rfl) (by decide) rfl, ?_⟩
  refine List.forall_mem_cons.mpr ⟨ok_goto C (show decode cX11_which 137 = .ok (.goto 4, 3) from dk_at dq39_10 (i := 13) rfl) (tg := 141) (by decide) rfl, ?_⟩
  refine List.forall_mem_cons.mpr ⟨ok_iconst C (show decode cX11_which 140 = .ok (.iconst 0, 1) from dk_at dq39_10 (i := 14) rfl) (by decide) rfl, ?_⟩
  refine List.forall_mem_cons.mpr ⟨ok_istore C (show decode cX11_which 141 = .ok (.istore 4, 2) from dk_at dq39_10 (i := 15) rfl) (by decide) rfl, ?_⟩
  refine List.forall_mem_cons.mpr ⟨ok_iinc C (show decode cX11_which 143 = .ok (.iinc 5 1, 3) from dk_at dq39_11 (i := 0) rfl) (by decide) (by decide) rfl, ?_⟩
  refine List.forall_mem_cons.mpr ⟨ok_goto C (show decode cX11_which 146 = .ok (.goto (-80), 3) from dk_at dq39_11 (i := 1) rfl) (tg := 66) (by decide) rfl, ?_⟩
  refine List.forall_mem_cons.mpr ⟨ok_iload_n C (show decode cX11_which 149 = .ok (.iload_n 1, 1) from dk_at dq39_11 (i := 2) rfl) rfl rfl, ?_⟩
  refine List.forall_mem_cons.mpr ⟨ok_iload C (show decode cX11_which 150 = .ok (.iload 4, 2) from dk_at dq39_11 (i := 3) rfl) rfl, ?_⟩
  refine List.forall_mem_cons.mpr ⟨ok_ifeq C (show decode cX11_which 152 = .ok (.ifCond .eq 9, 3) from dk_at dq39_11 (i := 4) rfl) (tg := 161) (by decide) rfl rfl, ?_⟩
  refine List.forall_mem_cons.mpr ⟨ok_iconst C (show decode cX11_which 155 = .ok (.iconst 1, 1) from dk_at dq39_11 (i := 5) rfl) (by decide) rfl, ?_⟩
  refine List.forall_mem_cons.mpr ⟨ok_iload_n C (show decode cX11_which 156 = .ok (.iload_n 2, 1) from dk_at dq39_11 (i := 6) rfl) rfl rfl, ?_⟩
  refine List.forall_mem_cons.mpr ⟨ok_ishl C (show decode cX11_which 157 = .ok (.ishl, 1) from dk_at dq39_11 (i := 7) rfl) rfl, ?_⟩
  refine List.forall_mem_cons.mpr ⟨ok_goto C (show decode cX11_which 158 = .ok (.goto 4, 3) from dk_at dq39_11 (i := 8) rfl) (tg := 162) (by decide) rfl, ?_⟩
  refine List.forall_mem_cons.mpr ⟨ok_iconst C (show decode cX11_which 161 = .ok (.iconst 0, 1) from dk_at dq39_11 (i := 9) rfl) (by decide) rfl, ?_⟩
  refine List.forall_mem_cons.mpr ⟨ok_ior C (show decode cX11_which 162 = .ok (.ior, 1) from dk_at dq39_11 (i := 10) rfl) rfl, ?_⟩
  refine List.forall_mem_cons.mpr ⟨ok_istore_n C (show decode cX11_which 163 = .ok (.istore_n 1, 1) from dk_at dq39_11 (i := 11) rfl) rfl (by decide) rfl, ?_⟩
  refine List.forall_mem_cons.mpr ⟨ok_iinc C (show decode cX11_which 164 = .ok (.iinc 2 1, 3) from dk_at dq39_11 (i := 12) rfl) (by decide) (by decide) rfl, ?_⟩
  refine List.forall_mem_cons.mpr ⟨ok_goto C (show decode cX11_which 167 = .ok (.goto (-127), 3) from dk_at dq39_11 (i := 13) rfl) (tg := 40) (by decide) rfl, ?_⟩
  refine List.forall_mem_cons.mpr ⟨ok_iload_n C (show decode cX11_which 170 = .ok (.iload_n 1, 1) from dk_at dq39_11 (i := 14) rfl) rfl rfl, ?_⟩
  refine List.forall_mem_cons.mpr ⟨ok_ret C rfl (show decode cX11_which 171 = .ok (.ireturn, 1) from dk_at dq39_11 (i := 15) rfl), ?_⟩
  exact fun _ h => absurd h List.not_mem_nil
def L_X11_lays : List (Nat × ab_A) := [
  (0, ab_nx 1 (ab_lit (.int 0))),
  (1, ab_nx 2 (ab_istore 2)),
  (2, ab_nx 3 (ab_iload 2)),
  (3, ab_nx 5 (ab_lit (.int 12))),
  (5, ab_icmp 8 34 (fun x y => decide (y ≤ x))),
  (8, ab_nx 9 (ab_aload 0)),
  (9, ab_nx 12 (ab_getf 11 26)),
  (12, ab_nx 14 (ab_lit (.int 20))),
  (14, ab_nx 15 (ab_iload 1)),
  (15, ab_nx 16 (ab_bin (fun x y => x * y))),
  (16, ab_nx 17 (ab_iload 2)),
  (17, ab_nx 18 (ab_bin (fun x y => x + y))),
  (18, ab_nx 19 (ab_aload 0)),
  (19, ab_nx 22 (ab_getf 11 6)),
  (22, ab_nx 24 (ab_lit (.int 124))),
  (24, ab_nx 25 (ab_iload 2)),
  (25, ab_nx 26 (ab_bin (fun x y => x + y))),
  (26, ab_nx 27 (ab_ald 1)),
  (27, ab_nx 28 (ab_ast 1)),
  (28, ab_nx 31 (ab_iinc 2 1)),
  (31, ab_goto 2),
  (34, ab_nx 35 (ab_lit (.int 0))),
  (35, ab_nx 36 (ab_istore 2)),
  (36, ab_nx 37 (ab_iload 2)),
  (37, ab_nx 39 (ab_lit (.int 8))),
  (39, ab_icmp 42 72 (fun x y => decide (y ≤ x))),
  (42, ab_nx 43 (ab_aload 0)),
  (43, ab_nx 46 (ab_getf 11 26)),
  (46, ab_nx 48 (ab_lit (.int 20))),
  (48, ab_nx 49 (ab_iload 1)),
  (49, ab_nx 50 (ab_bin (fun x y => x * y))),
  (50, ab_nx 52 (ab_lit (.int 12))),
  (52, ab_nx 53 (ab_bin (fun x y => x + y))),
  (53, ab_nx 54 (ab_iload 2)),
  (54, ab_nx 55 (ab_bin (fun x y => x + y))),
  (55, ab_nx 56 (ab_aload 0)),
  (56, ab_nx 59 (ab_getf 11 6)),
  (59, ab_nx 62 (ab_lit (.int 172))),
  (62, ab_nx 63 (ab_iload 2)),
  (63, ab_nx 64 (ab_bin (fun x y => x + y))),
  (64, ab_nx 65 (ab_ald 1)),
  (65, ab_nx 66 (ab_ast 1)),
  (66, ab_nx 69 (ab_iinc 2 1)),
  (69, ab_goto 36),
  (72, ab_vret 0 0)]
set_option maxRecDepth 100000 in
theorem dq39_12 : ([(0, .iconst 0, 1), (1, .istore_n 2, 1), (2, .iload_n 2, 1), (3, .bipush 12, 2), (5, .if_icmp .ge 29, 3), (8, .aload_n 0, 1), (9, .getfield 59, 3), (12, .bipush 20, 2), (14, .iload_n 1, 1), (15, .imul, 1), (16, .iload_n 2, 1), (17, .iadd, 1), (18, .aload_n 0, 1), (19, .getfield 33, 3), (22, .bipush 124, 2), (24, .iload_n 2, 1)] : List (Nat × Instr × Nat)).all (fun q => decide (decode cX11_lays q.1 = .ok q.2)) = true := by decide +kernel
set_option maxRecDepth 100000 in
theorem dq39_13 : ([(25, .iadd, 1), (26, .iaload, 1), (27, .iastore, 1), (28, .iinc 2 1, 3), (31, .goto (-29), 3), (34, .iconst 0, 1), (35, .istore_n 2, 1), (36, .iload_n 2, 1), (37, .bipush 8, 2), (39, .if_icmp .ge 33, 3), (42, .aload_n 0, 1), (43, .getfield 59, 3), (46, .bipush 20, 2), (48, .iload_n 1, 1), (49, .imul, 1), (50, .bipush 12, 2)] : List (Nat × Instr × Nat)).all (fun q => decide (decode cX11_lays q.1 = .ok q.2)) = true := by decide +kernel
set_option maxRecDepth 100000 in
theorem dq39_14 : ([(52, .iadd, 1), (53, .iload_n 2, 1), (54, .iadd, 1), (55, .aload_n 0, 1), (56, .getfield 33, 3), (59, .sipush 172, 3), (62, .iload_n 2, 1), (63, .iadd, 1), (64, .iaload, 1), (65, .iastore, 1), (66, .iinc 2 1, 3), (69, .goto (-33), 3), (72, .return_, 1)] : List (Nat × Instr × Nat)).all (fun q => decide (decode cX11_lays q.1 = .ok q.2)) = true := by decide +kernel
set_option maxRecDepth 100000 in
set_option maxHeartbeats 4000000 in
theorem M_X11_lays {l : Launch} {b : ab_B} {D : va_G} {cA : Nat → ClassId} : ab_M l b D ab_cl cA (ab_E0 b) yX11_lays (Cond.code yX11_lays cX11_lays 3 none :: ab_G) ({ frames := 1, cells := 0, slots := 0, locals := 100 } : Room) (ab_X (ab_T L_X11_lays) 3) := by
  refine ab_meth (ret := none) L_X11_lays (by decide) rfl fun p e R s m args below meth c o C => ?_
  unfold L_X11_lays
  refine List.forall_mem_cons.mpr ⟨ok_iconst C (show decode cX11_lays 0 = .ok (.iconst 0, 1) from dk_at dq39_12 (i := 0) rfl) (by decide) rfl, ?_⟩
  refine List.forall_mem_cons.mpr ⟨ok_istore_n C (show decode cX11_lays 1 = .ok (.istore_n 2, 1) from dk_at dq39_12 (i := 1) rfl) rfl (by decide) rfl, ?_⟩
  refine List.forall_mem_cons.mpr ⟨ok_iload_n C (show decode cX11_lays 2 = .ok (.iload_n 2, 1) from dk_at dq39_12 (i := 2) rfl) rfl rfl, ?_⟩
  refine List.forall_mem_cons.mpr ⟨ok_bipush C (show decode cX11_lays 3 = .ok (.bipush 12, 2) from dk_at dq39_12 (i := 3) rfl) (by decide) rfl, ?_⟩
  refine List.forall_mem_cons.mpr ⟨ok_icmpge C (show decode cX11_lays 5 = .ok (.if_icmp .ge 29, 3) from dk_at dq39_12 (i := 4) rfl) (tg := 34) (by decide) rfl rfl, ?_⟩
  refine List.forall_mem_cons.mpr ⟨ok_aload_n C (show decode cX11_lays 8 = .ok (.aload_n 0, 1) from dk_at dq39_12 (i := 5) rfl) rfl rfl, ?_⟩
  refine List.forall_mem_cons.mpr ⟨ok_getf C (wi_X11) rfl (by decide) kw_1206 (show decode cX11_lays 9 = .ok (.getfield 59, 3) from dk_at dq39_12 (i := 6) rfl) rfl, ?_⟩
  refine List.forall_mem_cons.mpr ⟨ok_bipush C (show decode cX11_lays 12 = .ok (.bipush 20, 2) from dk_at dq39_12 (i := 7) rfl) (by decide) rfl, ?_⟩
  refine List.forall_mem_cons.mpr ⟨ok_iload_n C (show decode cX11_lays 14 = .ok (.iload_n 1, 1) from dk_at dq39_12 (i := 8) rfl) rfl rfl, ?_⟩
  refine List.forall_mem_cons.mpr ⟨ok_imul C (show decode cX11_lays 15 = .ok (.imul, 1) from dk_at dq39_12 (i := 9) rfl) rfl, ?_⟩
  refine List.forall_mem_cons.mpr ⟨ok_iload_n C (show decode cX11_lays 16 = .ok (.iload_n 2, 1) from dk_at dq39_12 (i := 10) rfl) rfl rfl, ?_⟩
  refine List.forall_mem_cons.mpr ⟨ok_iadd C (show decode cX11_lays 17 = .ok (.iadd, 1) from dk_at dq39_12 (i := 11) rfl) rfl, ?_⟩
  refine List.forall_mem_cons.mpr ⟨ok_aload_n C (show decode cX11_lays 18 = .ok (.aload_n 0, 1) from dk_at dq39_12 (i := 12) rfl) rfl rfl, ?_⟩
  refine List.forall_mem_cons.mpr ⟨ok_getf C (wi_X11) rfl (by decide) kw_1186 (show decode cX11_lays 19 = .ok (.getfield 33, 3) from dk_at dq39_12 (i := 13) rfl) rfl, ?_⟩
  refine List.forall_mem_cons.mpr ⟨ok_bipush C (show decode cX11_lays 22 = .ok (.bipush 124, 2) from dk_at dq39_12 (i := 14) rfl) (by decide) rfl, ?_⟩
  refine List.forall_mem_cons.mpr ⟨ok_iload_n C (show decode cX11_lays 24 = .ok (.iload_n 2, 1) from dk_at dq39_12 (i := 15) rfl) rfl rfl, ?_⟩
  refine List.forall_mem_cons.mpr ⟨ok_iadd C (show decode cX11_lays 25 = .ok (.iadd, 1) from dk_at dq39_13 (i := 0) rfl) rfl, ?_⟩
  refine List.forall_mem_cons.mpr ⟨ok_iaload C (show decode cX11_lays 26 = .ok (.iaload, 1) from dk_at dq39_13 (i := 1) rfl) rfl, ?_⟩
  refine List.forall_mem_cons.mpr ⟨ok_iastore C (show decode cX11_lays 27 = .ok (.iastore, 1) from dk_at dq39_13 (i := 2) rfl) rfl, ?_⟩
  refine List.forall_mem_cons.mpr ⟨ok_iinc C (show decode cX11_lays 28 = .ok (.iinc 2 1, 3) from dk_at dq39_13 (i := 3) rfl) (by decide) (by decide) rfl, ?_⟩
  refine List.forall_mem_cons.mpr ⟨ok_goto C (show decode cX11_lays 31 = .ok (.goto (-29), 3) from dk_at dq39_13 (i := 4) rfl) (tg := 2) (by decide) rfl, ?_⟩
  refine List.forall_mem_cons.mpr ⟨ok_iconst C (show decode cX11_lays 34 = .ok (.iconst 0, 1) from dk_at dq39_13 (i := 5) rfl) (by decide) rfl, ?_⟩
  refine List.forall_mem_cons.mpr ⟨ok_istore_n C (show decode cX11_lays 35 = .ok (.istore_n 2, 1) from dk_at dq39_13 (i := 6) rfl) rfl (by decide) rfl, ?_⟩
  refine List.forall_mem_cons.mpr ⟨ok_iload_n C (show decode cX11_lays 36 = .ok (.iload_n 2, 1) from dk_at dq39_13 (i := 7) rfl) rfl rfl, ?_⟩
  refine List.forall_mem_cons.mpr ⟨ok_bipush C (show decode cX11_lays 37 = .ok (.bipush 8, 2) from dk_at dq39_13 (i := 8) rfl) (by decide) rfl, ?_⟩
  refine List.forall_mem_cons.mpr ⟨ok_icmpge C (show decode cX11_lays 39 = .ok (.if_icmp .ge 33, 3) from dk_at dq39_13 (i := 9) rfl) (tg := 72) (by decide) rfl rfl, ?_⟩
  refine List.forall_mem_cons.mpr ⟨ok_aload_n C (show decode cX11_lays 42 = .ok (.aload_n 0, 1) from dk_at dq39_13 (i := 10) rfl) rfl rfl, ?_⟩
  refine List.forall_mem_cons.mpr ⟨ok_getf C (wi_X11) rfl (by decide) kw_1206 (show decode cX11_lays 43 = .ok (.getfield 59, 3) from dk_at dq39_13 (i := 11) rfl) rfl, ?_⟩
  refine List.forall_mem_cons.mpr ⟨ok_bipush C (show decode cX11_lays 46 = .ok (.bipush 20, 2) from dk_at dq39_13 (i := 12) rfl) (by decide) rfl, ?_⟩
  refine List.forall_mem_cons.mpr ⟨ok_iload_n C (show decode cX11_lays 48 = .ok (.iload_n 1, 1) from dk_at dq39_13 (i := 13) rfl) rfl rfl, ?_⟩
  refine List.forall_mem_cons.mpr ⟨ok_imul C (show decode cX11_lays 49 = .ok (.imul, 1) from dk_at dq39_13 (i := 14) rfl) rfl, ?_⟩
  refine List.forall_mem_cons.mpr ⟨ok_bipush C (show decode cX11_lays 50 = .ok (.bipush 12, 2) from dk_at dq39_13 (i := 15) rfl) (by decide) rfl, ?_⟩
  refine List.forall_mem_cons.mpr ⟨ok_iadd C (show decode cX11_lays 52 = .ok (.iadd, 1) from dk_at dq39_14 (i := 0) rfl) rfl, ?_⟩
  refine List.forall_mem_cons.mpr ⟨ok_iload_n C (show decode cX11_lays 53 = .ok (.iload_n 2, 1) from dk_at dq39_14 (i := 1) rfl) rfl rfl, ?_⟩
  refine List.forall_mem_cons.mpr ⟨ok_iadd C (show decode cX11_lays 54 = .ok (.iadd, 1) from dk_at dq39_14 (i := 2) rfl) rfl, ?_⟩
  refine List.forall_mem_cons.mpr ⟨ok_aload_n C (show decode cX11_lays 55 = .ok (.aload_n 0, 1) from dk_at dq39_14 (i := 3) rfl) rfl rfl, ?_⟩
  refine List.forall_mem_cons.mpr ⟨ok_getf C (wi_X11) rfl (by decide) kw_1186 (show decode cX11_lays 56 = .ok (.getfield 33, 3) from dk_at dq39_14 (i := 4) rfl) rfl, ?_⟩
  refine List.forall_mem_cons.mpr ⟨ok_sipush C (show decode cX11_lays 59 = .ok (.sipush 172, 3) from dk_at dq39_14 (i := 5) rfl) (by decide) rfl, ?_⟩
  refine List.forall_mem_cons.mpr ⟨ok_iload_n C (show decode cX11_lays 62 = .ok (.iload_n 2, 1) from dk_at dq39_14 (i := 6) rfl) rfl rfl, ?_⟩
  refine List.forall_mem_cons.mpr ⟨ok_iadd C (show decode cX11_lays 63 = .ok (.iadd, 1) from dk_at dq39_14 (i := 7) rfl) rfl, ?_⟩
  refine List.forall_mem_cons.mpr ⟨ok_iaload C (show decode cX11_lays 64 = .ok (.iaload, 1) from dk_at dq39_14 (i := 8) rfl) rfl, ?_⟩
  refine List.forall_mem_cons.mpr ⟨ok_iastore C (show decode cX11_lays 65 = .ok (.iastore, 1) from dk_at dq39_14 (i := 9) rfl) rfl, ?_⟩
  refine List.forall_mem_cons.mpr ⟨ok_iinc C (show decode cX11_lays 66 = .ok (.iinc 2 1, 3) from dk_at dq39_14 (i := 10) rfl) (by decide) (by decide) rfl, ?_⟩
  refine List.forall_mem_cons.mpr ⟨ok_goto C (show decode cX11_lays 69 = .ok (.goto (-33), 3) from dk_at dq39_14 (i := 11) rfl) (tg := 36) (by decide) rfl, ?_⟩
  refine List.forall_mem_cons.mpr ⟨ok_vret C rfl (show decode cX11_lays 72 = .ok (.return_, 1) from dk_at dq39_14 (i := 12) rfl), ?_⟩
  exact fun _ h => absurd h List.not_mem_nil
def L_X11_areAlike : List (Nat × ab_A) := [
  (0, ab_nx 1 (ab_lit (.int 0))),
  (1, ab_nx 2 (ab_istore 3)),
  (2, ab_nx 3 (ab_iload 3)),
  (3, ab_nx 5 (ab_lit (.int 20))),
  (5, ab_icmp 8 41 (fun x y => decide (y ≤ x))),
  (8, ab_nx 9 (ab_aload 0)),
  (9, ab_nx 12 (ab_getf 11 26)),
  (12, ab_nx 14 (ab_lit (.int 20))),
  (14, ab_nx 15 (ab_iload 1)),
  (15, ab_nx 16 (ab_bin (fun x y => x * y))),
  (16, ab_nx 17 (ab_iload 3)),
  (17, ab_nx 18 (ab_bin (fun x y => x + y))),
  (18, ab_nx 19 (ab_ald 1)),
  (19, ab_nx 20 (ab_aload 0)),
  (20, ab_nx 23 (ab_getf 11 26)),
  (23, ab_nx 25 (ab_lit (.int 20))),
  (25, ab_nx 26 (ab_iload 2)),
  (26, ab_nx 27 (ab_bin (fun x y => x * y))),
  (27, ab_nx 28 (ab_iload 3)),
  (28, ab_nx 29 (ab_bin (fun x y => x + y))),
  (29, ab_nx 30 (ab_ald 1)),
  (30, ab_icmp 33 35 (fun x y => decide (x = y))),
  (33, ab_nx 34 (ab_lit (.int 0))),
  (34, ab_zret 0 0),
  (35, ab_nx 38 (ab_iinc 3 1)),
  (38, ab_goto 2),
  (41, ab_nx 42 (ab_lit (.int 1))),
  (42, ab_zret 0 0)]
set_option maxRecDepth 100000 in
theorem dq39_15 : ([(0, .iconst 0, 1), (1, .istore_n 3, 1), (2, .iload_n 3, 1), (3, .bipush 20, 2), (5, .if_icmp .ge 36, 3), (8, .aload_n 0, 1), (9, .getfield 59, 3), (12, .bipush 20, 2), (14, .iload_n 1, 1), (15, .imul, 1), (16, .iload_n 3, 1), (17, .iadd, 1), (18, .iaload, 1), (19, .aload_n 0, 1), (20, .getfield 59, 3), (23, .bipush 20, 2)] : List (Nat × Instr × Nat)).all (fun q => decide (decode cX11_areAlike q.1 = .ok q.2)) = true := by decide +kernel
set_option maxRecDepth 100000 in
theorem dq39_16 : ([(25, .iload_n 2, 1), (26, .imul, 1), (27, .iload_n 3, 1), (28, .iadd, 1), (29, .iaload, 1), (30, .if_icmp .eq 5, 3), (33, .iconst 0, 1), (34, .ireturn, 1), (35, .iinc 3 1, 3), (38, .goto (-36), 3), (41, .iconst 1, 1), (42, .ireturn, 1)] : List (Nat × Instr × Nat)).all (fun q => decide (decode cX11_areAlike q.1 = .ok q.2)) = true := by decide +kernel
set_option maxRecDepth 100000 in
set_option maxHeartbeats 4000000 in
theorem M_X11_areAlike {l : Launch} {b : ab_B} {D : va_G} {cA : Nat → ClassId} : ab_M l b D ab_cl cA (ab_E0 b) yX11_areAlike (Cond.code yX11_areAlike cX11_areAlike 4 (some .boolean) :: ab_G) ({ frames := 1, cells := 0, slots := 0, locals := 100 } : Room) (ab_X (ab_T L_X11_areAlike) 4) := by
  refine ab_meth (ret := (some .boolean)) L_X11_areAlike (by decide) rfl fun p e R s m args below meth c o C => ?_
  unfold L_X11_areAlike
  refine List.forall_mem_cons.mpr ⟨ok_iconst C (show decode cX11_areAlike 0 = .ok (.iconst 0, 1) from dk_at dq39_15 (i := 0) rfl) (by decide) rfl, ?_⟩
  refine List.forall_mem_cons.mpr ⟨ok_istore_n C (show decode cX11_areAlike 1 = .ok (.istore_n 3, 1) from dk_at dq39_15 (i := 1) rfl) rfl (by decide) rfl, ?_⟩
  refine List.forall_mem_cons.mpr ⟨ok_iload_n C (show decode cX11_areAlike 2 = .ok (.iload_n 3, 1) from dk_at dq39_15 (i := 2) rfl) rfl rfl, ?_⟩
  refine List.forall_mem_cons.mpr ⟨ok_bipush C (show decode cX11_areAlike 3 = .ok (.bipush 20, 2) from dk_at dq39_15 (i := 3) rfl) (by decide) rfl, ?_⟩
  refine List.forall_mem_cons.mpr ⟨ok_icmpge C (show decode cX11_areAlike 5 = .ok (.if_icmp .ge 36, 3) from dk_at dq39_15 (i := 4) rfl) (tg := 41) (by decide) rfl rfl, ?_⟩
  refine List.forall_mem_cons.mpr ⟨ok_aload_n C (show decode cX11_areAlike 8 = .ok (.aload_n 0, 1) from dk_at dq39_15 (i := 5) rfl) rfl rfl, ?_⟩
  refine List.forall_mem_cons.mpr ⟨ok_getf C (wi_X11) rfl (by decide) kw_1206 (show decode cX11_areAlike 9 = .ok (.getfield 59, 3) from dk_at dq39_15 (i := 6) rfl) rfl, ?_⟩
  refine List.forall_mem_cons.mpr ⟨ok_bipush C (show decode cX11_areAlike 12 = .ok (.bipush 20, 2) from dk_at dq39_15 (i := 7) rfl) (by decide) rfl, ?_⟩
  refine List.forall_mem_cons.mpr ⟨ok_iload_n C (show decode cX11_areAlike 14 = .ok (.iload_n 1, 1) from dk_at dq39_15 (i := 8) rfl) rfl rfl, ?_⟩
  refine List.forall_mem_cons.mpr ⟨ok_imul C (show decode cX11_areAlike 15 = .ok (.imul, 1) from dk_at dq39_15 (i := 9) rfl) rfl, ?_⟩
  refine List.forall_mem_cons.mpr ⟨ok_iload_n C (show decode cX11_areAlike 16 = .ok (.iload_n 3, 1) from dk_at dq39_15 (i := 10) rfl) rfl rfl, ?_⟩
  refine List.forall_mem_cons.mpr ⟨ok_iadd C (show decode cX11_areAlike 17 = .ok (.iadd, 1) from dk_at dq39_15 (i := 11) rfl) rfl, ?_⟩
  refine List.forall_mem_cons.mpr ⟨ok_iaload C (show decode cX11_areAlike 18 = .ok (.iaload, 1) from dk_at dq39_15 (i := 12) rfl) rfl, ?_⟩
  refine List.forall_mem_cons.mpr ⟨ok_aload_n C (show decode cX11_areAlike 19 = .ok (.aload_n 0, 1) from dk_at dq39_15 (i := 13) rfl) rfl rfl, ?_⟩
  refine List.forall_mem_cons.mpr ⟨ok_getf C (wi_X11) rfl (by decide) kw_1206 (show decode cX11_areAlike 20 = .ok (.getfield 59, 3) from dk_at dq39_15 (i := 14) rfl) rfl, ?_⟩
  refine List.forall_mem_cons.mpr ⟨ok_bipush C (show decode cX11_areAlike 23 = .ok (.bipush 20, 2) from dk_at dq39_15 (i := 15) rfl) (by decide) rfl, ?_⟩
  refine List.forall_mem_cons.mpr ⟨ok_iload_n C (show decode cX11_areAlike 25 = .ok (.iload_n 2, 1) from dk_at dq39_16 (i := 0) rfl) rfl rfl, ?_⟩
  refine List.forall_mem_cons.mpr ⟨ok_imul C (show decode cX11_areAlike 26 = .ok (.imul, 1) from dk_at dq39_16 (i := 1) rfl) rfl, ?_⟩
  refine List.forall_mem_cons.mpr ⟨ok_iload_n C (show decode cX11_areAlike 27 = .ok (.iload_n 3, 1) from dk_at dq39_16 (i := 2) rfl) rfl rfl, ?_⟩
  refine List.forall_mem_cons.mpr ⟨ok_iadd C (show decode cX11_areAlike 28 = .ok (.iadd, 1) from dk_at dq39_16 (i := 3) rfl) rfl, ?_⟩
  refine List.forall_mem_cons.mpr ⟨ok_iaload C (show decode cX11_areAlike 29 = .ok (.iaload, 1) from dk_at dq39_16 (i := 4) rfl) rfl, ?_⟩
  refine List.forall_mem_cons.mpr ⟨ok_icmpeq C (show decode cX11_areAlike 30 = .ok (.if_icmp .eq 5, 3) from dk_at dq39_16 (i := 5) rfl) (tg := 35) (by decide) rfl rfl, ?_⟩
  refine List.forall_mem_cons.mpr ⟨ok_iconst C (show decode cX11_areAlike 33 = .ok (.iconst 0, 1) from dk_at dq39_16 (i := 6) rfl) (by decide) rfl, ?_⟩
  refine List.forall_mem_cons.mpr ⟨ok_zret C rfl (show decode cX11_areAlike 34 = .ok (.ireturn, 1) from dk_at dq39_16 (i := 7) rfl), ?_⟩
  refine List.forall_mem_cons.mpr ⟨ok_iinc C (show decode cX11_areAlike 35 = .ok (.iinc 3 1, 3) from dk_at dq39_16 (i := 8) rfl) (by decide) (by decide) rfl, ?_⟩
  refine List.forall_mem_cons.mpr ⟨ok_goto C (show decode cX11_areAlike 38 = .ok (.goto (-36), 3) from dk_at dq39_16 (i := 9) rfl) (tg := 2) (by decide) rfl, ?_⟩
  refine List.forall_mem_cons.mpr ⟨ok_iconst C (show decode cX11_areAlike 41 = .ok (.iconst 1, 1) from dk_at dq39_16 (i := 10) rfl) (by decide) rfl, ?_⟩
  refine List.forall_mem_cons.mpr ⟨ok_zret C rfl (show decode cX11_areAlike 42 = .ok (.ireturn, 1) from dk_at dq39_16 (i := 11) rfl), ?_⟩
  exact fun _ h => absurd h List.not_mem_nil
def L_X11_settles (f_X11_tries : List Value → ab_H → Option ab_O) (f_X11_lays : List Value → ab_H → Option ab_O) (f_X11_areAlike : List Value → ab_H → Option ab_O) (f_X11_goesOn : List Value → ab_H → Option ab_O) (f_X11_back : List Value → ab_H → Option ab_O) : List (Nat × ab_A) := [
  (0, ab_nx 1 (ab_aload 0)),
  (1, ab_nx 2 (ab_lit (.int 0))),
  (2, ab_nx 5 (ab_putf 11 0 0)),
  (5, ab_nx 6 (ab_aload 0)),
  (6, ab_nx 9 (ab_callV 1 11 f_X11_tries 0 0 0 0)),
  (9, ab_nx 10 (ab_lit (.int (-1)))),
  (10, ab_nx 11 (ab_istore 1)),
  (11, ab_nx 12 (ab_lit (.int 0))),
  (12, ab_nx 13 (ab_istore 2)),
  (13, ab_nx 14 (ab_iload 2)),
  (14, ab_nx 17 (ab_lit (.int 202))),
  (17, ab_icmp 20 82 (fun x y => decide (y < x))),
  (20, ab_nx 21 (ab_iload 1)),
  (21, ab_if 24 82 (fun x => decide (0 ≤ x))),
  (24, ab_nx 25 (ab_aload 0)),
  (25, ab_nx 26 (ab_iload 2)),
  (26, ab_nx 27 (ab_lit (.int 3))),
  (27, ab_nx 28 ab_irem),
  (28, ab_nx 31 (ab_callV 2 11 f_X11_lays 0 0 0 0)),
  (31, ab_nx 32 (ab_iload 2)),
  (32, ab_nx 33 (ab_lit (.int 1))),
  (33, ab_icmp 36 64 (fun x y => decide (x ≤ y))),
  (36, ab_nx 37 (ab_aload 0)),
  (37, ab_nx 38 (ab_iload 2)),
  (38, ab_nx 39 (ab_lit (.int 3))),
  (39, ab_nx 40 ab_irem),
  (40, ab_nx 41 (ab_iload 2)),
  (41, ab_nx 42 (ab_lit (.int 2))),
  (42, ab_nx 43 (ab_bin (fun x y => x - y))),
  (43, ab_nx 44 (ab_lit (.int 3))),
  (44, ab_nx 45 ab_irem),
  (45, ab_nx 48 (ab_callV 3 11 f_X11_areAlike 0 0 0 0)),
  (48, ab_if 51 64 (fun x => decide (x = 0))),
  (51, ab_nx 52 (ab_aload 0)),
  (52, ab_nx 55 (ab_getf 11 6)),
  (55, ab_nx 57 (ab_lit (.int 120))),
  (57, ab_nx 58 (ab_ald 1)),
  (58, ab_nx 59 (ab_lit (.int 2))),
  (59, ab_nx 60 (ab_bin (fun x y => x - y))),
  (60, ab_nx 61 (ab_istore 1)),
  (61, ab_goto 76),
  (64, ab_nx 65 (ab_aload 0)),
  (65, ab_nx 66 (ab_lit (.int 1))),
  (66, ab_nx 69 (ab_callV 2 11 f_X11_goesOn 0 0 0 0)),
  (69, ab_if 72 76 (fun x => !decide (x = 0))),
  (72, ab_nx 75 (ab_lit (.int 202))),
  (75, ab_nx 76 (ab_istore 2)),
  (76, ab_nx 79 (ab_iinc 2 1)),
  (79, ab_goto 13),
  (82, ab_nx 83 (ab_aload 0)),
  (83, ab_nx 86 (ab_callV 1 11 f_X11_back 0 0 0 0)),
  (86, ab_nx 87 (ab_iload 1)),
  (87, ab_ret 0 0)]
set_option maxRecDepth 100000 in
theorem dq39_17 : ([(0, .aload_n 0, 1), (1, .iconst 0, 1), (2, .putfield 1, 3), (5, .aload_n 0, 1), (6, .invokevirtual 317, 3), (9, .iconst (-1), 1), (10, .istore_n 1, 1), (11, .iconst 0, 1), (12, .istore_n 2, 1), (13, .iload_n 2, 1), (14, .sipush 202, 3), (17, .if_icmp .gt 65, 3), (20, .iload_n 1, 1), (21, .ifCond .ge 61, 3), (24, .aload_n 0, 1), (25, .iload_n 2, 1)] : List (Nat × Instr × Nat)).all (fun q => decide (decode cX11_settles q.1 = .ok q.2)) = true := by decide +kernel
set_option maxRecDepth 100000 in
theorem dq39_18 : ([(26, .iconst 3, 1), (27, .irem, 1), (28, .invokevirtual 326, 3), (31, .iload_n 2, 1), (32, .iconst 1, 1), (33, .if_icmp .le 31, 3), (36, .aload_n 0, 1), (37, .iload_n 2, 1), (38, .iconst 3, 1), (39, .irem, 1), (40, .iload_n 2, 1), (41, .iconst 2, 1), (42, .isub, 1), (43, .iconst 3, 1), (44, .irem, 1), (45, .invokevirtual 329, 3)] : List (Nat × Instr × Nat)).all (fun q => decide (decode cX11_settles q.1 = .ok q.2)) = true := by decide +kernel
set_option maxRecDepth 100000 in
theorem dq39_19 : ([(48, .ifCond .eq 16, 3), (51, .aload_n 0, 1), (52, .getfield 33, 3), (55, .bipush 120, 2), (57, .iaload, 1), (58, .iconst 2, 1), (59, .isub, 1), (60, .istore_n 1, 1), (61, .goto 15, 3), (64, .aload_n 0, 1), (65, .iconst 1, 1), (66, .invokevirtual 314, 3), (69, .ifCond .ne 7, 3), (72, .sipush 202, 3), (75, .istore_n 2, 1), (76, .iinc 2 1, 3)] : List (Nat × Instr × Nat)).all (fun q => decide (decode cX11_settles q.1 = .ok q.2)) = true := by decide +kernel
set_option maxRecDepth 100000 in
theorem dq39_20 : ([(79, .goto (-66), 3), (82, .aload_n 0, 1), (83, .invokevirtual 320, 3), (86, .iload_n 1, 1), (87, .ireturn, 1)] : List (Nat × Instr × Nat)).all (fun q => decide (decode cX11_settles q.1 = .ok q.2)) = true := by decide +kernel
set_option maxRecDepth 100000 in
set_option maxHeartbeats 4000000 in
theorem M_X11_settles {l : Launch} {b : ab_B} {D : va_G} {cA : Nat → ClassId} {f_X11_tries : List Value → ab_H → Option ab_O} (h_X11_tries : ab_M l b D ab_cl cA (ab_E0 b) yX11_tries (Cond.code yX11_tries cX11_tries 2 none :: ab_G) ({ frames := 1, cells := 0, slots := 0, locals := 100 } : Room) f_X11_tries) {f_X11_lays : List Value → ab_H → Option ab_O} (h_X11_lays : ab_M l b D ab_cl cA (ab_E0 b) yX11_lays (Cond.code yX11_lays cX11_lays 3 none :: ab_G) ({ frames := 1, cells := 0, slots := 0, locals := 100 } : Room) f_X11_lays) {f_X11_areAlike : List Value → ab_H → Option ab_O} (h_X11_areAlike : ab_M l b D ab_cl cA (ab_E0 b) yX11_areAlike (Cond.code yX11_areAlike cX11_areAlike 4 (some .boolean) :: ab_G) ({ frames := 1, cells := 0, slots := 0, locals := 100 } : Room) f_X11_areAlike) {f_X11_goesOn : List Value → ab_H → Option ab_O} (h_X11_goesOn : ab_M l b D ab_cl cA (ab_E0 b) yX11_goesOn (Cond.code yX11_goesOn cX11_goesOn 3 (some .int) :: ab_G) ({ frames := 8, cells := 0, slots := 0, locals := 800 } : Room) f_X11_goesOn) {f_X11_back : List Value → ab_H → Option ab_O} (h_X11_back : ab_M l b D ab_cl cA (ab_E0 b) yX11_back (Cond.code yX11_back cX11_back 2 none :: ab_G) ({ frames := 1, cells := 0, slots := 0, locals := 100 } : Room) f_X11_back) : ab_M l b D ab_cl cA (ab_E0 b) yX11_settles (Cond.code yX11_settles cX11_settles 3 (some .int) :: ab_G) ({ frames := 9, cells := 0, slots := 0, locals := 900 } : Room) (ab_X (ab_T (L_X11_settles f_X11_tries f_X11_lays f_X11_areAlike f_X11_goesOn f_X11_back)) 3) := by
  refine ab_meth (ret := (some .int)) (L_X11_settles f_X11_tries f_X11_lays f_X11_areAlike f_X11_goesOn f_X11_back) (by decide) rfl fun p e R s m args below meth c o C => ?_
  unfold L_X11_settles
  refine List.forall_mem_cons.mpr ⟨ok_aload_n C (show decode cX11_settles 0 = .ok (.aload_n 0, 1) from dk_at dq39_17 (i := 0) rfl) rfl rfl, ?_⟩
  refine List.forall_mem_cons.mpr ⟨ok_iconst C (show decode cX11_settles 1 = .ok (.iconst 0, 1) from dk_at dq39_17 (i := 1) rfl) (by decide) rfl, ?_⟩
  refine List.forall_mem_cons.mpr ⟨ok_putf C (wi_X11) tyX11 tyX11_ok nmX11 rfl (by decide) kw_1180 (Or.inl rfl) (Or.inl ⟨rfl, rfl⟩) (show decode cX11_settles 2 = .ok (.putfield 1, 3) from dk_at dq39_17 (i := 2) rfl) rfl, ?_⟩
  refine List.forall_mem_cons.mpr ⟨ok_aload_n C (show decode cX11_settles 5 = .ok (.aload_n 0, 1) from dk_at dq39_17 (i := 3) rfl) rfl rfl, ?_⟩
  refine List.forall_mem_cons.mpr ⟨ok_callV C h_X11_tries ⟨rfl, rfl⟩ rfl kw_1556 kw_1553 kw_1555 kp_86 kw_11 rfl ds_X11_tries ⟨by decide, by decide⟩ (show decode cX11_settles 6 = .ok (.invokevirtual 317, 3) from dk_at dq39_17 (i := 4) rfl) rfl, ?_⟩
  refine List.forall_mem_cons.mpr ⟨ok_iconst C (show decode cX11_settles 9 = .ok (.iconst (-1), 1) from dk_at dq39_17 (i := 5) rfl) (by decide) rfl, ?_⟩
  refine List.forall_mem_cons.mpr ⟨ok_istore_n C (show decode cX11_settles 10 = .ok (.istore_n 1, 1) from dk_at dq39_17 (i := 6) rfl) rfl (by decide) rfl, ?_⟩
  refine List.forall_mem_cons.mpr ⟨ok_iconst C (show decode cX11_settles 11 = .ok (.iconst 0, 1) from dk_at dq39_17 (i := 7) rfl) (by decide) rfl, ?_⟩
  refine List.forall_mem_cons.mpr ⟨ok_istore_n C (show decode cX11_settles 12 = .ok (.istore_n 2, 1) from dk_at dq39_17 (i := 8) rfl) rfl (by decide) rfl, ?_⟩
  refine List.forall_mem_cons.mpr ⟨ok_iload_n C (show decode cX11_settles 13 = .ok (.iload_n 2, 1) from dk_at dq39_17 (i := 9) rfl) rfl rfl, ?_⟩
  refine List.forall_mem_cons.mpr ⟨ok_sipush C (show decode cX11_settles 14 = .ok (.sipush 202, 3) from dk_at dq39_17 (i := 10) rfl) (by decide) rfl, ?_⟩
  refine List.forall_mem_cons.mpr ⟨ok_icmpgt C (show decode cX11_settles 17 = .ok (.if_icmp .gt 65, 3) from dk_at dq39_17 (i := 11) rfl) (tg := 82) (by decide) rfl rfl, ?_⟩
  refine List.forall_mem_cons.mpr ⟨ok_iload_n C (show decode cX11_settles 20 = .ok (.iload_n 1, 1) from dk_at dq39_17 (i := 12) rfl) rfl rfl, ?_⟩
  refine List.forall_mem_cons.mpr ⟨ok_ifge C (show decode cX11_settles 21 = .ok (.ifCond .ge 61, 3) from dk_at dq39_17 (i := 13) rfl) (tg := 82) (by decide) rfl rfl, ?_⟩
  refine List.forall_mem_cons.mpr ⟨ok_aload_n C (show decode cX11_settles 24 = .ok (.aload_n 0, 1) from dk_at dq39_17 (i := 14) rfl) rfl rfl, ?_⟩
  refine List.forall_mem_cons.mpr ⟨ok_iload_n C (show decode cX11_settles 25 = .ok (.iload_n 2, 1) from dk_at dq39_17 (i := 15) rfl) rfl rfl, ?_⟩
  refine List.forall_mem_cons.mpr ⟨ok_iconst C (show decode cX11_settles 26 = .ok (.iconst 3, 1) from dk_at dq39_18 (i := 0) rfl) (by decide) rfl, ?_⟩
  refine List.forall_mem_cons.mpr ⟨ok_irem C (show decode cX11_settles 27 = .ok (.irem, 1) from dk_at dq39_18 (i := 1) rfl) rfl, ?_⟩
  refine List.forall_mem_cons.mpr ⟨ok_callV C h_X11_lays ⟨rfl, rfl⟩ rfl kw_1592 kw_1589 kw_1591 kp_89 kw_11 rfl ds_X11_lays ⟨by decide, by decide⟩ (show decode cX11_settles 28 = .ok (.invokevirtual 326, 3) from dk_at dq39_18 (i := 2) rfl) rfl, ?_⟩
  refine List.forall_mem_cons.mpr ⟨ok_iload_n C (show decode cX11_settles 31 = .ok (.iload_n 2, 1) from dk_at dq39_18 (i := 3) rfl) rfl rfl, ?_⟩
  refine List.forall_mem_cons.mpr ⟨ok_iconst C (show decode cX11_settles 32 = .ok (.iconst 1, 1) from dk_at dq39_18 (i := 4) rfl) (by decide) rfl, ?_⟩
  refine List.forall_mem_cons.mpr ⟨ok_icmple C (show decode cX11_settles 33 = .ok (.if_icmp .le 31, 3) from dk_at dq39_18 (i := 5) rfl) (tg := 64) (by decide) rfl rfl, ?_⟩
  refine List.forall_mem_cons.mpr ⟨ok_aload_n C (show decode cX11_settles 36 = .ok (.aload_n 0, 1) from dk_at dq39_18 (i := 6) rfl) rfl rfl, ?_⟩
  refine List.forall_mem_cons.mpr ⟨ok_iload_n C (show decode cX11_settles 37 = .ok (.iload_n 2, 1) from dk_at dq39_18 (i := 7) rfl) rfl rfl, ?_⟩
  refine List.forall_mem_cons.mpr ⟨ok_iconst C (show decode cX11_settles 38 = .ok (.iconst 3, 1) from dk_at dq39_18 (i := 8) rfl) (by decide) rfl, ?_⟩
  refine List.forall_mem_cons.mpr ⟨ok_irem C (show decode cX11_settles 39 = .ok (.irem, 1) from dk_at dq39_18 (i := 9) rfl) rfl, ?_⟩
  refine List.forall_mem_cons.mpr ⟨ok_iload_n C (show decode cX11_settles 40 = .ok (.iload_n 2, 1) from dk_at dq39_18 (i := 10) rfl) rfl rfl, ?_⟩
  refine List.forall_mem_cons.mpr ⟨ok_iconst C (show decode cX11_settles 41 = .ok (.iconst 2, 1) from dk_at dq39_18 (i := 11) rfl) (by decide) rfl, ?_⟩
  refine List.forall_mem_cons.mpr ⟨ok_isub C (show decode cX11_settles 42 = .ok (.isub, 1) from dk_at dq39_18 (i := 12) rfl) rfl, ?_⟩
  refine List.forall_mem_cons.mpr ⟨ok_iconst C (show decode cX11_settles 43 = .ok (.iconst 3, 1) from dk_at dq39_18 (i := 13) rfl) (by decide) rfl, ?_⟩
  refine List.forall_mem_cons.mpr ⟨ok_irem C (show decode cX11_settles 44 = .ok (.irem, 1) from dk_at dq39_18 (i := 14) rfl) rfl, ?_⟩
  refine List.forall_mem_cons.mpr ⟨ok_callV C h_X11_areAlike ⟨rfl, rfl⟩ rfl kw_1596 kw_1593 kw_1595 kp_90 kw_11 rfl ds_X11_areAlike ⟨by decide, by decide⟩ (show decode cX11_settles 45 = .ok (.invokevirtual 329, 3) from dk_at dq39_18 (i := 15) rfl) rfl, ?_⟩
  refine List.forall_mem_cons.mpr ⟨ok_ifeq C (show decode cX11_settles 48 = .ok (.ifCond .eq 16, 3) from dk_at dq39_19 (i := 0) rfl) (tg := 64) (by decide) rfl rfl, ?_⟩
  refine List.forall_mem_cons.mpr ⟨ok_aload_n C (show decode cX11_settles 51 = .ok (.aload_n 0, 1) from dk_at dq39_19 (i := 1) rfl) rfl rfl, ?_⟩
  refine List.forall_mem_cons.mpr ⟨ok_getf C (wi_X11) rfl (by decide) kw_1186 (show decode cX11_settles 52 = .ok (.getfield 33, 3) from dk_at dq39_19 (i := 2) rfl) rfl, ?_⟩
  refine List.forall_mem_cons.mpr ⟨ok_bipush C (show decode cX11_settles 55 = .ok (.bipush 120, 2) from dk_at dq39_19 (i := 3) rfl) (by decide) rfl, ?_⟩
  refine List.forall_mem_cons.mpr ⟨ok_iaload C (show decode cX11_settles 57 = .ok (.iaload, 1) from dk_at dq39_19 (i := 4) rfl) rfl, ?_⟩
  refine List.forall_mem_cons.mpr ⟨ok_iconst C (show decode cX11_settles 58 = .ok (.iconst 2, 1) from dk_at dq39_19 (i := 5) rfl) (by decide) rfl, ?_⟩
  refine List.forall_mem_cons.mpr ⟨ok_isub C (show decode cX11_settles 59 = .ok (.isub, 1) from dk_at dq39_19 (i := 6) rfl) rfl, ?_⟩
  refine List.forall_mem_cons.mpr ⟨ok_istore_n C (show decode cX11_settles 60 = .ok (.istore_n 1, 1) from dk_at dq39_19 (i := 7) rfl) rfl (by decide) rfl, ?_⟩
  refine List.forall_mem_cons.mpr ⟨ok_goto C (show decode cX11_settles 61 = .ok (.goto 15, 3) from dk_at dq39_19 (i := 8) rfl) (tg := 76) (by decide) rfl, ?_⟩
  refine List.forall_mem_cons.mpr ⟨ok_aload_n C (show decode cX11_settles 64 = .ok (.aload_n 0, 1) from dk_at dq39_19 (i := 9) rfl) rfl rfl, ?_⟩
  refine List.forall_mem_cons.mpr ⟨ok_iconst C (show decode cX11_settles 65 = .ok (.iconst 1, 1) from dk_at dq39_19 (i := 10) rfl) (by decide) rfl, ?_⟩
  refine List.forall_mem_cons.mpr ⟨ok_callV C h_X11_goesOn ⟨rfl, rfl⟩ rfl kw_1509 kw_1506 kw_1508 kp_81 kw_11 rfl ds_X11_goesOn ⟨by decide, by decide⟩ (show decode cX11_settles 66 = .ok (.invokevirtual 314, 3) from dk_at dq39_19 (i := 11) rfl) rfl, ?_⟩
  refine List.forall_mem_cons.mpr ⟨ok_ifne C (show decode cX11_settles 69 = .ok (.ifCond .ne 7, 3) from dk_at dq39_19 (i := 12) rfl) (tg := 76) (by decide) rfl rfl, ?_⟩
  refine List.forall_mem_cons.mpr ⟨ok_sipush C (show decode cX11_settles 72 = .ok (.sipush 202, 3) from dk_at dq39_19 (i := 13) rfl) (by decide) rfl, ?_⟩
  refine List.forall_mem_cons.mpr ⟨ok_istore_n C (show decode cX11_settles 75 = .ok (.istore_n 2, 1) from dk_at dq39_19 (i := 14) rfl) rfl (by decide) rfl, ?_⟩
  refine List.forall_mem_cons.mpr ⟨ok_iinc C (show decode cX11_settles 76 = .ok (.iinc 2 1, 3) from dk_at dq39_19 (i := 15) rfl) (by decide) (by decide) rfl, ?_⟩
  refine List.forall_mem_cons.mpr ⟨ok_goto C (show decode cX11_settles 79 = .ok (.goto (-66), 3) from dk_at dq39_20 (i := 0) rfl) (tg := 13) (by decide) rfl, ?_⟩
  refine List.forall_mem_cons.mpr ⟨ok_aload_n C (show decode cX11_settles 82 = .ok (.aload_n 0, 1) from dk_at dq39_20 (i := 1) rfl) rfl rfl, ?_⟩
  refine List.forall_mem_cons.mpr ⟨ok_callV C h_X11_back ⟨rfl, rfl⟩ rfl kw_1560 kw_1557 kw_1559 kp_87 kw_11 rfl ds_X11_back ⟨by decide, by decide⟩ (show decode cX11_settles 83 = .ok (.invokevirtual 320, 3) from dk_at dq39_20 (i := 2) rfl) rfl, ?_⟩
  refine List.forall_mem_cons.mpr ⟨ok_iload_n C (show decode cX11_settles 86 = .ok (.iload_n 1, 1) from dk_at dq39_20 (i := 3) rfl) rfl rfl, ?_⟩
  refine List.forall_mem_cons.mpr ⟨ok_ret C rfl (show decode cX11_settles 87 = .ok (.ireturn, 1) from dk_at dq39_20 (i := 4) rfl), ?_⟩
  exact fun _ h => absurd h List.not_mem_nil
def L_X11_hunger (f_X11_isPlace : List Value → ab_H → Option ab_O) (f_X11_isIn : List Value → ab_H → Option ab_O) (f_X11_tries : List Value → ab_H → Option ab_O) (f_X11_cell : List Value → ab_H → Option ab_O) (f_X11_goesOn : List Value → ab_H → Option ab_O) (f_X11_back : List Value → ab_H → Option ab_O) : List (Nat × ab_A) := [
  (0, ab_nx 1 (ab_aload 0)),
  (1, ab_nx 2 (ab_lit (.int 0))),
  (2, ab_nx 5 (ab_putf 11 0 0)),
  (5, ab_nx 6 (ab_aload 0)),
  (6, ab_nx 7 (ab_iload 1)),
  (7, ab_nx 8 (ab_iload 2)),
  (8, ab_nx 11 (ab_callV 3 11 f_X11_isPlace 0 0 0 0)),
  (11, ab_if 14 24 (fun x => decide (x = 0))),
  (14, ab_nx 15 (ab_iload 3)),
  (15, ab_nx 16 (ab_lit (.int 1))),
  (16, ab_nx 18 (ab_lit (.int 60))),
  (18, ab_nx 21 (ab_call 3 f_X11_isIn 0 0 0 0)),
  (21, ab_if 24 26 (fun x => !decide (x = 0))),
  (24, ab_nx 25 (ab_lit (.int (-1)))),
  (25, ab_ret 0 0),
  (26, ab_nx 27 (ab_aload 0)),
  (27, ab_nx 30 (ab_callV 1 11 f_X11_tries 0 0 0 0)),
  (30, ab_nx 31 (ab_aload 0)),
  (31, ab_nx 34 (ab_getf 11 6)),
  (34, ab_nx 37 (ab_lit (.int 148))),
  (37, ab_nx 38 (ab_iload 1)),
  (38, ab_nx 39 (ab_iload 2)),
  (39, ab_nx 42 (ab_call 2 f_X11_cell 0 0 0 0)),
  (42, ab_nx 43 (ab_bin (fun x y => x + y))),
  (43, ab_nx 44 (ab_ald 1)),
  (44, ab_nx 46 (ab_istore 4)),
  (46, ab_nx 47 (ab_aload 0)),
  (47, ab_nx 48 (ab_iload 3)),
  (48, ab_nx 51 (ab_callV 2 11 f_X11_goesOn 0 0 0 0)),
  (51, ab_nx 52 ab_pop),
  (52, ab_nx 53 (ab_aload 0)),
  (53, ab_nx 56 (ab_getf 11 6)),
  (56, ab_nx 59 (ab_lit (.int 148))),
  (59, ab_nx 60 (ab_iload 1)),
  (60, ab_nx 61 (ab_iload 2)),
  (61, ab_nx 64 (ab_call 2 f_X11_cell 0 0 0 0)),
  (64, ab_nx 65 (ab_bin (fun x y => x + y))),
  (65, ab_nx 66 (ab_ald 1)),
  (66, ab_nx 68 (ab_iload 4)),
  (68, ab_nx 69 (ab_bin (fun x y => x - y))),
  (69, ab_nx 71 (ab_istore 5)),
  (71, ab_nx 72 (ab_aload 0)),
  (72, ab_nx 75 (ab_callV 1 11 f_X11_back 0 0 0 0)),
  (75, ab_nx 77 (ab_iload 5)),
  (77, ab_ret 0 0)]
set_option maxRecDepth 100000 in
theorem dq39_21 : ([(0, .aload_n 0, 1), (1, .iconst 0, 1), (2, .putfield 1, 3), (5, .aload_n 0, 1), (6, .iload_n 1, 1), (7, .iload_n 2, 1), (8, .invokevirtual 251, 3), (11, .ifCond .eq 13, 3), (14, .iload_n 3, 1), (15, .iconst 1, 1), (16, .bipush 60, 2), (18, .invokestatic 179, 3), (21, .ifCond .ne 5, 3), (24, .iconst (-1), 1), (25, .ireturn, 1), (26, .aload_n 0, 1)] : List (Nat × Instr × Nat)).all (fun q => decide (decode cX11_hunger q.1 = .ok q.2)) = true := by decide +kernel
set_option maxRecDepth 100000 in
theorem dq39_22 : ([(27, .invokevirtual 317, 3), (30, .aload_n 0, 1), (31, .getfield 33, 3), (34, .sipush 148, 3), (37, .iload_n 1, 1), (38, .iload_n 2, 1), (39, .invokestatic 245, 3), (42, .iadd, 1), (43, .iaload, 1), (44, .istore 4, 2), (46, .aload_n 0, 1), (47, .iload_n 3, 1), (48, .invokevirtual 314, 3), (51, .pop, 1), (52, .aload_n 0, 1), (53, .getfield 33, 3)] : List (Nat × Instr × Nat)).all (fun q => decide (decode cX11_hunger q.1 = .ok q.2)) = true := by decide +kernel
set_option maxRecDepth 100000 in
theorem dq39_23 : ([(56, .sipush 148, 3), (59, .iload_n 1, 1), (60, .iload_n 2, 1), (61, .invokestatic 245, 3), (64, .iadd, 1), (65, .iaload, 1), (66, .iload 4, 2), (68, .isub, 1), (69, .istore 5, 2), (71, .aload_n 0, 1), (72, .invokevirtual 320, 3), (75, .iload 5, 2), (77, .ireturn, 1)] : List (Nat × Instr × Nat)).all (fun q => decide (decode cX11_hunger q.1 = .ok q.2)) = true := by decide +kernel
set_option maxRecDepth 100000 in
set_option maxHeartbeats 4000000 in
theorem M_X11_hunger {l : Launch} {b : ab_B} {D : va_G} {cA : Nat → ClassId} {f_X11_isPlace : List Value → ab_H → Option ab_O} (h_X11_isPlace : ab_M l b D ab_cl cA (ab_E0 b) yX11_isPlace (Cond.code yX11_isPlace cX11_isPlace 3 (some .boolean) :: ab_G) ({ frames := 3, cells := 0, slots := 0, locals := 300 } : Room) f_X11_isPlace) {f_X11_isIn : List Value → ab_H → Option ab_O} (h_X11_isIn : ab_M l b D ab_cl cA (ab_E0 b) yX11_isIn (Cond.code yX11_isIn cX11_isIn 3 (some .boolean) :: ab_G) ({ frames := 1, cells := 0, slots := 0, locals := 100 } : Room) f_X11_isIn) {f_X11_tries : List Value → ab_H → Option ab_O} (h_X11_tries : ab_M l b D ab_cl cA (ab_E0 b) yX11_tries (Cond.code yX11_tries cX11_tries 2 none :: ab_G) ({ frames := 1, cells := 0, slots := 0, locals := 100 } : Room) f_X11_tries) {f_X11_cell : List Value → ab_H → Option ab_O} (h_X11_cell : ab_M l b D ab_cl cA (ab_E0 b) yX11_cell (Cond.code yX11_cell cX11_cell 2 (some .int) :: ab_G) ({ frames := 1, cells := 0, slots := 0, locals := 100 } : Room) f_X11_cell) {f_X11_goesOn : List Value → ab_H → Option ab_O} (h_X11_goesOn : ab_M l b D ab_cl cA (ab_E0 b) yX11_goesOn (Cond.code yX11_goesOn cX11_goesOn 3 (some .int) :: ab_G) ({ frames := 8, cells := 0, slots := 0, locals := 800 } : Room) f_X11_goesOn) {f_X11_back : List Value → ab_H → Option ab_O} (h_X11_back : ab_M l b D ab_cl cA (ab_E0 b) yX11_back (Cond.code yX11_back cX11_back 2 none :: ab_G) ({ frames := 1, cells := 0, slots := 0, locals := 100 } : Room) f_X11_back) : ab_M l b D ab_cl cA (ab_E0 b) yX11_hunger (Cond.code yX11_hunger cX11_hunger 6 (some .int) :: ab_G) ({ frames := 9, cells := 0, slots := 0, locals := 900 } : Room) (ab_X (ab_T (L_X11_hunger f_X11_isPlace f_X11_isIn f_X11_tries f_X11_cell f_X11_goesOn f_X11_back)) 6) := by
  refine ab_meth (ret := (some .int)) (L_X11_hunger f_X11_isPlace f_X11_isIn f_X11_tries f_X11_cell f_X11_goesOn f_X11_back) (by decide) rfl fun p e R s m args below meth c o C => ?_
  unfold L_X11_hunger
  refine List.forall_mem_cons.mpr ⟨ok_aload_n C (show decode cX11_hunger 0 = .ok (.aload_n 0, 1) from dk_at dq39_21 (i := 0) rfl) rfl rfl, ?_⟩
  refine List.forall_mem_cons.mpr ⟨ok_iconst C (show decode cX11_hunger 1 = .ok (.iconst 0, 1) from dk_at dq39_21 (i := 1) rfl) (by decide) rfl, ?_⟩
  refine List.forall_mem_cons.mpr ⟨ok_putf C (wi_X11) tyX11 tyX11_ok nmX11 rfl (by decide) kw_1180 (Or.inl rfl) (Or.inl ⟨rfl, rfl⟩) (show decode cX11_hunger 2 = .ok (.putfield 1, 3) from dk_at dq39_21 (i := 2) rfl) rfl, ?_⟩
  refine List.forall_mem_cons.mpr ⟨ok_aload_n C (show decode cX11_hunger 5 = .ok (.aload_n 0, 1) from dk_at dq39_21 (i := 3) rfl) rfl rfl, ?_⟩
  refine List.forall_mem_cons.mpr ⟨ok_iload_n C (show decode cX11_hunger 6 = .ok (.iload_n 1, 1) from dk_at dq39_21 (i := 4) rfl) rfl rfl, ?_⟩
  refine List.forall_mem_cons.mpr ⟨ok_iload_n C (show decode cX11_hunger 7 = .ok (.iload_n 2, 1) from dk_at dq39_21 (i := 5) rfl) rfl rfl, ?_⟩
  refine List.forall_mem_cons.mpr ⟨ok_callV C h_X11_isPlace ⟨rfl, rfl⟩ rfl kw_1402 kw_1399 kw_1401 kp_64 kw_11 rfl ds_X11_isPlace ⟨by decide, by decide⟩ (show decode cX11_hunger 8 = .ok (.invokevirtual 251, 3) from dk_at dq39_21 (i := 6) rfl) rfl, ?_⟩
  refine List.forall_mem_cons.mpr ⟨ok_ifeq C (show decode cX11_hunger 11 = .ok (.ifCond .eq 13, 3) from dk_at dq39_21 (i := 7) rfl) (tg := 24) (by decide) rfl rfl, ?_⟩
  refine List.forall_mem_cons.mpr ⟨ok_iload_n C (show decode cX11_hunger 14 = .ok (.iload_n 3, 1) from dk_at dq39_21 (i := 8) rfl) rfl rfl, ?_⟩
  refine List.forall_mem_cons.mpr ⟨ok_iconst C (show decode cX11_hunger 15 = .ok (.iconst 1, 1) from dk_at dq39_21 (i := 9) rfl) (by decide) rfl, ?_⟩
  refine List.forall_mem_cons.mpr ⟨ok_bipush C (show decode cX11_hunger 16 = .ok (.bipush 60, 2) from dk_at dq39_21 (i := 10) rfl) (by decide) rfl, ?_⟩
  refine List.forall_mem_cons.mpr ⟨ok_callS C h_X11_isIn ⟨rfl, rfl⟩ kw_1355 kw_1353 kw_1354 kw_11 ds_X11_isIn ⟨by decide, by decide⟩ (show decode cX11_hunger 18 = .ok (.invokestatic 179, 3) from dk_at dq39_21 (i := 11) rfl) rfl, ?_⟩
  refine List.forall_mem_cons.mpr ⟨ok_ifne C (show decode cX11_hunger 21 = .ok (.ifCond .ne 5, 3) from dk_at dq39_21 (i := 12) rfl) (tg := 26) (by decide) rfl rfl, ?_⟩
  refine List.forall_mem_cons.mpr ⟨ok_iconst C (show decode cX11_hunger 24 = .ok (.iconst (-1), 1) from dk_at dq39_21 (i := 13) rfl) (by decide) rfl, ?_⟩
  refine List.forall_mem_cons.mpr ⟨ok_ret C rfl (show decode cX11_hunger 25 = .ok (.ireturn, 1) from dk_at dq39_21 (i := 14) rfl), ?_⟩
  refine List.forall_mem_cons.mpr ⟨ok_aload_n C (show decode cX11_hunger 26 = .ok (.aload_n 0, 1) from dk_at dq39_21 (i := 15) rfl) rfl rfl, ?_⟩
  refine List.forall_mem_cons.mpr ⟨ok_callV C h_X11_tries ⟨rfl, rfl⟩ rfl kw_1556 kw_1553 kw_1555 kp_86 kw_11 rfl ds_X11_tries ⟨by decide, by decide⟩ (show decode cX11_hunger 27 = .ok (.invokevirtual 317, 3) from dk_at dq39_22 (i := 0) rfl) rfl, ?_⟩
  refine List.forall_mem_cons.mpr ⟨ok_aload_n C (show decode cX11_hunger 30 = .ok (.aload_n 0, 1) from dk_at dq39_22 (i := 1) rfl) rfl rfl, ?_⟩
  refine List.forall_mem_cons.mpr ⟨ok_getf C (wi_X11) rfl (by decide) kw_1186 (show decode cX11_hunger 31 = .ok (.getfield 33, 3) from dk_at dq39_22 (i := 2) rfl) rfl, ?_⟩
  refine List.forall_mem_cons.mpr ⟨ok_sipush C (show decode cX11_hunger 34 = .ok (.sipush 148, 3) from dk_at dq39_22 (i := 3) rfl) (by decide) rfl, ?_⟩
  refine List.forall_mem_cons.mpr ⟨ok_iload_n C (show decode cX11_hunger 37 = .ok (.iload_n 1, 1) from dk_at dq39_22 (i := 4) rfl) rfl rfl, ?_⟩
  refine List.forall_mem_cons.mpr ⟨ok_iload_n C (show decode cX11_hunger 38 = .ok (.iload_n 2, 1) from dk_at dq39_22 (i := 5) rfl) rfl rfl, ?_⟩
  refine List.forall_mem_cons.mpr ⟨ok_callS C h_X11_cell ⟨rfl, rfl⟩ kw_1413 kw_1411 kw_1412 kw_11 ds_X11_cell ⟨by decide, by decide⟩ (show decode cX11_hunger 39 = .ok (.invokestatic 245, 3) from dk_at dq39_22 (i := 6) rfl) rfl, ?_⟩
  refine List.forall_mem_cons.mpr ⟨ok_iadd C (show decode cX11_hunger 42 = .ok (.iadd, 1) from dk_at dq39_22 (i := 7) rfl) rfl, ?_⟩
  refine List.forall_mem_cons.mpr ⟨ok_iaload C (show decode cX11_hunger 43 = .ok (.iaload, 1) from dk_at dq39_22 (i := 8) rfl) rfl, ?_⟩
  refine List.forall_mem_cons.mpr ⟨ok_istore C (show decode cX11_hunger 44 = .ok (.istore 4, 2) from dk_at dq39_22 (i := 9) rfl) (by decide) rfl, ?_⟩
  refine List.forall_mem_cons.mpr ⟨ok_aload_n C (show decode cX11_hunger 46 = .ok (.aload_n 0, 1) from dk_at dq39_22 (i := 10) rfl) rfl rfl, ?_⟩
  refine List.forall_mem_cons.mpr ⟨ok_iload_n C (show decode cX11_hunger 47 = .ok (.iload_n 3, 1) from dk_at dq39_22 (i := 11) rfl) rfl rfl, ?_⟩
  refine List.forall_mem_cons.mpr ⟨ok_callV C h_X11_goesOn ⟨rfl, rfl⟩ rfl kw_1509 kw_1506 kw_1508 kp_81 kw_11 rfl ds_X11_goesOn ⟨by decide, by decide⟩ (show decode cX11_hunger 48 = .ok (.invokevirtual 314, 3) from dk_at dq39_22 (i := 12) rfl) rfl, ?_⟩
  refine List.forall_mem_cons.mpr ⟨ok_pop C (show decode cX11_hunger 51 = .ok (.pop, 1) from dk_at dq39_22 (i := 13) rfl) rfl, ?_⟩
  refine List.forall_mem_cons.mpr ⟨ok_aload_n C (show decode cX11_hunger 52 = .ok (.aload_n 0, 1) from dk_at dq39_22 (i := 14) rfl) rfl rfl, ?_⟩
  refine List.forall_mem_cons.mpr ⟨ok_getf C (wi_X11) rfl (by decide) kw_1186 (show decode cX11_hunger 53 = .ok (.getfield 33, 3) from dk_at dq39_22 (i := 15) rfl) rfl, ?_⟩
  refine List.forall_mem_cons.mpr ⟨ok_sipush C (show decode cX11_hunger 56 = .ok (.sipush 148, 3) from dk_at dq39_23 (i := 0) rfl) (by decide) rfl, ?_⟩
  refine List.forall_mem_cons.mpr ⟨ok_iload_n C (show decode cX11_hunger 59 = .ok (.iload_n 1, 1) from dk_at dq39_23 (i := 1) rfl) rfl rfl, ?_⟩
  refine List.forall_mem_cons.mpr ⟨ok_iload_n C (show decode cX11_hunger 60 = .ok (.iload_n 2, 1) from dk_at dq39_23 (i := 2) rfl) rfl rfl, ?_⟩
  refine List.forall_mem_cons.mpr ⟨ok_callS C h_X11_cell ⟨rfl, rfl⟩ kw_1413 kw_1411 kw_1412 kw_11 ds_X11_cell ⟨by decide, by decide⟩ (show decode cX11_hunger 61 = .ok (.invokestatic 245, 3) from dk_at dq39_23 (i := 3) rfl) rfl, ?_⟩
  refine List.forall_mem_cons.mpr ⟨ok_iadd C (show decode cX11_hunger 64 = .ok (.iadd, 1) from dk_at dq39_23 (i := 4) rfl) rfl, ?_⟩
  refine List.forall_mem_cons.mpr ⟨ok_iaload C (show decode cX11_hunger 65 = .ok (.iaload, 1) from dk_at dq39_23 (i := 5) rfl) rfl, ?_⟩
  refine List.forall_mem_cons.mpr ⟨ok_iload C (show decode cX11_hunger 66 = .ok (.iload 4, 2) from dk_at dq39_23 (i := 6) rfl) rfl, ?_⟩
  refine List.forall_mem_cons.mpr ⟨ok_isub C (show decode cX11_hunger 68 = .ok (.isub, 1) from dk_at dq39_23 (i := 7) rfl) rfl, ?_⟩
  refine List.forall_mem_cons.mpr ⟨ok_istore C (show decode cX11_hunger 69 = .ok (.istore 5, 2) from dk_at dq39_23 (i := 8) rfl) (by decide) rfl, ?_⟩
  refine List.forall_mem_cons.mpr ⟨ok_aload_n C (show decode cX11_hunger 71 = .ok (.aload_n 0, 1) from dk_at dq39_23 (i := 9) rfl) rfl rfl, ?_⟩
  refine List.forall_mem_cons.mpr ⟨ok_callV C h_X11_back ⟨rfl, rfl⟩ rfl kw_1560 kw_1557 kw_1559 kp_87 kw_11 rfl ds_X11_back ⟨by decide, by decide⟩ (show decode cX11_hunger 72 = .ok (.invokevirtual 320, 3) from dk_at dq39_23 (i := 10) rfl) rfl, ?_⟩
  refine List.forall_mem_cons.mpr ⟨ok_iload C (show decode cX11_hunger 75 = .ok (.iload 5, 2) from dk_at dq39_23 (i := 11) rfl) rfl, ?_⟩
  refine List.forall_mem_cons.mpr ⟨ok_ret C rfl (show decode cX11_hunger 77 = .ok (.ireturn, 1) from dk_at dq39_23 (i := 12) rfl), ?_⟩
  exact fun _ h => absurd h List.not_mem_nil
end
-- 40.m20.lean.txt
section
def L_X11_prices (f_X11_tries : List Value → ab_H → Option ab_O) (f_X11_goesOn : List Value → ab_H → Option ab_O) (f_X11_back : List Value → ab_H → Option ab_O) : List (Nat × ab_A) := [
  (0, ab_nx 1 (ab_aload 0)),
  (1, ab_nx 2 (ab_lit (.int 0))),
  (2, ab_nx 5 (ab_putf 11 0 0)),
  (5, ab_nx 6 (ab_aload 0)),
  (6, ab_nx 7 (ab_aload 0)),
  (7, ab_nx 10 (ab_getf 11 6)),
  (10, ab_nx 11 (ab_lit (.int 0))),
  (11, ab_nx 12 (ab_ald 1)),
  (12, ab_nx 15 (ab_putf 11 28 0)),
  (15, ab_nx 16 (ab_lit (.int 0))),
  (16, ab_nx 17 (ab_istore 1)),
  (17, ab_nx 18 (ab_iload 1)),
  (18, ab_nx 20 (ab_lit (.int 12))),
  (20, ab_icmp 23 36 (fun x y => decide (y ≤ x))),
  (23, ab_nx 24 (ab_aload 0)),
  (24, ab_nx 27 (ab_getf 11 27)),
  (27, ab_nx 28 (ab_iload 1)),
  (28, ab_nx 29 (ab_lit (.int 5))),
  (29, ab_nx 30 (ab_ast 1)),
  (30, ab_nx 33 (ab_iinc 1 1)),
  (33, ab_goto 17),
  (36, ab_nx 37 (ab_aload 0)),
  (37, ab_nx 40 (ab_callV 1 11 f_X11_tries 0 0 0 0)),
  (40, ab_nx 41 (ab_lit (.int 0))),
  (41, ab_nx 42 (ab_istore 1)),
  (42, ab_nx 43 (ab_lit (.int 1))),
  (43, ab_nx 44 (ab_istore 2)),
  (44, ab_nx 45 (ab_iload 2)),
  (45, ab_if 48 187 (fun x => decide (x = 0))),
  (48, ab_nx 49 (ab_iload 1)),
  (49, ab_nx 51 (ab_lit (.int 60))),
  (51, ab_icmp 54 187 (fun x y => decide (y ≤ x))),
  (54, ab_nx 57 (ab_iinc 1 1)),
  (57, ab_nx 58 (ab_lit (.int 0))),
  (58, ab_nx 59 (ab_istore 2)),
  (59, ab_nx 60 (ab_lit (.int 0))),
  (60, ab_nx 61 (ab_istore 3)),
  (61, ab_nx 62 (ab_iload 3)),
  (62, ab_nx 63 (ab_lit (.int 2))),
  (63, ab_nx 64 (ab_aload 0)),
  (64, ab_nx 67 (ab_getf 11 6)),
  (67, ab_nx 68 (ab_lit (.int 0))),
  (68, ab_nx 69 (ab_ald 1)),
  (69, ab_nx 70 (ab_bin (fun x y => x * y))),
  (70, ab_icmp 73 178 (fun x y => decide (y ≤ x))),
  (73, ab_nx 74 (ab_aload 0)),
  (74, ab_nx 77 (ab_getf 11 27)),
  (77, ab_nx 78 (ab_iload 3)),
  (78, ab_nx 79 (ab_ald 1)),
  (79, ab_nx 81 (ab_istore 4)),
  (81, ab_nx 82 (ab_aload 0)),
  (82, ab_nx 85 (ab_getf 11 6)),
  (85, ab_nx 87 (ab_lit (.int 124))),
  (87, ab_nx 88 (ab_iload 3)),
  (88, ab_nx 89 (ab_bin (fun x y => x + y))),
  (89, ab_nx 90 (ab_ald 1)),
  (90, ab_nx 91 (ab_aload 0)),
  (91, ab_nx 94 (ab_getf 11 6)),
  (94, ab_nx 96 (ab_lit (.int 16))),
  (96, ab_nx 97 (ab_iload 3)),
  (97, ab_nx 98 (ab_bin (fun x y => x + y))),
  (98, ab_nx 99 (ab_ald 1)),
  (99, ab_icmp 102 115 (fun x y => decide (y ≤ x))),
  (102, ab_nx 103 (ab_aload 0)),
  (103, ab_nx 106 (ab_getf 11 27)),
  (106, ab_nx 107 (ab_iload 3)),
  (107, ab_nx 108 ab_dup2),
  (108, ab_nx 109 (ab_ald 1)),
  (109, ab_nx 110 (ab_lit (.int 1))),
  (110, ab_nx 111 (ab_bin (fun x y => x + y))),
  (111, ab_nx 112 (ab_ast 1)),
  (112, ab_goto 151),
  (115, ab_nx 116 (ab_aload 0)),
  (116, ab_nx 119 (ab_getf 11 6)),
  (119, ab_nx 121 (ab_lit (.int 124))),
  (121, ab_nx 122 (ab_iload 3)),
  (122, ab_nx 123 (ab_bin (fun x y => x + y))),
  (123, ab_nx 124 (ab_ald 1)),
  (124, ab_nx 125 (ab_aload 0)),
  (125, ab_nx 128 (ab_getf 11 6)),
  (128, ab_nx 130 (ab_lit (.int 16))),
  (130, ab_nx 131 (ab_iload 3)),
  (131, ab_nx 132 (ab_bin (fun x y => x + y))),
  (132, ab_nx 133 (ab_ald 1)),
  (133, ab_icmp 136 151 (fun x y => decide (x ≤ y))),
  (136, ab_nx 138 (ab_iload 4)),
  (138, ab_if 141 151 (fun x => decide (x ≤ 0))),
  (141, ab_nx 142 (ab_aload 0)),
  (142, ab_nx 145 (ab_getf 11 27)),
  (145, ab_nx 146 (ab_iload 3)),
  (146, ab_nx 147 ab_dup2),
  (147, ab_nx 148 (ab_ald 1)),
  (148, ab_nx 149 (ab_lit (.int 1))),
  (149, ab_nx 150 (ab_bin (fun x y => x - y))),
  (150, ab_nx 151 (ab_ast 1)),
  (151, ab_nx 152 (ab_iload 2)),
  (152, ab_if 155 166 (fun x => !decide (x = 0))),
  (155, ab_nx 156 (ab_aload 0)),
  (156, ab_nx 159 (ab_getf 11 27)),
  (159, ab_nx 160 (ab_iload 3)),
  (160, ab_nx 161 (ab_ald 1)),
  (161, ab_nx 163 (ab_iload 4)),
  (163, ab_icmp 166 170 (fun x y => decide (x = y))),
  (166, ab_nx 167 (ab_lit (.int 1))),
  (167, ab_goto 171),
  (170, ab_nx 171 (ab_lit (.int 0))),
  (171, ab_nx 172 (ab_istore 2)),
  (172, ab_nx 175 (ab_iinc 3 1)),
  (175, ab_goto 61),
  (178, ab_nx 179 (ab_aload 0)),
  (179, ab_nx 180 (ab_lit (.int 1))),
  (180, ab_nx 183 (ab_callV 2 11 f_X11_goesOn 0 0 0 0)),
  (183, ab_nx 184 ab_pop),
  (184, ab_goto 44),
  (187, ab_nx 188 (ab_aload 0)),
  (188, ab_nx 191 (ab_callV 1 11 f_X11_back 0 0 0 0)),
  (191, ab_nx 192 (ab_iload 1)),
  (192, ab_ret 0 0)]
set_option maxRecDepth 100000 in
theorem dq40_0 : ([(0, .aload_n 0, 1), (1, .iconst 0, 1), (2, .putfield 1, 3), (5, .aload_n 0, 1), (6, .aload_n 0, 1), (7, .getfield 33, 3), (10, .iconst 0, 1), (11, .iaload, 1), (12, .putfield 65, 3), (15, .iconst 0, 1), (16, .istore_n 1, 1), (17, .iload_n 1, 1), (18, .bipush 12, 2), (20, .if_icmp .ge 16, 3), (23, .aload_n 0, 1), (24, .getfield 62, 3)] : List (Nat × Instr × Nat)).all (fun q => decide (decode cX11_prices q.1 = .ok q.2)) = true := by decide +kernel
set_option maxRecDepth 100000 in
theorem dq40_1 : ([(27, .iload_n 1, 1), (28, .iconst 5, 1), (29, .iastore, 1), (30, .iinc 1 1, 3), (33, .goto (-16), 3), (36, .aload_n 0, 1), (37, .invokevirtual 317, 3), (40, .iconst 0, 1), (41, .istore_n 1, 1), (42, .iconst 1, 1), (43, .istore_n 2, 1), (44, .iload_n 2, 1), (45, .ifCond .eq 142, 3), (48, .iload_n 1, 1), (49, .bipush 60, 2), (51, .if_icmp .ge 136, 3)] : List (Nat × Instr × Nat)).all (fun q => decide (decode cX11_prices q.1 = .ok q.2)) = true := by decide +kernel
set_option maxRecDepth 100000 in
theorem dq40_2 : ([(54, .iinc 1 1, 3), (57, .iconst 0, 1), (58, .istore_n 2, 1), (59, .iconst 0, 1), (60, .istore_n 3, 1), (61, .iload_n 3, 1), (62, .iconst 2, 1), (63, .aload_n 0, 1), (64, .getfield 33, 3), (67, .iconst 0, 1), (68, .iaload, 1), (69, .imul, 1), (70, .if_icmp .ge 108, 3), (73, .aload_n 0, 1), (74, .getfield 62, 3), (77, .iload_n 3, 1)] : List (Nat × Instr × Nat)).all (fun q => decide (decode cX11_prices q.1 = .ok q.2)) = true := by decide +kernel
set_option maxRecDepth 100000 in
theorem dq40_3 : ([(78, .iaload, 1), (79, .istore 4, 2), (81, .aload_n 0, 1), (82, .getfield 33, 3), (85, .bipush 124, 2), (87, .iload_n 3, 1), (88, .iadd, 1), (89, .iaload, 1), (90, .aload_n 0, 1), (91, .getfield 33, 3), (94, .bipush 16, 2), (96, .iload_n 3, 1), (97, .iadd, 1), (98, .iaload, 1), (99, .if_icmp .ge 16, 3), (102, .aload_n 0, 1)] : List (Nat × Instr × Nat)).all (fun q => decide (decode cX11_prices q.1 = .ok q.2)) = true := by decide +kernel
set_option maxRecDepth 100000 in
theorem dq40_4 : ([(103, .getfield 62, 3), (106, .iload_n 3, 1), (107, .dup2, 1), (108, .iaload, 1), (109, .iconst 1, 1), (110, .iadd, 1), (111, .iastore, 1), (112, .goto 39, 3), (115, .aload_n 0, 1), (116, .getfield 33, 3), (119, .bipush 124, 2), (121, .iload_n 3, 1), (122, .iadd, 1), (123, .iaload, 1), (124, .aload_n 0, 1), (125, .getfield 33, 3)] : List (Nat × Instr × Nat)).all (fun q => decide (decode cX11_prices q.1 = .ok q.2)) = true := by decide +kernel
set_option maxRecDepth 100000 in
theorem dq40_5 : ([(128, .bipush 16, 2), (130, .iload_n 3, 1), (131, .iadd, 1), (132, .iaload, 1), (133, .if_icmp .le 18, 3), (136, .iload 4, 2), (138, .ifCond .le 13, 3), (141, .aload_n 0, 1), (142, .getfield 62, 3), (145, .iload_n 3, 1), (146, .dup2, 1), (147, .iaload, 1), (148, .iconst 1, 1), (149, .isub, 1), (150, .iastore, 1), (151, .iload_n 2, 1)] : List (Nat × Instr × Nat)).all (fun q => decide (decode cX11_prices q.1 = .ok q.2)) = true := by decide +kernel
set_option maxRecDepth 100000 in
theorem dq40_6 : ([(152, .ifCond .ne 14, 3), (155, .aload_n 0, 1), (156, .getfield 62, 3), (159, .iload_n 3, 1), (160, .iaload, 1), (161, .iload 4, 2), (163, .if_icmp .eq 7, 3), (166, .iconst 1, 1), (167, .goto 4, 3), (170, .iconst 0, 1), (171, .istore_n 2, 1), (172, .iinc 3 1, 3), (175, .goto (-114), 3), (178, .aload_n 0, 1), (179, .iconst 1, 1), (180, .invokevirtual 314, 3)] : List (Nat × Instr × Nat)).all (fun q => decide (decode cX11_prices q.1 = .ok q.2)) = true := by decide +kernel
set_option maxRecDepth 100000 in
theorem dq40_7 : ([(183, .pop, 1), (184, .goto (-140), 3), (187, .aload_n 0, 1), (188, .invokevirtual 320, 3), (191, .iload_n 1, 1), (192, .ireturn, 1)] : List (Nat × Instr × Nat)).all (fun q => decide (decode cX11_prices q.1 = .ok q.2)) = true := by decide +kernel
set_option maxRecDepth 100000 in
set_option maxHeartbeats 4000000 in
theorem M_X11_prices {l : Launch} {b : ab_B} {D : va_G} {cA : Nat → ClassId} {f_X11_tries : List Value → ab_H → Option ab_O} (h_X11_tries : ab_M l b D ab_cl cA (ab_E0 b) yX11_tries (Cond.code yX11_tries cX11_tries 2 none :: ab_G) ({ frames := 1, cells := 0, slots := 0, locals := 100 } : Room) f_X11_tries) {f_X11_goesOn : List Value → ab_H → Option ab_O} (h_X11_goesOn : ab_M l b D ab_cl cA (ab_E0 b) yX11_goesOn (Cond.code yX11_goesOn cX11_goesOn 3 (some .int) :: ab_G) ({ frames := 8, cells := 0, slots := 0, locals := 800 } : Room) f_X11_goesOn) {f_X11_back : List Value → ab_H → Option ab_O} (h_X11_back : ab_M l b D ab_cl cA (ab_E0 b) yX11_back (Cond.code yX11_back cX11_back 2 none :: ab_G) ({ frames := 1, cells := 0, slots := 0, locals := 100 } : Room) f_X11_back) : ab_M l b D ab_cl cA (ab_E0 b) yX11_prices (Cond.code yX11_prices cX11_prices 5 (some .int) :: ab_G) ({ frames := 9, cells := 0, slots := 0, locals := 900 } : Room) (ab_X (ab_T (L_X11_prices f_X11_tries f_X11_goesOn f_X11_back)) 5) := by
  refine ab_meth (ret := (some .int)) (L_X11_prices f_X11_tries f_X11_goesOn f_X11_back) (by decide) rfl fun p e R s m args below meth c o C => ?_
  unfold L_X11_prices
  refine List.forall_mem_cons.mpr ⟨ok_aload_n C (show decode cX11_prices 0 = .ok (.aload_n 0, 1) from dk_at dq40_0 (i := 0) rfl) rfl rfl, ?_⟩
  refine List.forall_mem_cons.mpr ⟨ok_iconst C (show decode cX11_prices 1 = .ok (.iconst 0, 1) from dk_at dq40_0 (i := 1) rfl) (by decide) rfl, ?_⟩
  refine List.forall_mem_cons.mpr ⟨ok_putf C (wi_X11) tyX11 tyX11_ok nmX11 rfl (by decide) kw_1180 (Or.inl rfl) (Or.inl ⟨rfl, rfl⟩) (show decode cX11_prices 2 = .ok (.putfield 1, 3) from dk_at dq40_0 (i := 2) rfl) rfl, ?_⟩
  refine List.forall_mem_cons.mpr ⟨ok_aload_n C (show decode cX11_prices 5 = .ok (.aload_n 0, 1) from dk_at dq40_0 (i := 3) rfl) rfl rfl, ?_⟩
  refine List.forall_mem_cons.mpr ⟨ok_aload_n C (show decode cX11_prices 6 = .ok (.aload_n 0, 1) from dk_at dq40_0 (i := 4) rfl) rfl rfl, ?_⟩
  refine List.forall_mem_cons.mpr ⟨ok_getf C (wi_X11) rfl (by decide) kw_1186 (show decode cX11_prices 7 = .ok (.getfield 33, 3) from dk_at dq40_0 (i := 5) rfl) rfl, ?_⟩
  refine List.forall_mem_cons.mpr ⟨ok_iconst C (show decode cX11_prices 10 = .ok (.iconst 0, 1) from dk_at dq40_0 (i := 6) rfl) (by decide) rfl, ?_⟩
  refine List.forall_mem_cons.mpr ⟨ok_iaload C (show decode cX11_prices 11 = .ok (.iaload, 1) from dk_at dq40_0 (i := 7) rfl) rfl, ?_⟩
  refine List.forall_mem_cons.mpr ⟨ok_putf C (wi_X11) tyX11 tyX11_ok nmX11 rfl (by decide) kw_1208 (Or.inl rfl) (Or.inl ⟨rfl, rfl⟩) (show decode cX11_prices 12 = .ok (.putfield 65, 3) from dk_at dq40_0 (i := 8) rfl) rfl, ?_⟩
  refine List.forall_mem_cons.mpr ⟨ok_iconst C (show decode cX11_prices 15 = .ok (.iconst 0, 1) from dk_at dq40_0 (i := 9) rfl) (by decide) rfl, ?_⟩
  refine List.forall_mem_cons.mpr ⟨ok_istore_n C (show decode cX11_prices 16 = .ok (.istore_n 1, 1) from dk_at dq40_0 (i := 10) rfl) rfl (by decide) rfl, ?_⟩
  refine List.forall_mem_cons.mpr ⟨ok_iload_n C (show decode cX11_prices 17 = .ok (.iload_n 1, 1) from dk_at dq40_0 (i := 11) rfl) rfl rfl, ?_⟩
  refine List.forall_mem_cons.mpr ⟨ok_bipush C (show decode cX11_prices 18 = .ok (.bipush 12, 2) from dk_at dq40_0 (i := 12) rfl) (by decide) rfl, ?_⟩
  refine List.forall_mem_cons.mpr ⟨ok_icmpge C (show decode cX11_prices 20 = .ok (.if_icmp .ge 16, 3) from dk_at dq40_0 (i := 13) rfl) (tg := 36) (by decide) rfl rfl, ?_⟩
  refine List.forall_mem_cons.mpr ⟨ok_aload_n C (show decode cX11_prices 23 = .ok (.aload_n 0, 1) from dk_at dq40_0 (i := 14) rfl) rfl rfl, ?_⟩
  refine List.forall_mem_cons.mpr ⟨ok_getf C (wi_X11) rfl (by decide) kw_1207 (show decode cX11_prices 24 = .ok (.getfield 62, 3) from dk_at dq40_0 (i := 15) rfl) rfl, ?_⟩
  refine List.forall_mem_cons.mpr ⟨ok_iload_n C (show decode cX11_prices 27 = .ok (.iload_n 1, 1) from dk_at dq40_1 (i := 0) rfl) rfl rfl, ?_⟩
  refine List.forall_mem_cons.mpr ⟨ok_iconst C (show decode cX11_prices 28 = .ok (.iconst 5, 1) from dk_at dq40_1 (i := 1) rfl) (by decide) rfl, ?_⟩
  refine List.forall_mem_cons.mpr ⟨ok_iastore C (show decode cX11_prices 29 = .ok (.iastore, 1) from dk_at dq40_1 (i := 2) rfl) rfl, ?_⟩
  refine List.forall_mem_cons.mpr ⟨ok_iinc C (show decode cX11_prices 30 = .ok (.iinc 1 1, 3) from dk_at dq40_1 (i := 3) rfl) (by decide) (by decide) rfl, ?_⟩
  refine List.forall_mem_cons.mpr ⟨ok_goto C (show decode cX11_prices 33 = .ok (.goto (-16), 3) from dk_at dq40_1 (i := 4) rfl) (tg := 17) (by decide) rfl, ?_⟩
  refine List.forall_mem_cons.mpr ⟨ok_aload_n C (show decode cX11_prices 36 = .ok (.aload_n 0, 1) from dk_at dq40_1 (i := 5) rfl) rfl rfl, ?_⟩
  refine List.forall_mem_cons.mpr ⟨ok_callV C h_X11_tries ⟨rfl, rfl⟩ rfl kw_1556 kw_1553 kw_1555 kp_86 kw_11 rfl ds_X11_tries ⟨by decide, by decide⟩ (show decode cX11_prices 37 = .ok (.invokevirtual 317, 3) from dk_at dq40_1 (i := 6) rfl) rfl, ?_⟩
  refine List.forall_mem_cons.mpr ⟨ok_iconst C (show decode cX11_prices 40 = .ok (.iconst 0, 1) from dk_at dq40_1 (i := 7) rfl) (by decide) rfl, ?_⟩
  refine List.forall_mem_cons.mpr ⟨ok_istore_n C (show decode cX11_prices 41 = .ok (.istore_n 1, 1) from dk_at dq40_1 (i := 8) rfl) rfl (by decide) rfl, ?_⟩
  refine List.forall_mem_cons.mpr ⟨ok_iconst C (show decode cX11_prices 42 = .ok (.iconst 1, 1) from dk_at dq40_1 (i := 9) rfl) (by decide) rfl, ?_⟩
  refine List.forall_mem_cons.mpr ⟨ok_istore_n C (show decode cX11_prices 43 = .ok (.istore_n 2, 1) from dk_at dq40_1 (i := 10) rfl) rfl (by decide) rfl, ?_⟩
  refine List.forall_mem_cons.mpr ⟨ok_iload_n C (show decode cX11_prices 44 = .ok (.iload_n 2, 1) from dk_at dq40_1 (i := 11) rfl) rfl rfl, ?_⟩
  refine List.forall_mem_cons.mpr ⟨ok_ifeq C (show decode cX11_prices 45 = .ok (.ifCond .eq 142, 3) from dk_at dq40_1 (i := 12) rfl) (tg := 187) (by decide) rfl rfl, ?_⟩
  refine List.forall_mem_cons.mpr ⟨ok_iload_n C (show decode cX11_prices 48 = .ok (.iload_n 1, 1) from dk_at dq40_1 (i := 13) rfl) rfl rfl, ?_⟩
  refine List.forall_mem_cons.mpr ⟨ok_bipush C (show decode cX11_prices 49 = .ok (.bipush 60, 2) from dk_at dq40_1 (i := 14) rfl) (by decide) rfl, ?_⟩
  refine List.forall_mem_cons.mpr ⟨ok_icmpge C (show decode cX11_prices 51 = .ok (.if_icmp .ge 136, 3) from dk_at dq40_1 (i := 15) rfl) (tg := 187) (by decide) rfl rfl, ?_⟩
  refine List.forall_mem_cons.mpr ⟨ok_iinc C (show decode cX11_prices 54 = .ok (.iinc 1 1, 3) from dk_at dq40_2 (i := 0) rfl) (by decide) (by decide) rfl, ?_⟩
  refine List.forall_mem_cons.mpr ⟨ok_iconst C (show decode cX11_prices 57 = .ok (.iconst 0, 1) from dk_at dq40_2 (i := 1) rfl) (by decide) rfl, ?_⟩
  refine List.forall_mem_cons.mpr ⟨ok_istore_n C (show decode cX11_prices 58 = .ok (.istore_n 2, 1) from dk_at dq40_2 (i := 2) rfl) rfl (by decide) rfl, ?_⟩
  refine List.forall_mem_cons.mpr ⟨ok_iconst C (show decode cX11_prices 59 = .ok (.iconst 0, 1) from dk_at dq40_2 (i := 3) rfl) (by decide) rfl, ?_⟩
  refine List.forall_mem_cons.mpr ⟨ok_istore_n C (show decode cX11_prices 60 = .ok (.istore_n 3, 1) from dk_at dq40_2 (i := 4) rfl) rfl (by decide) rfl, ?_⟩
  refine List.forall_mem_cons.mpr ⟨ok_iload_n C (show decode cX11_prices 61 = .ok (.iload_n 3, 1) from dk_at dq40_2 (i := 5) rfl) rfl rfl, ?_⟩
  refine List.forall_mem_cons.mpr ⟨ok_iconst C (show decode cX11_prices 62 = .ok (.iconst 2, 1) from dk_at dq40_2 (i := 6) rfl) (by decide) rfl, ?_⟩
  refine List.forall_mem_cons.mpr ⟨ok_aload_n C (show decode cX11_prices 63 = .ok (.aload_n 0, 1) from dk_at dq40_2 (i := 7) rfl) rfl rfl, ?_⟩
  refine List.forall_mem_cons.mpr ⟨ok_getf C (wi_X11) rfl (by decide) kw_1186 (show decode cX11_prices 64 = .ok (.getfield 33, 3) from dk_at dq40_2 (i := 8) rfl) rfl, ?_⟩
  refine List.forall_mem_cons.mpr ⟨ok_iconst C (show decode cX11_prices 67 = .ok (.iconst 0, 1) from dk_at dq40_2 (i := 9) rfl) (by decide) rfl, ?_⟩
  refine List.forall_mem_cons.mpr ⟨ok_iaload C (show decode cX11_prices 68 = .ok (.iaload, 1) from dk_at dq40_2 (i := 10) rfl) rfl, ?_⟩
  refine List.forall_mem_cons.mpr ⟨ok_imul C (show decode cX11_prices 69 = .ok (.imul, 1) from dk_at dq40_2 (i := 11) rfl) rfl, ?_⟩
  refine List.forall_mem_cons.mpr ⟨ok_icmpge C (show decode cX11_prices 70 = .ok (.if_icmp .ge 108, 3) from dk_at dq40_2 (i := 12) rfl) (tg := 178) (by decide) rfl rfl, ?_⟩
  refine List.forall_mem_cons.mpr ⟨ok_aload_n C (show decode cX11_prices 73 = .ok (.aload_n 0, 1) from dk_at dq40_2 (i := 13) rfl) rfl rfl, ?_⟩
  refine List.forall_mem_cons.mpr ⟨ok_getf C (wi_X11) rfl (by decide) kw_1207 (show decode cX11_prices 74 = .ok (.getfield 62, 3) from dk_at dq40_2 (i := 14) rfl) rfl, ?_⟩
  refine List.forall_mem_cons.mpr ⟨ok_iload_n C (show decode cX11_prices 77 = .ok (.iload_n 3, 1) from dk_at dq40_2 (i := 15) rfl) rfl rfl, ?_⟩
  refine List.forall_mem_cons.mpr ⟨ok_iaload C (show decode cX11_prices 78 = .ok (.iaload, 1) from dk_at dq40_3 (i := 0) rfl) rfl, ?_⟩
  refine List.forall_mem_cons.mpr ⟨ok_istore C (show decode cX11_prices 79 = .ok (.istore 4, 2) from dk_at dq40_3 (i := 1) rfl) (by decide) rfl, ?_⟩
  refine List.forall_mem_cons.mpr ⟨ok_aload_n C (show decode cX11_prices 81 = .ok (.aload_n 0, 1) from dk_at dq40_3 (i := 2) rfl) rfl rfl, ?_⟩
  refine List.forall_mem_cons.mpr ⟨ok_getf C (wi_X11) rfl (by decide) kw_1186 (show decode cX11_prices 82 = .ok (.getfield 33, 3) from dk_at dq40_3 (i := 3) rfl) rfl, ?_⟩
  refine List.forall_mem_cons.mpr ⟨ok_bipush C (show decode cX11_prices 85 = .ok (.bipush 124, 2) from dk_at dq40_3 (i := 4) rfl) (by decide) rfl, ?_⟩
  refine List.forall_mem_cons.mpr ⟨ok_iload_n C (show decode cX11_prices 87 = .ok (.iload_n 3, 1) from dk_at dq40_3 (i := 5) rfl) rfl rfl, ?_⟩
  refine List.forall_mem_cons.mpr ⟨ok_iadd C (show decode cX11_prices 88 = .ok (.iadd, 1) from dk_at dq40_3 (i := 6) rfl) rfl, ?_⟩
  refine List.forall_mem_cons.mpr ⟨ok_iaload C (show decode cX11_prices 89 = .ok (.iaload, 1) from dk_at dq40_3 (i := 7) rfl) rfl, ?_⟩
  refine List.forall_mem_cons.mpr ⟨ok_aload_n C (show decode cX11_prices 90 = .ok (.aload_n 0, 1) from dk_at dq40_3 (i := 8) rfl) rfl rfl, ?_⟩
  refine List.forall_mem_cons.mpr ⟨ok_getf C (wi_X11) rfl (by decide) kw_1186 (show decode cX11_prices 91 = .ok (.getfield 33, 3) from dk_at dq40_3 (i := 9) rfl) rfl, ?_⟩
  refine List.forall_mem_cons.mpr ⟨ok_bipush C (show decode cX11_prices 94 = .ok (.bipush 16, 2) from dk_at dq40_3 (i := 10) rfl) (by decide) rfl, ?_⟩
  refine List.forall_mem_cons.mpr ⟨ok_iload_n C (show decode cX11_prices 96 = .ok (.iload_n 3, 1) from dk_at dq40_3 (i := 11) rfl) rfl rfl, ?_⟩
  refine List.forall_mem_cons.mpr ⟨ok_iadd C (show decode cX11_prices 97 = .ok (.iadd, 1) from dk_at dq40_3 (i := 12) rfl) rfl, ?_⟩
  refine List.forall_mem_cons.mpr ⟨ok_iaload C (show decode cX11_prices 98 = .ok (.iaload, 1) from dk_at dq40_3 (i := 13) rfl) rfl, ?_⟩
  refine List.forall_mem_cons.mpr ⟨ok_icmpge C (show decode cX11_prices 99 = .ok (.if_icmp .ge 16, 3) from dk_at dq40_3 (i := 14) rfl) (tg := 115) (by decide) rfl rfl, ?_⟩
  refine List.forall_mem_cons.mpr ⟨ok_aload_n C (show decode cX11_prices 102 = .ok (.aload_n 0, 1) from dk_at dq40_3 (i := 15) rfl) rfl rfl, ?_⟩
  refine List.forall_mem_cons.mpr ⟨ok_getf C (wi_X11) rfl (by decide) kw_1207 (show decode cX11_prices 103 = .ok (.getfield 62, 3) from dk_at dq40_4 (i := 0) rfl) rfl, ?_⟩
  refine List.forall_mem_cons.mpr ⟨ok_iload_n C (show decode cX11_prices 106 = .ok (.iload_n 3, 1) from dk_at dq40_4 (i := 1) rfl) rfl rfl, ?_⟩
  refine List.forall_mem_cons.mpr ⟨ok_dup2 C (show decode cX11_prices 107 = .ok (.dup2, 1) from dk_at dq40_4 (i := 2) rfl) rfl, ?_⟩
  refine List.forall_mem_cons.mpr ⟨ok_iaload C (show decode cX11_prices 108 = .ok (.iaload, 1) from dk_at dq40_4 (i := 3) rfl) rfl, ?_⟩
  refine List.forall_mem_cons.mpr ⟨ok_iconst C (show decode cX11_prices 109 = .ok (.iconst 1, 1) from dk_at dq40_4 (i := 4) rfl) (by decide) rfl, ?_⟩
  refine List.forall_mem_cons.mpr ⟨ok_iadd C (show decode cX11_prices 110 = .ok (.iadd, 1) from dk_at dq40_4 (i := 5) rfl) rfl, ?_⟩
  refine List.forall_mem_cons.mpr ⟨ok_iastore C (show decode cX11_prices 111 = .ok (.iastore, 1) from dk_at dq40_4 (i := 6) rfl) rfl, ?_⟩
  refine List.forall_mem_cons.mpr ⟨ok_goto C (show decode cX11_prices 112 = .ok (.goto 39, 3) from dk_at dq40_4 (i := 7) rfl) (tg := 151) (by decide) rfl, ?_⟩
  refine List.forall_mem_cons.mpr ⟨ok_aload_n C (show decode cX11_prices 115 = .ok (.aload_n 0, 1) from dk_at dq40_4 (i := 8) rfl) rfl rfl, ?_⟩
  refine List.forall_mem_cons.mpr ⟨ok_getf C (wi_X11) rfl (by decide) kw_1186 (show decode cX11_prices 116 = .ok (.getfield 33, 3) from dk_at dq40_4 (i := 9) rfl) rfl, ?_⟩
  refine List.forall_mem_cons.mpr ⟨ok_bipush C (show decode cX11_prices 119 = .ok (.bipush 124, 2) from dk_at dq40_4 (i := 10) rfl) (by decide) rfl, ?_⟩
  refine List.forall_mem_cons.mpr ⟨ok_iload_n C (show decode cX11_prices 121 = .ok (.iload_n 3, 1) from dk_at dq40_4 (i := 11) rfl) rfl rfl, ?_⟩
  refine List.forall_mem_cons.mpr ⟨ok_iadd C (show decode cX11_prices 122 = .ok (.iadd, 1) from dk_at dq40_4 (i := 12) rfl) rfl, ?_⟩
  refine List.forall_mem_cons.mpr ⟨ok_iaload C (show decode cX11_prices 123 = .ok (.iaload, 1) from dk_at dq40_4 (i := 13) rfl) rfl, ?_⟩
  refine List.forall_mem_cons.mpr ⟨ok_aload_n C (show decode cX11_prices 124 = .ok (.aload_n 0, 1) from dk_at dq40_4 (i := 14) rfl) rfl rfl, ?_⟩
  refine List.forall_mem_cons.mpr ⟨ok_getf C (wi_X11) rfl (by decide) kw_1186 (show decode cX11_prices 125 = .ok (.getfield 33, 3) from dk_at dq40_4 (i := 15) rfl) rfl, ?_⟩
  refine List.forall_mem_cons.mpr ⟨ok_bipush C (show decode cX11_prices 128 = .ok (.bipush 16, 2) from dk_at dq40_5 (i := 0) rfl) (by decide) rfl, ?_⟩
  refine List.forall_mem_cons.mpr ⟨ok_iload_n C (show decode cX11_prices 130 = .ok (.iload_n 3, 1) from dk_at dq40_5 (i := 1) rfl) rfl rfl, ?_⟩
  refine List.forall_mem_cons.mpr ⟨ok_iadd C (show decode cX11_prices 131 = .ok (.iadd, 1) from dk_at dq40_5 (i := 2) rfl) rfl, ?_⟩
  refine List.forall_mem_cons.mpr ⟨ok_iaload C (show decode cX11_prices 132 = .ok (.iaload, 1) from dk_at dq40_5 (i := 3) rfl) rfl, ?_⟩
  refine List.forall_mem_cons.mpr ⟨ok_icmple C (show decode cX11_prices 133 = .ok (.if_icmp .le 18, 3) from dk_at dq40_5 (i := 4) rfl) (tg := 151) (by decide) rfl rfl, ?_⟩
  refine List.forall_mem_cons.mpr ⟨ok_iload C (show decode cX11_prices 136 = .ok (.iload 4, 2) from dk_at dq40_5 (i := 5) rfl) rfl, ?_⟩
  refine List.forall_mem_cons.mpr ⟨ok_ifle C (show decode cX11_prices 138 = .ok (.ifCond .le 13, 3) from dk_at dq40_5 (i := 6) rfl) (tg := 151) (by decide) rfl rfl, ?_⟩
  refine List.forall_mem_cons.mpr ⟨ok_aload_n C (show decode cX11_prices 141 = .ok (.aload_n 0, 1) from dk_at dq40_5 (i := 7) rfl) rfl rfl, ?_⟩
  refine List.forall_mem_cons.mpr ⟨ok_getf C (wi_X11) rfl (by decide) kw_1207 (show decode cX11_prices 142 = .ok (.getfield 62, 3) from dk_at dq40_5 (i := 8) rfl) rfl, ?_⟩
  refine List.forall_mem_cons.mpr ⟨ok_iload_n C (show decode cX11_prices 145 = .ok (.iload_n 3, 1) from dk_at dq40_5 (i := 9) rfl) rfl rfl, ?_⟩
  refine List.forall_mem_cons.mpr ⟨ok_dup2 C (show decode cX11_prices 146 = .ok (.dup2, 1) from dk_at dq40_5 (i := 10) rfl) rfl, ?_⟩
  refine List.forall_mem_cons.mpr ⟨ok_iaload C (show decode cX11_prices 147 = .ok (.iaload, 1) from dk_at dq40_5 (i := 11) rfl) rfl, ?_⟩
  refine List.forall_mem_cons.mpr ⟨ok_iconst C (show decode cX11_prices 148 = .ok (.iconst 1, 1) from dk_at dq40_5 (i := 12) rfl) (by decide) rfl, ?_⟩
  refine List.forall_mem_cons.mpr ⟨ok_isub C (show decode cX11_prices 149 = .ok (.isub, 1) from dk_at dq40_5 (i := 13) rfl) rfl, ?_⟩
  refine List.forall_mem_cons.mpr ⟨ok_iastore C (show decode cX11_prices 150 = .ok (.iastore, 1) from dk_at dq40_5 (i := 14) rfl) rfl, ?_⟩
  refine List.forall_mem_cons.mpr ⟨ok_iload_n C (show decode cX11_prices 151 = .ok (.iload_n 2, 1) from dk_at dq40_5 (i := 15) rfl) rfl rfl, ?_⟩
  refine List.forall_mem_cons.mpr ⟨ok_ifne C (show decode cX11_prices 152 = .ok (.ifCond .ne 14, 3) from dk_at dq40_6 (i := 0) rfl) (tg := 166) (by decide) rfl rfl, ?_⟩
  refine List.forall_mem_cons.mpr ⟨ok_aload_n C (show decode cX11_prices 155 = .ok (.aload_n 0, 1) from dk_at dq40_6 (i := 1) rfl) rfl rfl, ?_⟩
  refine List.forall_mem_cons.mpr ⟨ok_getf C (wi_X11) rfl (by decide) kw_1207 (show decode cX11_prices 156 = .ok (.getfield 62, 3) from dk_at dq40_6 (i := 2) rfl) rfl, ?_⟩
  refine List.forall_mem_cons.mpr ⟨ok_iload_n C (show decode cX11_prices 159 = .ok (.iload_n 3, 1) from dk_at dq40_6 (i := 3) rfl) rfl rfl, ?_⟩
  refine List.forall_mem_cons.mpr ⟨ok_iaload C (show decode cX11_prices 160 = .ok (.iaload, 1) from dk_at dq40_6 (i := 4) rfl) rfl, ?_⟩
  refine List.forall_mem_cons.mpr ⟨ok_iload C (show decode cX11_prices 161 = .ok (.iload 4, 2) from dk_at dq40_6 (i := 5) rfl) rfl, ?_⟩
  refine List.forall_mem_cons.mpr ⟨ok_icmpeq C (show decode cX11_prices 163 = .ok (.if_icmp .eq 7, 3) from dk_at dq40_6 (i := 6) rfl) (tg := 170) (by decide) rfl rfl, ?_⟩
  refine List.forall_mem_cons.mpr ⟨ok_iconst C (show decode cX11_prices 166 = .ok (.iconst 1, 1) from dk_at dq40_6 (i := 7) rfl) (by decide) rfl, ?_⟩
  refine List.forall_mem_cons.mpr ⟨ok_goto C (show decode cX11_prices 167 = .ok (.goto 4, 3) from dk_at dq40_6 (i := 8) rfl) (tg := 171) (by decide) rfl, ?_⟩
  refine List.forall_mem_cons.mpr ⟨ok_iconst C (show decode cX11_prices 170 = .ok (.iconst 0, 1) from dk_at dq40_6 (i := 9) rfl) (by decide) rfl, ?_⟩
  refine List.forall_mem_cons.mpr ⟨ok_istore_n C (show decode cX11_prices 171 = .ok (.istore_n 2, 1) from dk_at dq40_6 (i := 10) rfl) rfl (by decide) rfl, ?_⟩
  refine List.forall_mem_cons.mpr ⟨ok_iinc C (show decode cX11_prices 172 = .ok (.iinc 3 1, 3) from dk_at dq40_6 (i := 11) rfl) (by decide) (by decide) rfl, ?_⟩
  refine List.forall_mem_cons.mpr ⟨ok_goto C (show decode cX11_prices 175 = .ok (.goto (-114), 3) from dk_at dq40_6 (i := 12) rfl) (tg := 61) (by decide) rfl, ?_⟩
  refine List.forall_mem_cons.mpr ⟨ok_aload_n C (show decode cX11_prices 178 = .ok (.aload_n 0, 1) from dk_at dq40_6 (i := 13) rfl) rfl rfl, ?_⟩
  refine List.forall_mem_cons.mpr ⟨ok_iconst C (show decode cX11_prices 179 = .ok (.iconst 1, 1) from dk_at dq40_6 (i := 14) rfl) (by decide) rfl, ?_⟩
  refine List.forall_mem_cons.mpr ⟨ok_callV C h_X11_goesOn ⟨rfl, rfl⟩ rfl kw_1509 kw_1506 kw_1508 kp_81 kw_11 rfl ds_X11_goesOn ⟨by decide, by decide⟩ (show decode cX11_prices 180 = .ok (.invokevirtual 314, 3) from dk_at dq40_6 (i := 15) rfl) rfl, ?_⟩
  refine List.forall_mem_cons.mpr ⟨ok_pop C (show decode cX11_prices 183 = .ok (.pop, 1) from dk_at dq40_7 (i := 0) rfl) rfl, ?_⟩
  refine List.forall_mem_cons.mpr ⟨ok_goto C (show decode cX11_prices 184 = .ok (.goto (-140), 3) from dk_at dq40_7 (i := 1) rfl) (tg := 44) (by decide) rfl, ?_⟩
  refine List.forall_mem_cons.mpr ⟨ok_aload_n C (show decode cX11_prices 187 = .ok (.aload_n 0, 1) from dk_at dq40_7 (i := 2) rfl) rfl rfl, ?_⟩
  refine List.forall_mem_cons.mpr ⟨ok_callV C h_X11_back ⟨rfl, rfl⟩ rfl kw_1560 kw_1557 kw_1559 kp_87 kw_11 rfl ds_X11_back ⟨by decide, by decide⟩ (show decode cX11_prices 188 = .ok (.invokevirtual 320, 3) from dk_at dq40_7 (i := 3) rfl) rfl, ?_⟩
  refine List.forall_mem_cons.mpr ⟨ok_iload_n C (show decode cX11_prices 191 = .ok (.iload_n 1, 1) from dk_at dq40_7 (i := 4) rfl) rfl rfl, ?_⟩
  refine List.forall_mem_cons.mpr ⟨ok_ret C rfl (show decode cX11_prices 192 = .ok (.ireturn, 1) from dk_at dq40_7 (i := 5) rfl), ?_⟩
  exact fun _ h => absurd h List.not_mem_nil
def L_X11_price (f_X11_isIn : List Value → ab_H → Option ab_O) (f_X11_isShore : List Value → ab_H → Option ab_O) (f_X11_cell : List Value → ab_H → Option ab_O) : List (Nat × ab_A) := [
  (0, ab_nx 1 (ab_aload 0)),
  (1, ab_nx 2 (ab_lit (.int 0))),
  (2, ab_nx 5 (ab_putf 11 0 0)),
  (5, ab_nx 6 (ab_iload 1)),
  (6, ab_nx 7 (ab_lit (.int 0))),
  (7, ab_nx 8 (ab_aload 0)),
  (8, ab_nx 11 (ab_getf 11 28)),
  (11, ab_nx 12 (ab_lit (.int 1))),
  (12, ab_nx 13 (ab_bin (fun x y => x - y))),
  (13, ab_nx 16 (ab_call 3 f_X11_isIn 0 0 0 0)),
  (16, ab_if 19 40 (fun x => decide (x = 0))),
  (19, ab_nx 20 (ab_aload 0)),
  (20, ab_nx 21 (ab_iload 2)),
  (21, ab_nx 24 (ab_callV 2 11 f_X11_isShore 0 0 0 0)),
  (24, ab_if 27 40 (fun x => decide (x = 0))),
  (27, ab_nx 28 (ab_aload 0)),
  (28, ab_nx 31 (ab_getf 11 27)),
  (31, ab_nx 32 (ab_iload 1)),
  (32, ab_nx 33 (ab_iload 2)),
  (33, ab_nx 36 (ab_call 2 f_X11_cell 0 0 0 0)),
  (36, ab_nx 37 (ab_ald 1)),
  (37, ab_goto 41),
  (40, ab_nx 41 (ab_lit (.int (-1)))),
  (41, ab_ret 0 0)]
set_option maxRecDepth 100000 in
theorem dq40_8 : ([(0, .aload_n 0, 1), (1, .iconst 0, 1), (2, .putfield 1, 3), (5, .iload_n 1, 1), (6, .iconst 0, 1), (7, .aload_n 0, 1), (8, .getfield 65, 3), (11, .iconst 1, 1), (12, .isub, 1), (13, .invokestatic 179, 3), (16, .ifCond .eq 24, 3), (19, .aload_n 0, 1), (20, .iload_n 2, 1), (21, .invokevirtual 242, 3), (24, .ifCond .eq 16, 3), (27, .aload_n 0, 1)] : List (Nat × Instr × Nat)).all (fun q => decide (decode cX11_price q.1 = .ok q.2)) = true := by decide +kernel
set_option maxRecDepth 100000 in
theorem dq40_9 : ([(28, .getfield 62, 3), (31, .iload_n 1, 1), (32, .iload_n 2, 1), (33, .invokestatic 245, 3), (36, .iaload, 1), (37, .goto 4, 3), (40, .iconst (-1), 1), (41, .ireturn, 1)] : List (Nat × Instr × Nat)).all (fun q => decide (decode cX11_price q.1 = .ok q.2)) = true := by decide +kernel
set_option maxRecDepth 100000 in
set_option maxHeartbeats 4000000 in
theorem M_X11_price {l : Launch} {b : ab_B} {D : va_G} {cA : Nat → ClassId} {f_X11_isIn : List Value → ab_H → Option ab_O} (h_X11_isIn : ab_M l b D ab_cl cA (ab_E0 b) yX11_isIn (Cond.code yX11_isIn cX11_isIn 3 (some .boolean) :: ab_G) ({ frames := 1, cells := 0, slots := 0, locals := 100 } : Room) f_X11_isIn) {f_X11_isShore : List Value → ab_H → Option ab_O} (h_X11_isShore : ab_M l b D ab_cl cA (ab_E0 b) yX11_isShore (Cond.code yX11_isShore cX11_isShore 2 (some .boolean) :: ab_G) ({ frames := 2, cells := 0, slots := 0, locals := 200 } : Room) f_X11_isShore) {f_X11_cell : List Value → ab_H → Option ab_O} (h_X11_cell : ab_M l b D ab_cl cA (ab_E0 b) yX11_cell (Cond.code yX11_cell cX11_cell 2 (some .int) :: ab_G) ({ frames := 1, cells := 0, slots := 0, locals := 100 } : Room) f_X11_cell) : ab_M l b D ab_cl cA (ab_E0 b) yX11_price (Cond.code yX11_price cX11_price 3 (some .int) :: ab_G) ({ frames := 3, cells := 0, slots := 0, locals := 300 } : Room) (ab_X (ab_T (L_X11_price f_X11_isIn f_X11_isShore f_X11_cell)) 3) := by
  refine ab_meth (ret := (some .int)) (L_X11_price f_X11_isIn f_X11_isShore f_X11_cell) (by decide) rfl fun p e R s m args below meth c o C => ?_
  unfold L_X11_price
  refine List.forall_mem_cons.mpr ⟨ok_aload_n C (show decode cX11_price 0 = .ok (.aload_n 0, 1) from dk_at dq40_8 (i := 0) rfl) rfl rfl, ?_⟩
  refine List.forall_mem_cons.mpr ⟨ok_iconst C (show decode cX11_price 1 = .ok (.iconst 0, 1) from dk_at dq40_8 (i := 1) rfl) (by decide) rfl, ?_⟩
  refine List.forall_mem_cons.mpr ⟨ok_putf C (wi_X11) tyX11 tyX11_ok nmX11 rfl (by decide) kw_1180 (Or.inl rfl) (Or.inl ⟨rfl, rfl⟩) (show decode cX11_price 2 = .ok (.putfield 1, 3) from dk_at dq40_8 (i := 2) rfl) rfl, ?_⟩
  refine List.forall_mem_cons.mpr ⟨ok_iload_n C (show decode cX11_price 5 = .ok (.iload_n 1, 1) from dk_at dq40_8 (i := 3) rfl) rfl rfl, ?_⟩
  refine List.forall_mem_cons.mpr ⟨ok_iconst C (show decode cX11_price 6 = .ok (.iconst 0, 1) from dk_at dq40_8 (i := 4) rfl) (by decide) rfl, ?_⟩
  refine List.forall_mem_cons.mpr ⟨ok_aload_n C (show decode cX11_price 7 = .ok (.aload_n 0, 1) from dk_at dq40_8 (i := 5) rfl) rfl rfl, ?_⟩
  refine List.forall_mem_cons.mpr ⟨ok_getf C (wi_X11) rfl (by decide) kw_1208 (show decode cX11_price 8 = .ok (.getfield 65, 3) from dk_at dq40_8 (i := 6) rfl) rfl, ?_⟩
  refine List.forall_mem_cons.mpr ⟨ok_iconst C (show decode cX11_price 11 = .ok (.iconst 1, 1) from dk_at dq40_8 (i := 7) rfl) (by decide) rfl, ?_⟩
  refine List.forall_mem_cons.mpr ⟨ok_isub C (show decode cX11_price 12 = .ok (.isub, 1) from dk_at dq40_8 (i := 8) rfl) rfl, ?_⟩
  refine List.forall_mem_cons.mpr ⟨ok_callS C h_X11_isIn ⟨rfl, rfl⟩ kw_1355 kw_1353 kw_1354 kw_11 ds_X11_isIn ⟨by decide, by decide⟩ (show decode cX11_price 13 = .ok (.invokestatic 179, 3) from dk_at dq40_8 (i := 9) rfl) rfl, ?_⟩
  refine List.forall_mem_cons.mpr ⟨ok_ifeq C (show decode cX11_price 16 = .ok (.ifCond .eq 24, 3) from dk_at dq40_8 (i := 10) rfl) (tg := 40) (by decide) rfl rfl, ?_⟩
  refine List.forall_mem_cons.mpr ⟨ok_aload_n C (show decode cX11_price 19 = .ok (.aload_n 0, 1) from dk_at dq40_8 (i := 11) rfl) rfl rfl, ?_⟩
  refine List.forall_mem_cons.mpr ⟨ok_iload_n C (show decode cX11_price 20 = .ok (.iload_n 2, 1) from dk_at dq40_8 (i := 12) rfl) rfl rfl, ?_⟩
  refine List.forall_mem_cons.mpr ⟨ok_callV C h_X11_isShore ⟨rfl, rfl⟩ rfl kw_1410 kw_1407 kw_1409 kp_66 kw_11 rfl ds_X11_isShore ⟨by decide, by decide⟩ (show decode cX11_price 21 = .ok (.invokevirtual 242, 3) from dk_at dq40_8 (i := 13) rfl) rfl, ?_⟩
  refine List.forall_mem_cons.mpr ⟨ok_ifeq C (show decode cX11_price 24 = .ok (.ifCond .eq 16, 3) from dk_at dq40_8 (i := 14) rfl) (tg := 40) (by decide) rfl rfl, ?_⟩
  refine List.forall_mem_cons.mpr ⟨ok_aload_n C (show decode cX11_price 27 = .ok (.aload_n 0, 1) from dk_at dq40_8 (i := 15) rfl) rfl rfl, ?_⟩
  refine List.forall_mem_cons.mpr ⟨ok_getf C (wi_X11) rfl (by decide) kw_1207 (show decode cX11_price 28 = .ok (.getfield 62, 3) from dk_at dq40_9 (i := 0) rfl) rfl, ?_⟩
  refine List.forall_mem_cons.mpr ⟨ok_iload_n C (show decode cX11_price 31 = .ok (.iload_n 1, 1) from dk_at dq40_9 (i := 1) rfl) rfl rfl, ?_⟩
  refine List.forall_mem_cons.mpr ⟨ok_iload_n C (show decode cX11_price 32 = .ok (.iload_n 2, 1) from dk_at dq40_9 (i := 2) rfl) rfl rfl, ?_⟩
  refine List.forall_mem_cons.mpr ⟨ok_callS C h_X11_cell ⟨rfl, rfl⟩ kw_1413 kw_1411 kw_1412 kw_11 ds_X11_cell ⟨by decide, by decide⟩ (show decode cX11_price 33 = .ok (.invokestatic 245, 3) from dk_at dq40_9 (i := 3) rfl) rfl, ?_⟩
  refine List.forall_mem_cons.mpr ⟨ok_iaload C (show decode cX11_price 36 = .ok (.iaload, 1) from dk_at dq40_9 (i := 4) rfl) rfl, ?_⟩
  refine List.forall_mem_cons.mpr ⟨ok_goto C (show decode cX11_price 37 = .ok (.goto 4, 3) from dk_at dq40_9 (i := 5) rfl) (tg := 41) (by decide) rfl, ?_⟩
  refine List.forall_mem_cons.mpr ⟨ok_iconst C (show decode cX11_price 40 = .ok (.iconst (-1), 1) from dk_at dq40_9 (i := 6) rfl) (by decide) rfl, ?_⟩
  refine List.forall_mem_cons.mpr ⟨ok_ret C rfl (show decode cX11_price 41 = .ok (.ireturn, 1) from dk_at dq40_9 (i := 7) rfl), ?_⟩
  exact fun _ h => absurd h List.not_mem_nil
def L_X11_dearest (f_X11_missedBy : List Value → ab_H → Option ab_O) (f_X11_bits : List Value → ab_H → Option ab_O) : List (Nat × ab_A) := [
  (0, ab_nx 1 (ab_aload 0)),
  (1, ab_nx 2 (ab_lit (.int 0))),
  (2, ab_nx 5 (ab_putf 11 0 0)),
  (5, ab_nx 6 (ab_lit (.int (-1)))),
  (6, ab_nx 7 (ab_istore 1)),
  (7, ab_nx 8 (ab_lit (.int 0))),
  (8, ab_nx 9 (ab_istore 2)),
  (9, ab_nx 10 (ab_lit (.int 0))),
  (10, ab_nx 11 (ab_istore 3)),
  (11, ab_nx 12 (ab_iload 3)),
  (12, ab_nx 13 (ab_aload 0)),
  (13, ab_nx 16 (ab_getf 11 6)),
  (16, ab_nx 17 (ab_lit (.int 1))),
  (17, ab_nx 18 (ab_ald 1)),
  (18, ab_icmp 21 53 (fun x y => decide (y ≤ x))),
  (21, ab_nx 22 (ab_aload 0)),
  (22, ab_nx 23 (ab_iload 3)),
  (23, ab_nx 26 (ab_callV 2 11 f_X11_missedBy 0 0 0 0)),
  (26, ab_nx 29 (ab_call 1 f_X11_bits 0 0 0 0)),
  (29, ab_nx 30 (ab_iload 2)),
  (30, ab_icmp 33 36 (fun x y => decide (y < x))),
  (33, ab_goto 47),
  (36, ab_nx 37 (ab_aload 0)),
  (37, ab_nx 38 (ab_iload 3)),
  (38, ab_nx 41 (ab_callV 2 11 f_X11_missedBy 0 0 0 0)),
  (41, ab_nx 44 (ab_call 1 f_X11_bits 0 0 0 0)),
  (44, ab_nx 45 (ab_istore 2)),
  (45, ab_nx 46 (ab_iload 3)),
  (46, ab_nx 47 (ab_istore 1)),
  (47, ab_nx 50 (ab_iinc 3 1)),
  (50, ab_goto 11),
  (53, ab_nx 54 (ab_iload 1)),
  (54, ab_ret 0 0)]
set_option maxRecDepth 100000 in
theorem dq40_10 : ([(0, .aload_n 0, 1), (1, .iconst 0, 1), (2, .putfield 1, 3), (5, .iconst (-1), 1), (6, .istore_n 1, 1), (7, .iconst 0, 1), (8, .istore_n 2, 1), (9, .iconst 0, 1), (10, .istore_n 3, 1), (11, .iload_n 3, 1), (12, .aload_n 0, 1), (13, .getfield 33, 3), (16, .iconst 1, 1), (17, .iaload, 1), (18, .if_icmp .ge 35, 3), (21, .aload_n 0, 1)] : List (Nat × Instr × Nat)).all (fun q => decide (decode cX11_dearest q.1 = .ok q.2)) = true := by decide +kernel
set_option maxRecDepth 100000 in
theorem dq40_11 : ([(22, .iload_n 3, 1), (23, .invokevirtual 273, 3), (26, .invokestatic 332, 3), (29, .iload_n 2, 1), (30, .if_icmp .gt 6, 3), (33, .goto 14, 3), (36, .aload_n 0, 1), (37, .iload_n 3, 1), (38, .invokevirtual 273, 3), (41, .invokestatic 332, 3), (44, .istore_n 2, 1), (45, .iload_n 3, 1), (46, .istore_n 1, 1), (47, .iinc 3 1, 3), (50, .goto (-39), 3), (53, .iload_n 1, 1)] : List (Nat × Instr × Nat)).all (fun q => decide (decode cX11_dearest q.1 = .ok q.2)) = true := by decide +kernel
set_option maxRecDepth 100000 in
theorem dq40_12 : ([(54, .ireturn, 1)] : List (Nat × Instr × Nat)).all (fun q => decide (decode cX11_dearest q.1 = .ok q.2)) = true := by decide +kernel
set_option maxRecDepth 100000 in
set_option maxHeartbeats 4000000 in
theorem M_X11_dearest {l : Launch} {b : ab_B} {D : va_G} {cA : Nat → ClassId} {f_X11_missedBy : List Value → ab_H → Option ab_O} (h_X11_missedBy : ab_M l b D ab_cl cA (ab_E0 b) yX11_missedBy (Cond.code yX11_missedBy cX11_missedBy 4 (some .int) :: ab_G) ({ frames := 5, cells := 0, slots := 0, locals := 500 } : Room) f_X11_missedBy) {f_X11_bits : List Value → ab_H → Option ab_O} (h_X11_bits : ab_M l b D ab_cl cA (ab_E0 b) yX11_bits (Cond.code yX11_bits cX11_bits 3 (some .int) :: ab_G) ({ frames := 1, cells := 0, slots := 0, locals := 100 } : Room) f_X11_bits) : ab_M l b D ab_cl cA (ab_E0 b) yX11_dearest (Cond.code yX11_dearest cX11_dearest 4 (some .int) :: ab_G) ({ frames := 6, cells := 0, slots := 0, locals := 600 } : Room) (ab_X (ab_T (L_X11_dearest f_X11_missedBy f_X11_bits)) 4) := by
  refine ab_meth (ret := (some .int)) (L_X11_dearest f_X11_missedBy f_X11_bits) (by decide) rfl fun p e R s m args below meth c o C => ?_
  unfold L_X11_dearest
  refine List.forall_mem_cons.mpr ⟨ok_aload_n C (show decode cX11_dearest 0 = .ok (.aload_n 0, 1) from dk_at dq40_10 (i := 0) rfl) rfl rfl, ?_⟩
  refine List.forall_mem_cons.mpr ⟨ok_iconst C (show decode cX11_dearest 1 = .ok (.iconst 0, 1) from dk_at dq40_10 (i := 1) rfl) (by decide) rfl, ?_⟩
  refine List.forall_mem_cons.mpr ⟨ok_putf C (wi_X11) tyX11 tyX11_ok nmX11 rfl (by decide) kw_1180 (Or.inl rfl) (Or.inl ⟨rfl, rfl⟩) (show decode cX11_dearest 2 = .ok (.putfield 1, 3) from dk_at dq40_10 (i := 2) rfl) rfl, ?_⟩
  refine List.forall_mem_cons.mpr ⟨ok_iconst C (show decode cX11_dearest 5 = .ok (.iconst (-1), 1) from dk_at dq40_10 (i := 3) rfl) (by decide) rfl, ?_⟩
  refine List.forall_mem_cons.mpr ⟨ok_istore_n C (show decode cX11_dearest 6 = .ok (.istore_n 1, 1) from dk_at dq40_10 (i := 4) rfl) rfl (by decide) rfl, ?_⟩
  refine List.forall_mem_cons.mpr ⟨ok_iconst C (show decode cX11_dearest 7 = .ok (.iconst 0, 1) from dk_at dq40_10 (i := 5) rfl) (by decide) rfl, ?_⟩
  refine List.forall_mem_cons.mpr ⟨ok_istore_n C (show decode cX11_dearest 8 = .ok (.istore_n 2, 1) from dk_at dq40_10 (i := 6) rfl) rfl (by decide) rfl, ?_⟩
  refine List.forall_mem_cons.mpr ⟨ok_iconst C (show decode cX11_dearest 9 = .ok (.iconst 0, 1) from dk_at dq40_10 (i := 7) rfl) (by decide) rfl, ?_⟩
  refine List.forall_mem_cons.mpr ⟨ok_istore_n C (show decode cX11_dearest 10 = .ok (.istore_n 3, 1) from dk_at dq40_10 (i := 8) rfl) rfl (by decide) rfl, ?_⟩
  refine List.forall_mem_cons.mpr ⟨ok_iload_n C (show decode cX11_dearest 11 = .ok (.iload_n 3, 1) from dk_at dq40_10 (i := 9) rfl) rfl rfl, ?_⟩
  refine List.forall_mem_cons.mpr ⟨ok_aload_n C (show decode cX11_dearest 12 = .ok (.aload_n 0, 1) from dk_at dq40_10 (i := 10) rfl) rfl rfl, ?_⟩
  refine List.forall_mem_cons.mpr ⟨ok_getf C (wi_X11) rfl (by decide) kw_1186 (show decode cX11_dearest 13 = .ok (.getfield 33, 3) from dk_at dq40_10 (i := 11) rfl) rfl, ?_⟩
  refine List.forall_mem_cons.mpr ⟨ok_iconst C (show decode cX11_dearest 16 = .ok (.iconst 1, 1) from dk_at dq40_10 (i := 12) rfl) (by decide) rfl, ?_⟩
  refine List.forall_mem_cons.mpr ⟨ok_iaload C (show decode cX11_dearest 17 = .ok (.iaload, 1) from dk_at dq40_10 (i := 13) rfl) rfl, ?_⟩
  refine List.forall_mem_cons.mpr ⟨ok_icmpge C (show decode cX11_dearest 18 = .ok (.if_icmp .ge 35, 3) from dk_at dq40_10 (i := 14) rfl) (tg := 53) (by decide) rfl rfl, ?_⟩
  refine List.forall_mem_cons.mpr ⟨ok_aload_n C (show decode cX11_dearest 21 = .ok (.aload_n 0, 1) from dk_at dq40_10 (i := 15) rfl) rfl rfl, ?_⟩
  refine List.forall_mem_cons.mpr ⟨ok_iload_n C (show decode cX11_dearest 22 = .ok (.iload_n 3, 1) from dk_at dq40_11 (i := 0) rfl) rfl rfl, ?_⟩
  refine List.forall_mem_cons.mpr ⟨ok_callV C h_X11_missedBy ⟨rfl, rfl⟩ rfl kw_1445 kw_1442 kw_1444 kp_72 kw_11 rfl ds_X11_missedBy ⟨by decide, by decide⟩ (show decode cX11_dearest 23 = .ok (.invokevirtual 273, 3) from dk_at dq40_11 (i := 1) rfl) rfl, ?_⟩
  refine List.forall_mem_cons.mpr ⟨ok_callS C h_X11_bits ⟨rfl, rfl⟩ kw_1615 kw_1613 kw_1614 kw_11 ds_X11_bits ⟨by decide, by decide⟩ (show decode cX11_dearest 26 = .ok (.invokestatic 332, 3) from dk_at dq40_11 (i := 2) rfl) rfl, ?_⟩
  refine List.forall_mem_cons.mpr ⟨ok_iload_n C (show decode cX11_dearest 29 = .ok (.iload_n 2, 1) from dk_at dq40_11 (i := 3) rfl) rfl rfl, ?_⟩
  refine List.forall_mem_cons.mpr ⟨ok_icmpgt C (show decode cX11_dearest 30 = .ok (.if_icmp .gt 6, 3) from dk_at dq40_11 (i := 4) rfl) (tg := 36) (by decide) rfl rfl, ?_⟩
  refine List.forall_mem_cons.mpr ⟨ok_goto C (show decode cX11_dearest 33 = .ok (.goto 14, 3) from dk_at dq40_11 (i := 5) rfl) (tg := 47) (by decide) rfl, ?_⟩
  refine List.forall_mem_cons.mpr ⟨ok_aload_n C (show decode cX11_dearest 36 = .ok (.aload_n 0, 1) from dk_at dq40_11 (i := 6) rfl) rfl rfl, ?_⟩
  refine List.forall_mem_cons.mpr ⟨ok_iload_n C (show decode cX11_dearest 37 = .ok (.iload_n 3, 1) from dk_at dq40_11 (i := 7) rfl) rfl rfl, ?_⟩
  refine List.forall_mem_cons.mpr ⟨ok_callV C h_X11_missedBy ⟨rfl, rfl⟩ rfl kw_1445 kw_1442 kw_1444 kp_72 kw_11 rfl ds_X11_missedBy ⟨by decide, by decide⟩ (show decode cX11_dearest 38 = .ok (.invokevirtual 273, 3) from dk_at dq40_11 (i := 8) rfl) rfl, ?_⟩
  refine List.forall_mem_cons.mpr ⟨ok_callS C h_X11_bits ⟨rfl, rfl⟩ kw_1615 kw_1613 kw_1614 kw_11 ds_X11_bits ⟨by decide, by decide⟩ (show decode cX11_dearest 41 = .ok (.invokestatic 332, 3) from dk_at dq40_11 (i := 9) rfl) rfl, ?_⟩
  refine List.forall_mem_cons.mpr ⟨ok_istore_n C (show decode cX11_dearest 44 = .ok (.istore_n 2, 1) from dk_at dq40_11 (i := 10) rfl) rfl (by decide) rfl, ?_⟩
  refine List.forall_mem_cons.mpr ⟨ok_iload_n C (show decode cX11_dearest 45 = .ok (.iload_n 3, 1) from dk_at dq40_11 (i := 11) rfl) rfl rfl, ?_⟩
  refine List.forall_mem_cons.mpr ⟨ok_istore_n C (show decode cX11_dearest 46 = .ok (.istore_n 1, 1) from dk_at dq40_11 (i := 12) rfl) rfl (by decide) rfl, ?_⟩
  refine List.forall_mem_cons.mpr ⟨ok_iinc C (show decode cX11_dearest 47 = .ok (.iinc 3 1, 3) from dk_at dq40_11 (i := 13) rfl) (by decide) (by decide) rfl, ?_⟩
  refine List.forall_mem_cons.mpr ⟨ok_goto C (show decode cX11_dearest 50 = .ok (.goto (-39), 3) from dk_at dq40_11 (i := 14) rfl) (tg := 11) (by decide) rfl, ?_⟩
  refine List.forall_mem_cons.mpr ⟨ok_iload_n C (show decode cX11_dearest 53 = .ok (.iload_n 1, 1) from dk_at dq40_11 (i := 15) rfl) rfl rfl, ?_⟩
  refine List.forall_mem_cons.mpr ⟨ok_ret C rfl (show decode cX11_dearest 54 = .ok (.ireturn, 1) from dk_at dq40_12 (i := 0) rfl), ?_⟩
  exact fun _ h => absurd h List.not_mem_nil
def L_X11_rats (f_X11_menOn : List Value → ab_H → Option ab_O) (f_X11_isDead : List Value → ab_H → Option ab_O) : List (Nat × ab_A) := [
  (0, ab_nx 1 (ab_aload 0)),
  (1, ab_nx 2 (ab_lit (.int 0))),
  (2, ab_nx 5 (ab_putf 11 0 0)),
  (5, ab_nx 6 (ab_aload 0)),
  (6, ab_nx 7 (ab_lit (.int 0))),
  (7, ab_nx 10 (ab_callV 2 11 f_X11_menOn 0 0 0 0)),
  (10, ab_nx 11 (ab_aload 0)),
  (11, ab_nx 12 (ab_lit (.int 1))),
  (12, ab_nx 15 (ab_callV 2 11 f_X11_menOn 0 0 0 0)),
  (15, ab_nx 16 (ab_bin (fun x y => x ||| y))),
  (16, ab_nx 17 (ab_istore 1)),
  (17, ab_nx 18 (ab_lit (.int 0))),
  (18, ab_nx 19 (ab_istore 2)),
  (19, ab_nx 20 (ab_iload 2)),
  (20, ab_nx 21 (ab_aload 0)),
  (21, ab_nx 24 (ab_getf 11 6)),
  (24, ab_nx 25 (ab_lit (.int 3))),
  (25, ab_nx 26 (ab_ald 1)),
  (26, ab_icmp 29 67 (fun x y => decide (y ≤ x))),
  (29, ab_nx 30 (ab_aload 0)),
  (30, ab_nx 31 (ab_aload 0)),
  (31, ab_nx 34 (ab_getf 11 6)),
  (34, ab_nx 36 (ab_lit (.int 60))),
  (36, ab_nx 37 (ab_iload 2)),
  (37, ab_nx 38 (ab_bin (fun x y => x + y))),
  (38, ab_nx 39 (ab_ald 1)),
  (39, ab_nx 42 (ab_callV 2 11 f_X11_isDead 0 0 0 0)),
  (42, ab_if 45 61 (fun x => !decide (x = 0))),
  (45, ab_nx 46 (ab_iload 1)),
  (46, ab_nx 47 (ab_lit (.int 1))),
  (47, ab_nx 48 (ab_aload 0)),
  (48, ab_nx 51 (ab_getf 11 6)),
  (51, ab_nx 53 (ab_lit (.int 80))),
  (53, ab_nx 54 (ab_iload 2)),
  (54, ab_nx 55 (ab_bin (fun x y => x + y))),
  (55, ab_nx 56 (ab_ald 1)),
  (56, ab_nx 57 (ab_bin (fun x y => x <<< (y &&& 31)))),
  (57, ab_nx 58 (ab_lit (.int (-1)))),
  (58, ab_nx 59 (ab_bin (fun x y => x ^^^ y))),
  (59, ab_nx 60 (ab_bin (fun x y => x &&& y))),
  (60, ab_nx 61 (ab_istore 1)),
  (61, ab_nx 64 (ab_iinc 2 1)),
  (64, ab_goto 19),
  (67, ab_nx 68 (ab_iload 1)),
  (68, ab_ret 0 0)]
set_option maxRecDepth 100000 in
theorem dq40_13 : ([(0, .aload_n 0, 1), (1, .iconst 0, 1), (2, .putfield 1, 3), (5, .aload_n 0, 1), (6, .iconst 0, 1), (7, .invokevirtual 280, 3), (10, .aload_n 0, 1), (11, .iconst 1, 1), (12, .invokevirtual 280, 3), (15, .ior, 1), (16, .istore_n 1, 1), (17, .iconst 0, 1), (18, .istore_n 2, 1), (19, .iload_n 2, 1), (20, .aload_n 0, 1), (21, .getfield 33, 3)] : List (Nat × Instr × Nat)).all (fun q => decide (decode cX11_rats q.1 = .ok q.2)) = true := by decide +kernel
set_option maxRecDepth 100000 in
theorem dq40_14 : ([(24, .iconst 3, 1), (25, .iaload, 1), (26, .if_icmp .ge 41, 3), (29, .aload_n 0, 1), (30, .aload_n 0, 1), (31, .getfield 33, 3), (34, .bipush 60, 2), (36, .iload_n 2, 1), (37, .iadd, 1), (38, .iaload, 1), (39, .invokevirtual 257, 3), (42, .ifCond .ne 19, 3), (45, .iload_n 1, 1), (46, .iconst 1, 1), (47, .aload_n 0, 1), (48, .getfield 33, 3)] : List (Nat × Instr × Nat)).all (fun q => decide (decode cX11_rats q.1 = .ok q.2)) = true := by decide +kernel
set_option maxRecDepth 100000 in
theorem dq40_15 : ([(51, .bipush 80, 2), (53, .iload_n 2, 1), (54, .iadd, 1), (55, .iaload, 1), (56, .ishl, 1), (57, .iconst (-1), 1), (58, .ixor, 1), (59, .iand, 1), (60, .istore_n 1, 1), (61, .iinc 2 1, 3), (64, .goto (-45), 3), (67, .iload_n 1, 1), (68, .ireturn, 1)] : List (Nat × Instr × Nat)).all (fun q => decide (decode cX11_rats q.1 = .ok q.2)) = true := by decide +kernel
set_option maxRecDepth 100000 in
set_option maxHeartbeats 4000000 in
theorem M_X11_rats {l : Launch} {b : ab_B} {D : va_G} {cA : Nat → ClassId} {f_X11_menOn : List Value → ab_H → Option ab_O} (h_X11_menOn : ab_M l b D ab_cl cA (ab_E0 b) yX11_menOn (Cond.code yX11_menOn cX11_menOn 4 (some .int) :: ab_G) ({ frames := 3, cells := 0, slots := 0, locals := 300 } : Room) f_X11_menOn) {f_X11_isDead : List Value → ab_H → Option ab_O} (h_X11_isDead : ab_M l b D ab_cl cA (ab_E0 b) yX11_isDead (Cond.code yX11_isDead cX11_isDead 2 (some .boolean) :: ab_G) ({ frames := 2, cells := 0, slots := 0, locals := 200 } : Room) f_X11_isDead) : ab_M l b D ab_cl cA (ab_E0 b) yX11_rats (Cond.code yX11_rats cX11_rats 3 (some .int) :: ab_G) ({ frames := 4, cells := 0, slots := 0, locals := 400 } : Room) (ab_X (ab_T (L_X11_rats f_X11_menOn f_X11_isDead)) 3) := by
  refine ab_meth (ret := (some .int)) (L_X11_rats f_X11_menOn f_X11_isDead) (by decide) rfl fun p e R s m args below meth c o C => ?_
  unfold L_X11_rats
  refine List.forall_mem_cons.mpr ⟨ok_aload_n C (show decode cX11_rats 0 = .ok (.aload_n 0, 1) from dk_at dq40_13 (i := 0) rfl) rfl rfl, ?_⟩
  refine List.forall_mem_cons.mpr ⟨ok_iconst C (show decode cX11_rats 1 = .ok (.iconst 0, 1) from dk_at dq40_13 (i := 1) rfl) (by decide) rfl, ?_⟩
  refine List.forall_mem_cons.mpr ⟨ok_putf C (wi_X11) tyX11 tyX11_ok nmX11 rfl (by decide) kw_1180 (Or.inl rfl) (Or.inl ⟨rfl, rfl⟩) (show decode cX11_rats 2 = .ok (.putfield 1, 3) from dk_at dq40_13 (i := 2) rfl) rfl, ?_⟩
  refine List.forall_mem_cons.mpr ⟨ok_aload_n C (show decode cX11_rats 5 = .ok (.aload_n 0, 1) from dk_at dq40_13 (i := 3) rfl) rfl rfl, ?_⟩
  refine List.forall_mem_cons.mpr ⟨ok_iconst C (show decode cX11_rats 6 = .ok (.iconst 0, 1) from dk_at dq40_13 (i := 4) rfl) (by decide) rfl, ?_⟩
  refine List.forall_mem_cons.mpr ⟨ok_callV C h_X11_menOn ⟨rfl, rfl⟩ rfl kw_1469 kw_1466 kw_1468 kp_76 kw_11 rfl ds_X11_menOn ⟨by decide, by decide⟩ (show decode cX11_rats 7 = .ok (.invokevirtual 280, 3) from dk_at dq40_13 (i := 5) rfl) rfl, ?_⟩
  refine List.forall_mem_cons.mpr ⟨ok_aload_n C (show decode cX11_rats 10 = .ok (.aload_n 0, 1) from dk_at dq40_13 (i := 6) rfl) rfl rfl, ?_⟩
  refine List.forall_mem_cons.mpr ⟨ok_iconst C (show decode cX11_rats 11 = .ok (.iconst 1, 1) from dk_at dq40_13 (i := 7) rfl) (by decide) rfl, ?_⟩
  refine List.forall_mem_cons.mpr ⟨ok_callV C h_X11_menOn ⟨rfl, rfl⟩ rfl kw_1469 kw_1466 kw_1468 kp_76 kw_11 rfl ds_X11_menOn ⟨by decide, by decide⟩ (show decode cX11_rats 12 = .ok (.invokevirtual 280, 3) from dk_at dq40_13 (i := 8) rfl) rfl, ?_⟩
  refine List.forall_mem_cons.mpr ⟨ok_ior C (show decode cX11_rats 15 = .ok (.ior, 1) from dk_at dq40_13 (i := 9) rfl) rfl, ?_⟩
  refine List.forall_mem_cons.mpr ⟨ok_istore_n C (show decode cX11_rats 16 = .ok (.istore_n 1, 1) from dk_at dq40_13 (i := 10) rfl) rfl (by decide) rfl, ?_⟩
  refine List.forall_mem_cons.mpr ⟨ok_iconst C (show decode cX11_rats 17 = .ok (.iconst 0, 1) from dk_at dq40_13 (i := 11) rfl) (by decide) rfl, ?_⟩
  refine List.forall_mem_cons.mpr ⟨ok_istore_n C (show decode cX11_rats 18 = .ok (.istore_n 2, 1) from dk_at dq40_13 (i := 12) rfl) rfl (by decide) rfl, ?_⟩
  refine List.forall_mem_cons.mpr ⟨ok_iload_n C (show decode cX11_rats 19 = .ok (.iload_n 2, 1) from dk_at dq40_13 (i := 13) rfl) rfl rfl, ?_⟩
  refine List.forall_mem_cons.mpr ⟨ok_aload_n C (show decode cX11_rats 20 = .ok (.aload_n 0, 1) from dk_at dq40_13 (i := 14) rfl) rfl rfl, ?_⟩
  refine List.forall_mem_cons.mpr ⟨ok_getf C (wi_X11) rfl (by decide) kw_1186 (show decode cX11_rats 21 = .ok (.getfield 33, 3) from dk_at dq40_13 (i := 15) rfl) rfl, ?_⟩
  refine List.forall_mem_cons.mpr ⟨ok_iconst C (show decode cX11_rats 24 = .ok (.iconst 3, 1) from dk_at dq40_14 (i := 0) rfl) (by decide) rfl, ?_⟩
  refine List.forall_mem_cons.mpr ⟨ok_iaload C (show decode cX11_rats 25 = .ok (.iaload, 1) from dk_at dq40_14 (i := 1) rfl) rfl, ?_⟩
  refine List.forall_mem_cons.mpr ⟨ok_icmpge C (show decode cX11_rats 26 = .ok (.if_icmp .ge 41, 3) from dk_at dq40_14 (i := 2) rfl) (tg := 67) (by decide) rfl rfl, ?_⟩
  refine List.forall_mem_cons.mpr ⟨ok_aload_n C (show decode cX11_rats 29 = .ok (.aload_n 0, 1) from dk_at dq40_14 (i := 3) rfl) rfl rfl, ?_⟩
  refine List.forall_mem_cons.mpr ⟨ok_aload_n C (show decode cX11_rats 30 = .ok (.aload_n 0, 1) from dk_at dq40_14 (i := 4) rfl) rfl rfl, ?_⟩
  refine List.forall_mem_cons.mpr ⟨ok_getf C (wi_X11) rfl (by decide) kw_1186 (show decode cX11_rats 31 = .ok (.getfield 33, 3) from dk_at dq40_14 (i := 5) rfl) rfl, ?_⟩
  refine List.forall_mem_cons.mpr ⟨ok_bipush C (show decode cX11_rats 34 = .ok (.bipush 60, 2) from dk_at dq40_14 (i := 6) rfl) (by decide) rfl, ?_⟩
  refine List.forall_mem_cons.mpr ⟨ok_iload_n C (show decode cX11_rats 36 = .ok (.iload_n 2, 1) from dk_at dq40_14 (i := 7) rfl) rfl rfl, ?_⟩
  refine List.forall_mem_cons.mpr ⟨ok_iadd C (show decode cX11_rats 37 = .ok (.iadd, 1) from dk_at dq40_14 (i := 8) rfl) rfl, ?_⟩
  refine List.forall_mem_cons.mpr ⟨ok_iaload C (show decode cX11_rats 38 = .ok (.iaload, 1) from dk_at dq40_14 (i := 9) rfl) rfl, ?_⟩
  refine List.forall_mem_cons.mpr ⟨ok_callV C h_X11_isDead ⟨rfl, rfl⟩ rfl kw_1441 kw_1438 kw_1440 kp_71 kw_11 rfl ds_X11_isDead ⟨by decide, by decide⟩ (show decode cX11_rats 39 = .ok (.invokevirtual 257, 3) from dk_at dq40_14 (i := 10) rfl) rfl, ?_⟩
  refine List.forall_mem_cons.mpr ⟨ok_ifne C (show decode cX11_rats 42 = .ok (.ifCond .ne 19, 3) from dk_at dq40_14 (i := 11) rfl) (tg := 61) (by decide) rfl rfl, ?_⟩
  refine List.forall_mem_cons.mpr ⟨ok_iload_n C (show decode cX11_rats 45 = .ok (.iload_n 1, 1) from dk_at dq40_14 (i := 12) rfl) rfl rfl, ?_⟩
  refine List.forall_mem_cons.mpr ⟨ok_iconst C (show decode cX11_rats 46 = .ok (.iconst 1, 1) from dk_at dq40_14 (i := 13) rfl) (by decide) rfl, ?_⟩
  refine List.forall_mem_cons.mpr ⟨ok_aload_n C (show decode cX11_rats 47 = .ok (.aload_n 0, 1) from dk_at dq40_14 (i := 14) rfl) rfl rfl, ?_⟩
  refine List.forall_mem_cons.mpr ⟨ok_getf C (wi_X11) rfl (by decide) kw_1186 (show decode cX11_rats 48 = .ok (.getfield 33, 3) from dk_at dq40_14 (i := 15) rfl) rfl, ?_⟩
  refine List.forall_mem_cons.mpr ⟨ok_bipush C (show decode cX11_rats 51 = .ok (.bipush 80, 2) from dk_at dq40_15 (i := 0) rfl) (by decide) rfl, ?_⟩
  refine List.forall_mem_cons.mpr ⟨ok_iload_n C (show decode cX11_rats 53 = .ok (.iload_n 2, 1) from dk_at dq40_15 (i := 1) rfl) rfl rfl, ?_⟩
  refine List.forall_mem_cons.mpr ⟨ok_iadd C (show decode cX11_rats 54 = .ok (.iadd, 1) from dk_at dq40_15 (i := 2) rfl) rfl, ?_⟩
  refine List.forall_mem_cons.mpr ⟨ok_iaload C (show decode cX11_rats 55 = .ok (.iaload, 1) from dk_at dq40_15 (i := 3) rfl) rfl, ?_⟩
  refine List.forall_mem_cons.mpr ⟨ok_ishl C (show decode cX11_rats 56 = .ok (.ishl, 1) from dk_at dq40_15 (i := 4) rfl) rfl, ?_⟩
  refine List.forall_mem_cons.mpr ⟨ok_iconst C (show decode cX11_rats 57 = .ok (.iconst (-1), 1) from dk_at dq40_15 (i := 5) rfl) (by decide) rfl, ?_⟩
  refine List.forall_mem_cons.mpr ⟨ok_ixor C (show decode cX11_rats 58 = .ok (.ixor, 1) from dk_at dq40_15 (i := 6) rfl) rfl, ?_⟩
  refine List.forall_mem_cons.mpr ⟨ok_iand C (show decode cX11_rats 59 = .ok (.iand, 1) from dk_at dq40_15 (i := 7) rfl) rfl, ?_⟩
  refine List.forall_mem_cons.mpr ⟨ok_istore_n C (show decode cX11_rats 60 = .ok (.istore_n 1, 1) from dk_at dq40_15 (i := 8) rfl) rfl (by decide) rfl, ?_⟩
  refine List.forall_mem_cons.mpr ⟨ok_iinc C (show decode cX11_rats 61 = .ok (.iinc 2 1, 3) from dk_at dq40_15 (i := 9) rfl) (by decide) (by decide) rfl, ?_⟩
  refine List.forall_mem_cons.mpr ⟨ok_goto C (show decode cX11_rats 64 = .ok (.goto (-45), 3) from dk_at dq40_15 (i := 10) rfl) (tg := 19) (by decide) rfl, ?_⟩
  refine List.forall_mem_cons.mpr ⟨ok_iload_n C (show decode cX11_rats 67 = .ok (.iload_n 1, 1) from dk_at dq40_15 (i := 11) rfl) rfl rfl, ?_⟩
  refine List.forall_mem_cons.mpr ⟨ok_ret C rfl (show decode cX11_rats 68 = .ok (.ireturn, 1) from dk_at dq40_15 (i := 12) rfl), ?_⟩
  exact fun _ h => absurd h List.not_mem_nil
def L_X11_hoarded (f_X11_isShore : List Value → ab_H → Option ab_O) (f_X11_cell : List Value → ab_H → Option ab_O) : List (Nat × ab_A) := [
  (0, ab_nx 1 (ab_aload 0)),
  (1, ab_nx 2 (ab_lit (.int 0))),
  (2, ab_nx 5 (ab_putf 11 0 0)),
  (5, ab_nx 6 (ab_aload 0)),
  (6, ab_nx 7 (ab_iload 1)),
  (7, ab_nx 10 (ab_callV 2 11 f_X11_isShore 0 0 0 0)),
  (10, ab_if 13 15 (fun x => !decide (x = 0))),
  (13, ab_nx 14 (ab_lit (.int (-1)))),
  (14, ab_ret 0 0),
  (15, ab_nx 16 (ab_lit (.int (-1)))),
  (16, ab_nx 17 (ab_istore 2)),
  (17, ab_nx 18 (ab_lit (.int 0))),
  (18, ab_nx 19 (ab_istore 3)),
  (19, ab_nx 20 (ab_lit (.int 0))),
  (20, ab_nx 22 (ab_istore 4)),
  (22, ab_nx 24 (ab_iload 4)),
  (24, ab_nx 25 (ab_aload 0)),
  (25, ab_nx 28 (ab_getf 11 6)),
  (28, ab_nx 29 (ab_lit (.int 0))),
  (29, ab_nx 30 (ab_ald 1)),
  (30, ab_icmp 33 80 (fun x y => decide (y ≤ x))),
  (33, ab_nx 34 (ab_aload 0)),
  (34, ab_nx 37 (ab_getf 11 6)),
  (37, ab_nx 40 (ab_lit (.int 136))),
  (40, ab_nx 42 (ab_iload 4)),
  (42, ab_nx 43 (ab_iload 1)),
  (43, ab_nx 46 (ab_call 2 f_X11_cell 0 0 0 0)),
  (46, ab_nx 47 (ab_bin (fun x y => x + y))),
  (47, ab_nx 48 (ab_ald 1)),
  (48, ab_nx 49 (ab_iload 3)),
  (49, ab_icmp 52 55 (fun x y => decide (y < x))),
  (52, ab_goto 74),
  (55, ab_nx 56 (ab_aload 0)),
  (56, ab_nx 59 (ab_getf 11 6)),
  (59, ab_nx 62 (ab_lit (.int 136))),
  (62, ab_nx 64 (ab_iload 4)),
  (64, ab_nx 65 (ab_iload 1)),
  (65, ab_nx 68 (ab_call 2 f_X11_cell 0 0 0 0)),
  (68, ab_nx 69 (ab_bin (fun x y => x + y))),
  (69, ab_nx 70 (ab_ald 1)),
  (70, ab_nx 71 (ab_istore 3)),
  (71, ab_nx 73 (ab_iload 4)),
  (73, ab_nx 74 (ab_istore 2)),
  (74, ab_nx 77 (ab_iinc 4 1)),
  (77, ab_goto 22),
  (80, ab_nx 81 (ab_iload 2)),
  (81, ab_ret 0 0)]
set_option maxRecDepth 100000 in
theorem dq40_16 : ([(0, .aload_n 0, 1), (1, .iconst 0, 1), (2, .putfield 1, 3), (5, .aload_n 0, 1), (6, .iload_n 1, 1), (7, .invokevirtual 242, 3), (10, .ifCond .ne 5, 3), (13, .iconst (-1), 1), (14, .ireturn, 1), (15, .iconst (-1), 1), (16, .istore_n 2, 1), (17, .iconst 0, 1), (18, .istore_n 3, 1), (19, .iconst 0, 1), (20, .istore 4, 2), (22, .iload 4, 2)] : List (Nat × Instr × Nat)).all (fun q => decide (decode cX11_hoarded q.1 = .ok q.2)) = true := by decide +kernel
set_option maxRecDepth 100000 in
theorem dq40_17 : ([(24, .aload_n 0, 1), (25, .getfield 33, 3), (28, .iconst 0, 1), (29, .iaload, 1), (30, .if_icmp .ge 50, 3), (33, .aload_n 0, 1), (34, .getfield 33, 3), (37, .sipush 136, 3), (40, .iload 4, 2), (42, .iload_n 1, 1), (43, .invokestatic 245, 3), (46, .iadd, 1), (47, .iaload, 1), (48, .iload_n 3, 1), (49, .if_icmp .gt 6, 3), (52, .goto 22, 3)] : List (Nat × Instr × Nat)).all (fun q => decide (decode cX11_hoarded q.1 = .ok q.2)) = true := by decide +kernel
set_option maxRecDepth 100000 in
theorem dq40_18 : ([(55, .aload_n 0, 1), (56, .getfield 33, 3), (59, .sipush 136, 3), (62, .iload 4, 2), (64, .iload_n 1, 1), (65, .invokestatic 245, 3), (68, .iadd, 1), (69, .iaload, 1), (70, .istore_n 3, 1), (71, .iload 4, 2), (73, .istore_n 2, 1), (74, .iinc 4 1, 3), (77, .goto (-55), 3), (80, .iload_n 2, 1), (81, .ireturn, 1)] : List (Nat × Instr × Nat)).all (fun q => decide (decode cX11_hoarded q.1 = .ok q.2)) = true := by decide +kernel
set_option maxRecDepth 100000 in
set_option maxHeartbeats 4000000 in
theorem M_X11_hoarded {l : Launch} {b : ab_B} {D : va_G} {cA : Nat → ClassId} {f_X11_isShore : List Value → ab_H → Option ab_O} (h_X11_isShore : ab_M l b D ab_cl cA (ab_E0 b) yX11_isShore (Cond.code yX11_isShore cX11_isShore 2 (some .boolean) :: ab_G) ({ frames := 2, cells := 0, slots := 0, locals := 200 } : Room) f_X11_isShore) {f_X11_cell : List Value → ab_H → Option ab_O} (h_X11_cell : ab_M l b D ab_cl cA (ab_E0 b) yX11_cell (Cond.code yX11_cell cX11_cell 2 (some .int) :: ab_G) ({ frames := 1, cells := 0, slots := 0, locals := 100 } : Room) f_X11_cell) : ab_M l b D ab_cl cA (ab_E0 b) yX11_hoarded (Cond.code yX11_hoarded cX11_hoarded 5 (some .int) :: ab_G) ({ frames := 3, cells := 0, slots := 0, locals := 300 } : Room) (ab_X (ab_T (L_X11_hoarded f_X11_isShore f_X11_cell)) 5) := by
  refine ab_meth (ret := (some .int)) (L_X11_hoarded f_X11_isShore f_X11_cell) (by decide) rfl fun p e R s m args below meth c o C => ?_
  unfold L_X11_hoarded
  refine List.forall_mem_cons.mpr ⟨ok_aload_n C (show decode cX11_hoarded 0 = .ok (.aload_n 0, 1) from dk_at dq40_16 (i := 0) rfl) rfl rfl, ?_⟩
  refine List.forall_mem_cons.mpr ⟨ok_iconst C (show decode cX11_hoarded 1 = .ok (.iconst 0, 1) from dk_at dq40_16 (i := 1) rfl) (by decide) rfl, ?_⟩
  refine List.forall_mem_cons.mpr ⟨ok_putf C (wi_X11) tyX11 tyX11_ok nmX11 rfl (by decide) kw_1180 (Or.inl rfl) (Or.inl ⟨rfl, rfl⟩) (show decode cX11_hoarded 2 = .ok (.putfield 1, 3) from dk_at dq40_16 (i := 2) rfl) rfl, ?_⟩
  refine List.forall_mem_cons.mpr ⟨ok_aload_n C (show decode cX11_hoarded 5 = .ok (.aload_n 0, 1) from dk_at dq40_16 (i := 3) rfl) rfl rfl, ?_⟩
  refine List.forall_mem_cons.mpr ⟨ok_iload_n C (show decode cX11_hoarded 6 = .ok (.iload_n 1, 1) from dk_at dq40_16 (i := 4) rfl) rfl rfl, ?_⟩
  refine List.forall_mem_cons.mpr ⟨ok_callV C h_X11_isShore ⟨rfl, rfl⟩ rfl kw_1410 kw_1407 kw_1409 kp_66 kw_11 rfl ds_X11_isShore ⟨by decide, by decide⟩ (show decode cX11_hoarded 7 = .ok (.invokevirtual 242, 3) from dk_at dq40_16 (i := 5) rfl) rfl, ?_⟩
  refine List.forall_mem_cons.mpr ⟨ok_ifne C (show decode cX11_hoarded 10 = .ok (.ifCond .ne 5, 3) from dk_at dq40_16 (i := 6) rfl) (tg := 15) (by decide) rfl rfl, ?_⟩
  refine List.forall_mem_cons.mpr ⟨ok_iconst C (show decode cX11_hoarded 13 = .ok (.iconst (-1), 1) from dk_at dq40_16 (i := 7) rfl) (by decide) rfl, ?_⟩
  refine List.forall_mem_cons.mpr ⟨ok_ret C rfl (show decode cX11_hoarded 14 = .ok (.ireturn, 1) from dk_at dq40_16 (i := 8) rfl), ?_⟩
  refine List.forall_mem_cons.mpr ⟨ok_iconst C (show decode cX11_hoarded 15 = .ok (.iconst (-1), 1) from dk_at dq40_16 (i := 9) rfl) (by decide) rfl, ?_⟩
  refine List.forall_mem_cons.mpr ⟨ok_istore_n C (show decode cX11_hoarded 16 = .ok (.istore_n 2, 1) from dk_at dq40_16 (i := 10) rfl) rfl (by decide) rfl, ?_⟩
  refine List.forall_mem_cons.mpr ⟨ok_iconst C (show decode cX11_hoarded 17 = .ok (.iconst 0, 1) from dk_at dq40_16 (i := 11) rfl) (by decide) rfl, ?_⟩
  refine List.forall_mem_cons.mpr ⟨ok_istore_n C (show decode cX11_hoarded 18 = .ok (.istore_n 3, 1) from dk_at dq40_16 (i := 12) rfl) rfl (by decide) rfl, ?_⟩
  refine List.forall_mem_cons.mpr ⟨ok_iconst C (show decode cX11_hoarded 19 = .ok (.iconst 0, 1) from dk_at dq40_16 (i := 13) rfl) (by decide) rfl, ?_⟩
  refine List.forall_mem_cons.mpr ⟨ok_istore C (show decode cX11_hoarded 20 = .ok (.istore 4, 2) from dk_at dq40_16 (i := 14) rfl) (by decide) rfl, ?_⟩
  refine List.forall_mem_cons.mpr ⟨ok_iload C (show decode cX11_hoarded 22 = .ok (.iload 4, 2) from dk_at dq40_16 (i := 15) rfl) rfl, ?_⟩
  refine List.forall_mem_cons.mpr ⟨ok_aload_n C (show decode cX11_hoarded 24 = .ok (.aload_n 0, 1) from dk_at dq40_17 (i := 0) rfl) rfl rfl, ?_⟩
  refine List.forall_mem_cons.mpr ⟨ok_getf C (wi_X11) rfl (by decide) kw_1186 (show decode cX11_hoarded 25 = .ok (.getfield 33, 3) from dk_at dq40_17 (i := 1) rfl) rfl, ?_⟩
  refine List.forall_mem_cons.mpr ⟨ok_iconst C (show decode cX11_hoarded 28 = .ok (.iconst 0, 1) from dk_at dq40_17 (i := 2) rfl) (by decide) rfl, ?_⟩
  refine List.forall_mem_cons.mpr ⟨ok_iaload C (show decode cX11_hoarded 29 = .ok (.iaload, 1) from dk_at dq40_17 (i := 3) rfl) rfl, ?_⟩
  refine List.forall_mem_cons.mpr ⟨ok_icmpge C (show decode cX11_hoarded 30 = .ok (.if_icmp .ge 50, 3) from dk_at dq40_17 (i := 4) rfl) (tg := 80) (by decide) rfl rfl, ?_⟩
  refine List.forall_mem_cons.mpr ⟨ok_aload_n C (show decode cX11_hoarded 33 = .ok (.aload_n 0, 1) from dk_at dq40_17 (i := 5) rfl) rfl rfl, ?_⟩
  refine List.forall_mem_cons.mpr ⟨ok_getf C (wi_X11) rfl (by decide) kw_1186 (show decode cX11_hoarded 34 = .ok (.getfield 33, 3) from dk_at dq40_17 (i := 6) rfl) rfl, ?_⟩
  refine List.forall_mem_cons.mpr ⟨ok_sipush C (show decode cX11_hoarded 37 = .ok (.sipush 136, 3) from dk_at dq40_17 (i := 7) rfl) (by decide) rfl, ?_⟩
  refine List.forall_mem_cons.mpr ⟨ok_iload C (show decode cX11_hoarded 40 = .ok (.iload 4, 2) from dk_at dq40_17 (i := 8) rfl) rfl, ?_⟩
  refine List.forall_mem_cons.mpr ⟨ok_iload_n C (show decode cX11_hoarded 42 = .ok (.iload_n 1, 1) from dk_at dq40_17 (i := 9) rfl) rfl rfl, ?_⟩
  refine List.forall_mem_cons.mpr ⟨ok_callS C h_X11_cell ⟨rfl, rfl⟩ kw_1413 kw_1411 kw_1412 kw_11 ds_X11_cell ⟨by decide, by decide⟩ (show decode cX11_hoarded 43 = .ok (.invokestatic 245, 3) from dk_at dq40_17 (i := 10) rfl) rfl, ?_⟩
  refine List.forall_mem_cons.mpr ⟨ok_iadd C (show decode cX11_hoarded 46 = .ok (.iadd, 1) from dk_at dq40_17 (i := 11) rfl) rfl, ?_⟩
  refine List.forall_mem_cons.mpr ⟨ok_iaload C (show decode cX11_hoarded 47 = .ok (.iaload, 1) from dk_at dq40_17 (i := 12) rfl) rfl, ?_⟩
  refine List.forall_mem_cons.mpr ⟨ok_iload_n C (show decode cX11_hoarded 48 = .ok (.iload_n 3, 1) from dk_at dq40_17 (i := 13) rfl) rfl rfl, ?_⟩
  refine List.forall_mem_cons.mpr ⟨ok_icmpgt C (show decode cX11_hoarded 49 = .ok (.if_icmp .gt 6, 3) from dk_at dq40_17 (i := 14) rfl) (tg := 55) (by decide) rfl rfl, ?_⟩
  refine List.forall_mem_cons.mpr ⟨ok_goto C (show decode cX11_hoarded 52 = .ok (.goto 22, 3) from dk_at dq40_17 (i := 15) rfl) (tg := 74) (by decide) rfl, ?_⟩
  refine List.forall_mem_cons.mpr ⟨ok_aload_n C (show decode cX11_hoarded 55 = .ok (.aload_n 0, 1) from dk_at dq40_18 (i := 0) rfl) rfl rfl, ?_⟩
  refine List.forall_mem_cons.mpr ⟨ok_getf C (wi_X11) rfl (by decide) kw_1186 (show decode cX11_hoarded 56 = .ok (.getfield 33, 3) from dk_at dq40_18 (i := 1) rfl) rfl, ?_⟩
  refine List.forall_mem_cons.mpr ⟨ok_sipush C (show decode cX11_hoarded 59 = .ok (.sipush 136, 3) from dk_at dq40_18 (i := 2) rfl) (by decide) rfl, ?_⟩
  refine List.forall_mem_cons.mpr ⟨ok_iload C (show decode cX11_hoarded 62 = .ok (.iload 4, 2) from dk_at dq40_18 (i := 3) rfl) rfl, ?_⟩
  refine List.forall_mem_cons.mpr ⟨ok_iload_n C (show decode cX11_hoarded 64 = .ok (.iload_n 1, 1) from dk_at dq40_18 (i := 4) rfl) rfl rfl, ?_⟩
  refine List.forall_mem_cons.mpr ⟨ok_callS C h_X11_cell ⟨rfl, rfl⟩ kw_1413 kw_1411 kw_1412 kw_11 ds_X11_cell ⟨by decide, by decide⟩ (show decode cX11_hoarded 65 = .ok (.invokestatic 245, 3) from dk_at dq40_18 (i := 5) rfl) rfl, ?_⟩
  refine List.forall_mem_cons.mpr ⟨ok_iadd C (show decode cX11_hoarded 68 = .ok (.iadd, 1) from dk_at dq40_18 (i := 6) rfl) rfl, ?_⟩
  refine List.forall_mem_cons.mpr ⟨ok_iaload C (show decode cX11_hoarded 69 = .ok (.iaload, 1) from dk_at dq40_18 (i := 7) rfl) rfl, ?_⟩
  refine List.forall_mem_cons.mpr ⟨ok_istore_n C (show decode cX11_hoarded 70 = .ok (.istore_n 3, 1) from dk_at dq40_18 (i := 8) rfl) rfl (by decide) rfl, ?_⟩
  refine List.forall_mem_cons.mpr ⟨ok_iload C (show decode cX11_hoarded 71 = .ok (.iload 4, 2) from dk_at dq40_18 (i := 9) rfl) rfl, ?_⟩
  refine List.forall_mem_cons.mpr ⟨ok_istore_n C (show decode cX11_hoarded 73 = .ok (.istore_n 2, 1) from dk_at dq40_18 (i := 10) rfl) rfl (by decide) rfl, ?_⟩
  refine List.forall_mem_cons.mpr ⟨ok_iinc C (show decode cX11_hoarded 74 = .ok (.iinc 4 1, 3) from dk_at dq40_18 (i := 11) rfl) (by decide) (by decide) rfl, ?_⟩
  refine List.forall_mem_cons.mpr ⟨ok_goto C (show decode cX11_hoarded 77 = .ok (.goto (-55), 3) from dk_at dq40_18 (i := 12) rfl) (tg := 22) (by decide) rfl, ?_⟩
  refine List.forall_mem_cons.mpr ⟨ok_iload_n C (show decode cX11_hoarded 80 = .ok (.iload_n 2, 1) from dk_at dq40_18 (i := 13) rfl) rfl rfl, ?_⟩
  refine List.forall_mem_cons.mpr ⟨ok_ret C rfl (show decode cX11_hoarded 81 = .ok (.ireturn, 1) from dk_at dq40_18 (i := 14) rfl), ?_⟩
  exact fun _ h => absurd h List.not_mem_nil
def L_X11_draw : List (Nat × ab_A) := [
  (0, ab_nx 1 (ab_aload 0)),
  (1, ab_nx 2 (ab_aload 0)),
  (2, ab_nx 5 (ab_getf 11 29)),
  (5, ab_nx 8 (ab_lit (.int 1103515245))),
  (8, ab_nx 9 (ab_bin (fun x y => x * y))),
  (9, ab_nx 12 (ab_lit (.int 12345))),
  (12, ab_nx 13 (ab_bin (fun x y => x + y))),
  (13, ab_nx 16 (ab_putf 11 29 0)),
  (16, ab_nx 17 (ab_aload 0)),
  (17, ab_nx 20 (ab_getf 11 29)),
  (20, ab_nx 22 (ab_lit (.int 8))),
  (22, ab_nx 23 (ab_bin (fun x y => (x.toUInt32 >>> (y.toUInt32 &&& Int32.toUInt32 31)).toInt32))),
  (23, ab_nx 24 (ab_iload 1)),
  (24, ab_nx 25 ab_irem),
  (25, ab_ret 0 0)]
set_option maxRecDepth 100000 in
theorem dq40_19 : ([(0, .aload_n 0, 1), (1, .aload_n 0, 1), (2, .getfield 335, 3), (5, .ldc_w 338, 3), (8, .imul, 1), (9, .sipush 12345, 3), (12, .iadd, 1), (13, .putfield 335, 3), (16, .aload_n 0, 1), (17, .getfield 335, 3), (20, .bipush 8, 2), (22, .iushr, 1), (23, .iload_n 1, 1), (24, .irem, 1), (25, .ireturn, 1)] : List (Nat × Instr × Nat)).all (fun q => decide (decode cX11_draw q.1 = .ok q.2)) = true := by decide +kernel
set_option maxRecDepth 100000 in
set_option maxHeartbeats 4000000 in
theorem M_X11_draw {l : Launch} {b : ab_B} {D : va_G} {cA : Nat → ClassId} : ab_M l b D ab_cl cA (ab_E0 b) yX11_draw (Cond.code yX11_draw cX11_draw 2 (some .int) :: ab_G) ({ frames := 1, cells := 0, slots := 0, locals := 100 } : Room) (ab_X (ab_T L_X11_draw) 2) := by
  refine ab_meth (ret := (some .int)) L_X11_draw (by decide) rfl fun p e R s m args below meth c o C => ?_
  unfold L_X11_draw
  refine List.forall_mem_cons.mpr ⟨ok_aload_n C (show decode cX11_draw 0 = .ok (.aload_n 0, 1) from dk_at dq40_19 (i := 0) rfl) rfl rfl, ?_⟩
  refine List.forall_mem_cons.mpr ⟨ok_aload_n C (show decode cX11_draw 1 = .ok (.aload_n 0, 1) from dk_at dq40_19 (i := 1) rfl) rfl rfl, ?_⟩
  refine List.forall_mem_cons.mpr ⟨ok_getf C (wi_X11) rfl (by decide) kw_1209 (show decode cX11_draw 2 = .ok (.getfield 335, 3) from dk_at dq40_19 (i := 2) rfl) rfl, ?_⟩
  refine List.forall_mem_cons.mpr ⟨ok_ldcw C (show decode cX11_draw 5 = .ok (.ldc_w 338, 3) from dk_at dq40_19 (i := 3) rfl) (gm kw_1640) rfl, ?_⟩
  refine List.forall_mem_cons.mpr ⟨ok_imul C (show decode cX11_draw 8 = .ok (.imul, 1) from dk_at dq40_19 (i := 4) rfl) rfl, ?_⟩
  refine List.forall_mem_cons.mpr ⟨ok_sipush C (show decode cX11_draw 9 = .ok (.sipush 12345, 3) from dk_at dq40_19 (i := 5) rfl) (by decide) rfl, ?_⟩
  refine List.forall_mem_cons.mpr ⟨ok_iadd C (show decode cX11_draw 12 = .ok (.iadd, 1) from dk_at dq40_19 (i := 6) rfl) rfl, ?_⟩
  refine List.forall_mem_cons.mpr ⟨ok_putf C (wi_X11) tyX11 tyX11_ok nmX11 rfl (by decide) kw_1209 (Or.inl rfl) (Or.inl ⟨rfl, rfl⟩) (show decode cX11_draw 13 = .ok (.putfield 335, 3) from dk_at dq40_19 (i := 7) rfl) rfl, ?_⟩
  refine List.forall_mem_cons.mpr ⟨ok_aload_n C (show decode cX11_draw 16 = .ok (.aload_n 0, 1) from dk_at dq40_19 (i := 8) rfl) rfl rfl, ?_⟩
  refine List.forall_mem_cons.mpr ⟨ok_getf C (wi_X11) rfl (by decide) kw_1209 (show decode cX11_draw 17 = .ok (.getfield 335, 3) from dk_at dq40_19 (i := 9) rfl) rfl, ?_⟩
  refine List.forall_mem_cons.mpr ⟨ok_bipush C (show decode cX11_draw 20 = .ok (.bipush 8, 2) from dk_at dq40_19 (i := 10) rfl) (by decide) rfl, ?_⟩
  refine List.forall_mem_cons.mpr ⟨ok_iushr C (show decode cX11_draw 22 = .ok (.iushr, 1) from dk_at dq40_19 (i := 11) rfl) rfl, ?_⟩
  refine List.forall_mem_cons.mpr ⟨ok_iload_n C (show decode cX11_draw 23 = .ok (.iload_n 1, 1) from dk_at dq40_19 (i := 12) rfl) rfl rfl, ?_⟩
  refine List.forall_mem_cons.mpr ⟨ok_irem C (show decode cX11_draw 24 = .ok (.irem, 1) from dk_at dq40_19 (i := 13) rfl) rfl, ?_⟩
  refine List.forall_mem_cons.mpr ⟨ok_ret C rfl (show decode cX11_draw 25 = .ok (.ireturn, 1) from dk_at dq40_19 (i := 14) rfl), ?_⟩
  exact fun _ h => absurd h List.not_mem_nil
def L_X11_drawsDay (f_X11_draw : List Value → ab_H → Option ab_O) (f_X11_cell : List Value → ab_H → Option ab_O) (f_X11_whyHoard : List Value → ab_H → Option ab_O) (f_X11_hoards : List Value → ab_H → Option ab_O) (f_X11_whyBare : List Value → ab_H → Option ab_O) (f_X11_day : List Value → ab_H → Option ab_O) : List (Nat × ab_A) := [
  (0, ab_nx 1 (ab_aload 0)),
  (1, ab_nx 3 (ab_lit (.int 6))),
  (3, ab_nx 6 (ab_callV 2 11 f_X11_draw 0 0 0 0)),
  (6, ab_nx 7 (ab_istore 1)),
  (7, ab_nx 8 (ab_iload 1)),
  (8, ab_nx 9 (ab_lit (.int 3))),
  (9, ab_icmp 12 116 (fun x y => decide (y ≤ x))),
  (12, ab_nx 13 (ab_aload 0)),
  (13, ab_nx 14 (ab_aload 0)),
  (14, ab_nx 17 (ab_getf 11 6)),
  (17, ab_nx 18 (ab_lit (.int 0))),
  (18, ab_nx 19 (ab_ald 1)),
  (19, ab_nx 22 (ab_callV 2 11 f_X11_draw 0 0 0 0)),
  (22, ab_nx 23 (ab_istore 2)),
  (23, ab_nx 24 (ab_iload 2)),
  (24, ab_nx 25 (ab_aload 0)),
  (25, ab_nx 26 (ab_lit (.int 2))),
  (26, ab_nx 29 (ab_callV 2 11 f_X11_draw 0 0 0 0)),
  (29, ab_nx 32 (ab_call 2 f_X11_cell 0 0 0 0)),
  (32, ab_nx 33 (ab_istore 3)),
  (33, ab_nx 34 (ab_lit (.int 1))),
  (34, ab_nx 35 (ab_aload 0)),
  (35, ab_nx 37 (ab_lit (.int 20))),
  (37, ab_nx 40 (ab_callV 2 11 f_X11_draw 0 0 0 0)),
  (40, ab_nx 41 (ab_bin (fun x y => x + y))),
  (41, ab_nx 43 (ab_istore 4)),
  (43, ab_nx 44 (ab_iload 1)),
  (44, ab_if 47 64 (fun x => !decide (x = 0))),
  (47, ab_nx 48 (ab_aload 0)),
  (48, ab_nx 49 (ab_iload 3)),
  (49, ab_nx 51 (ab_iload 4)),
  (51, ab_nx 54 (ab_callV 3 11 f_X11_whyHoard 0 0 0 0)),
  (54, ab_if 57 64 (fun x => !decide (x = 0))),
  (57, ab_nx 58 (ab_aload 0)),
  (58, ab_nx 59 (ab_iload 3)),
  (59, ab_nx 61 (ab_iload 4)),
  (61, ab_nx 64 (ab_callV 3 11 f_X11_hoards 0 0 0 0)),
  (64, ab_nx 65 (ab_iload 1)),
  (65, ab_nx 66 (ab_lit (.int 1))),
  (66, ab_icmp 69 87 (fun x y => !decide (x = y))),
  (69, ab_nx 70 (ab_aload 0)),
  (70, ab_nx 71 (ab_iload 3)),
  (71, ab_nx 73 (ab_iload 4)),
  (73, ab_nx 76 (ab_callV 3 11 f_X11_whyBare 0 0 0 0)),
  (76, ab_if 79 87 (fun x => !decide (x = 0))),
  (79, ab_nx 80 (ab_aload 0)),
  (80, ab_nx 81 (ab_iload 3)),
  (81, ab_nx 83 (ab_iload 4)),
  (83, ab_nx 84 (ab_un (fun x => -x))),
  (84, ab_nx 87 (ab_callV 3 11 f_X11_hoards 0 0 0 0)),
  (87, ab_nx 88 (ab_iload 1)),
  (88, ab_nx 89 (ab_lit (.int 2))),
  (89, ab_icmp 92 116 (fun x y => !decide (x = y))),
  (92, ab_nx 93 (ab_aload 0)),
  (93, ab_nx 94 (ab_iload 3)),
  (94, ab_nx 96 (ab_iload 4)),
  (96, ab_nx 99 (ab_callV 3 11 f_X11_whyHoard 0 0 0 0)),
  (99, ab_if 102 116 (fun x => !decide (x = 0))),
  (102, ab_nx 103 (ab_aload 0)),
  (103, ab_nx 106 (ab_getf 11 6)),
  (106, ab_nx 108 (ab_lit (.int 124))),
  (108, ab_nx 109 (ab_iload 3)),
  (109, ab_nx 110 (ab_bin (fun x y => x + y))),
  (110, ab_nx 111 ab_dup2),
  (111, ab_nx 112 (ab_ald 1)),
  (112, ab_nx 114 (ab_iload 4)),
  (114, ab_nx 115 (ab_bin (fun x y => x - y))),
  (115, ab_nx 116 (ab_ast 1)),
  (116, ab_nx 117 (ab_aload 0)),
  (117, ab_nx 119 (ab_lit (.int 90))),
  (119, ab_nx 122 (ab_callV 2 11 f_X11_draw 0 0 0 0)),
  (122, ab_if 125 157 (fun x => !decide (x = 0))),
  (125, ab_nx 126 (ab_aload 0)),
  (126, ab_nx 129 (ab_getf 11 6)),
  (129, ab_nx 130 (ab_lit (.int 1))),
  (130, ab_nx 131 (ab_ald 1)),
  (131, ab_if 134 157 (fun x => decide (x ≤ 0))),
  (134, ab_nx 135 (ab_aload 0)),
  (135, ab_nx 138 (ab_getf 11 6)),
  (138, ab_nx 141 (ab_lit (.int 180))),
  (141, ab_nx 142 ab_dup2),
  (142, ab_nx 143 (ab_ald 1)),
  (143, ab_nx 144 (ab_lit (.int 1))),
  (144, ab_nx 145 (ab_aload 0)),
  (145, ab_nx 146 (ab_aload 0)),
  (146, ab_nx 149 (ab_getf 11 6)),
  (149, ab_nx 150 (ab_lit (.int 1))),
  (150, ab_nx 151 (ab_ald 1)),
  (151, ab_nx 154 (ab_callV 2 11 f_X11_draw 0 0 0 0)),
  (154, ab_nx 155 (ab_bin (fun x y => x <<< (y &&& 31)))),
  (155, ab_nx 156 (ab_bin (fun x y => x ||| y))),
  (156, ab_nx 157 (ab_ast 1)),
  (157, ab_nx 158 (ab_aload 0)),
  (158, ab_nx 161 (ab_callV 1 11 f_X11_day 0 0 0 0)),
  (161, ab_vret 0 0)]
set_option maxRecDepth 100000 in
theorem dq40_20 : ([(0, .aload_n 0, 1), (1, .bipush 6, 2), (3, .invokevirtual 339, 3), (6, .istore_n 1, 1), (7, .iload_n 1, 1), (8, .iconst 3, 1), (9, .if_icmp .ge 107, 3), (12, .aload_n 0, 1), (13, .aload_n 0, 1), (14, .getfield 33, 3), (17, .iconst 0, 1), (18, .iaload, 1), (19, .invokevirtual 339, 3), (22, .istore_n 2, 1), (23, .iload_n 2, 1), (24, .aload_n 0, 1)] : List (Nat × Instr × Nat)).all (fun q => decide (decode cX11_drawsDay q.1 = .ok q.2)) = true := by decide +kernel
set_option maxRecDepth 100000 in
theorem dq40_21 : ([(25, .iconst 2, 1), (26, .invokevirtual 339, 3), (29, .invokestatic 245, 3), (32, .istore_n 3, 1), (33, .iconst 1, 1), (34, .aload_n 0, 1), (35, .bipush 20, 2), (37, .invokevirtual 339, 3), (40, .iadd, 1), (41, .istore 4, 2), (43, .iload_n 1, 1), (44, .ifCond .ne 20, 3), (47, .aload_n 0, 1), (48, .iload_n 3, 1), (49, .iload 4, 2), (51, .invokevirtual 301, 3)] : List (Nat × Instr × Nat)).all (fun q => decide (decode cX11_drawsDay q.1 = .ok q.2)) = true := by decide +kernel
set_option maxRecDepth 100000 in
theorem dq40_22 : ([(54, .ifCond .ne 10, 3), (57, .aload_n 0, 1), (58, .iload_n 3, 1), (59, .iload 4, 2), (61, .invokevirtual 307, 3), (64, .iload_n 1, 1), (65, .iconst 1, 1), (66, .if_icmp .ne 21, 3), (69, .aload_n 0, 1), (70, .iload_n 3, 1), (71, .iload 4, 2), (73, .invokevirtual 311, 3), (76, .ifCond .ne 11, 3), (79, .aload_n 0, 1), (80, .iload_n 3, 1), (81, .iload 4, 2)] : List (Nat × Instr × Nat)).all (fun q => decide (decode cX11_drawsDay q.1 = .ok q.2)) = true := by decide +kernel
set_option maxRecDepth 100000 in
theorem dq40_23 : ([(83, .ineg, 1), (84, .invokevirtual 307, 3), (87, .iload_n 1, 1), (88, .iconst 2, 1), (89, .if_icmp .ne 27, 3), (92, .aload_n 0, 1), (93, .iload_n 3, 1), (94, .iload 4, 2), (96, .invokevirtual 301, 3), (99, .ifCond .ne 17, 3), (102, .aload_n 0, 1), (103, .getfield 33, 3), (106, .bipush 124, 2), (108, .iload_n 3, 1), (109, .iadd, 1), (110, .dup2, 1)] : List (Nat × Instr × Nat)).all (fun q => decide (decode cX11_drawsDay q.1 = .ok q.2)) = true := by decide +kernel
set_option maxRecDepth 100000 in
theorem dq40_24 : ([(111, .iaload, 1), (112, .iload 4, 2), (114, .isub, 1), (115, .iastore, 1), (116, .aload_n 0, 1), (117, .bipush 90, 2), (119, .invokevirtual 339, 3), (122, .ifCond .ne 35, 3), (125, .aload_n 0, 1), (126, .getfield 33, 3), (129, .iconst 1, 1), (130, .iaload, 1), (131, .ifCond .le 26, 3), (134, .aload_n 0, 1), (135, .getfield 33, 3), (138, .sipush 180, 3)] : List (Nat × Instr × Nat)).all (fun q => decide (decode cX11_drawsDay q.1 = .ok q.2)) = true := by decide +kernel
set_option maxRecDepth 100000 in
theorem dq40_25 : ([(141, .dup2, 1), (142, .iaload, 1), (143, .iconst 1, 1), (144, .aload_n 0, 1), (145, .aload_n 0, 1), (146, .getfield 33, 3), (149, .iconst 1, 1), (150, .iaload, 1), (151, .invokevirtual 339, 3), (154, .ishl, 1), (155, .ior, 1), (156, .iastore, 1), (157, .aload_n 0, 1), (158, .invokevirtual 298, 3), (161, .return_, 1)] : List (Nat × Instr × Nat)).all (fun q => decide (decode cX11_drawsDay q.1 = .ok q.2)) = true := by decide +kernel
set_option maxRecDepth 100000 in
set_option maxHeartbeats 4000000 in
theorem M_X11_drawsDay {l : Launch} {b : ab_B} {D : va_G} {cA : Nat → ClassId} {f_X11_draw : List Value → ab_H → Option ab_O} (h_X11_draw : ab_M l b D ab_cl cA (ab_E0 b) yX11_draw (Cond.code yX11_draw cX11_draw 2 (some .int) :: ab_G) ({ frames := 1, cells := 0, slots := 0, locals := 100 } : Room) f_X11_draw) {f_X11_cell : List Value → ab_H → Option ab_O} (h_X11_cell : ab_M l b D ab_cl cA (ab_E0 b) yX11_cell (Cond.code yX11_cell cX11_cell 2 (some .int) :: ab_G) ({ frames := 1, cells := 0, slots := 0, locals := 100 } : Room) f_X11_cell) {f_X11_whyHoard : List Value → ab_H → Option ab_O} (h_X11_whyHoard : ab_M l b D ab_cl cA (ab_E0 b) yX11_whyHoard (Cond.code yX11_whyHoard cX11_whyHoard 3 (some .int) :: ab_G) ({ frames := 1, cells := 0, slots := 0, locals := 100 } : Room) f_X11_whyHoard) {f_X11_hoards : List Value → ab_H → Option ab_O} (h_X11_hoards : ab_M l b D ab_cl cA (ab_E0 b) yX11_hoards (Cond.code yX11_hoards cX11_hoards 3 none :: ab_G) ({ frames := 1, cells := 0, slots := 0, locals := 100 } : Room) f_X11_hoards) {f_X11_whyBare : List Value → ab_H → Option ab_O} (h_X11_whyBare : ab_M l b D ab_cl cA (ab_E0 b) yX11_whyBare (Cond.code yX11_whyBare cX11_whyBare 3 (some .int) :: ab_G) ({ frames := 1, cells := 0, slots := 0, locals := 100 } : Room) f_X11_whyBare) {f_X11_day : List Value → ab_H → Option ab_O} (h_X11_day : ab_M l b D ab_cl cA (ab_E0 b) yX11_day (Cond.code yX11_day cX11_day 5 none :: ab_G) ({ frames := 7, cells := 0, slots := 0, locals := 700 } : Room) f_X11_day) : ab_M l b D ab_cl cA (ab_E0 b) yX11_drawsDay (Cond.code yX11_drawsDay cX11_drawsDay 5 none :: ab_G) ({ frames := 8, cells := 0, slots := 0, locals := 800 } : Room) (ab_X (ab_T (L_X11_drawsDay f_X11_draw f_X11_cell f_X11_whyHoard f_X11_hoards f_X11_whyBare f_X11_day)) 5) := by
  refine ab_meth (ret := none) (L_X11_drawsDay f_X11_draw f_X11_cell f_X11_whyHoard f_X11_hoards f_X11_whyBare f_X11_day) (by decide) rfl fun p e R s m args below meth c o C => ?_
  unfold L_X11_drawsDay
  refine List.forall_mem_cons.mpr ⟨ok_aload_n C (show decode cX11_drawsDay 0 = .ok (.aload_n 0, 1) from dk_at dq40_20 (i := 0) rfl) rfl rfl, ?_⟩
  refine List.forall_mem_cons.mpr ⟨ok_bipush C (show decode cX11_drawsDay 1 = .ok (.bipush 6, 2) from dk_at dq40_20 (i := 1) rfl) (by decide) rfl, ?_⟩
  refine List.forall_mem_cons.mpr ⟨ok_callV C h_X11_draw ⟨rfl, rfl⟩ rfl kw_1639 kw_1636 kw_1638 kp_93 kw_11 rfl ds_X11_draw ⟨by decide, by decide⟩ (show decode cX11_drawsDay 3 = .ok (.invokevirtual 339, 3) from dk_at dq40_20 (i := 2) rfl) rfl, ?_⟩
  refine List.forall_mem_cons.mpr ⟨ok_istore_n C (show decode cX11_drawsDay 6 = .ok (.istore_n 1, 1) from dk_at dq40_20 (i := 3) rfl) rfl (by decide) rfl, ?_⟩
  refine List.forall_mem_cons.mpr ⟨ok_iload_n C (show decode cX11_drawsDay 7 = .ok (.iload_n 1, 1) from dk_at dq40_20 (i := 4) rfl) rfl rfl, ?_⟩
  refine List.forall_mem_cons.mpr ⟨ok_iconst C (show decode cX11_drawsDay 8 = .ok (.iconst 3, 1) from dk_at dq40_20 (i := 5) rfl) (by decide) rfl, ?_⟩
  refine List.forall_mem_cons.mpr ⟨ok_icmpge C (show decode cX11_drawsDay 9 = .ok (.if_icmp .ge 107, 3) from dk_at dq40_20 (i := 6) rfl) (tg := 116) (by decide) rfl rfl, ?_⟩
  refine List.forall_mem_cons.mpr ⟨ok_aload_n C (show decode cX11_drawsDay 12 = .ok (.aload_n 0, 1) from dk_at dq40_20 (i := 7) rfl) rfl rfl, ?_⟩
  refine List.forall_mem_cons.mpr ⟨ok_aload_n C (show decode cX11_drawsDay 13 = .ok (.aload_n 0, 1) from dk_at dq40_20 (i := 8) rfl) rfl rfl, ?_⟩
  refine List.forall_mem_cons.mpr ⟨ok_getf C (wi_X11) rfl (by decide) kw_1186 (show decode cX11_drawsDay 14 = .ok (.getfield 33, 3) from dk_at dq40_20 (i := 9) rfl) rfl, ?_⟩
  refine List.forall_mem_cons.mpr ⟨ok_iconst C (show decode cX11_drawsDay 17 = .ok (.iconst 0, 1) from dk_at dq40_20 (i := 10) rfl) (by decide) rfl, ?_⟩
  refine List.forall_mem_cons.mpr ⟨ok_iaload C (show decode cX11_drawsDay 18 = .ok (.iaload, 1) from dk_at dq40_20 (i := 11) rfl) rfl, ?_⟩
  refine List.forall_mem_cons.mpr ⟨ok_callV C h_X11_draw ⟨rfl, rfl⟩ rfl kw_1639 kw_1636 kw_1638 kp_93 kw_11 rfl ds_X11_draw ⟨by decide, by decide⟩ (show decode cX11_drawsDay 19 = .ok (.invokevirtual 339, 3) from dk_at dq40_20 (i := 12) rfl) rfl, ?_⟩
  refine List.forall_mem_cons.mpr ⟨ok_istore_n C (show decode cX11_drawsDay 22 = .ok (.istore_n 2, 1) from dk_at dq40_20 (i := 13) rfl) rfl (by decide) rfl, ?_⟩
  refine List.forall_mem_cons.mpr ⟨ok_iload_n C (show decode cX11_drawsDay 23 = .ok (.iload_n 2, 1) from dk_at dq40_20 (i := 14) rfl) rfl rfl, ?_⟩
  refine List.forall_mem_cons.mpr ⟨ok_aload_n C (show decode cX11_drawsDay 24 = .ok (.aload_n 0, 1) from dk_at dq40_20 (i := 15) rfl) rfl rfl, ?_⟩
  refine List.forall_mem_cons.mpr ⟨ok_iconst C (show decode cX11_drawsDay 25 = .ok (.iconst 2, 1) from dk_at dq40_21 (i := 0) rfl) (by decide) rfl, ?_⟩
  refine List.forall_mem_cons.mpr ⟨ok_callV C h_X11_draw ⟨rfl, rfl⟩ rfl kw_1639 kw_1636 kw_1638 kp_93 kw_11 rfl ds_X11_draw ⟨by decide, by decide⟩ (show decode cX11_drawsDay 26 = .ok (.invokevirtual 339, 3) from dk_at dq40_21 (i := 1) rfl) rfl, ?_⟩
  refine List.forall_mem_cons.mpr ⟨ok_callS C h_X11_cell ⟨rfl, rfl⟩ kw_1413 kw_1411 kw_1412 kw_11 ds_X11_cell ⟨by decide, by decide⟩ (show decode cX11_drawsDay 29 = .ok (.invokestatic 245, 3) from dk_at dq40_21 (i := 2) rfl) rfl, ?_⟩
  refine List.forall_mem_cons.mpr ⟨ok_istore_n C (show decode cX11_drawsDay 32 = .ok (.istore_n 3, 1) from dk_at dq40_21 (i := 3) rfl) rfl (by decide) rfl, ?_⟩
  refine List.forall_mem_cons.mpr ⟨ok_iconst C (show decode cX11_drawsDay 33 = .ok (.iconst 1, 1) from dk_at dq40_21 (i := 4) rfl) (by decide) rfl, ?_⟩
  refine List.forall_mem_cons.mpr ⟨ok_aload_n C (show decode cX11_drawsDay 34 = .ok (.aload_n 0, 1) from dk_at dq40_21 (i := 5) rfl) rfl rfl, ?_⟩
  refine List.forall_mem_cons.mpr ⟨ok_bipush C (show decode cX11_drawsDay 35 = .ok (.bipush 20, 2) from dk_at dq40_21 (i := 6) rfl) (by decide) rfl, ?_⟩
  refine List.forall_mem_cons.mpr ⟨ok_callV C h_X11_draw ⟨rfl, rfl⟩ rfl kw_1639 kw_1636 kw_1638 kp_93 kw_11 rfl ds_X11_draw ⟨by decide, by decide⟩ (show decode cX11_drawsDay 37 = .ok (.invokevirtual 339, 3) from dk_at dq40_21 (i := 7) rfl) rfl, ?_⟩
  refine List.forall_mem_cons.mpr ⟨ok_iadd C (show decode cX11_drawsDay 40 = .ok (.iadd, 1) from dk_at dq40_21 (i := 8) rfl) rfl, ?_⟩
  refine List.forall_mem_cons.mpr ⟨ok_istore C (show decode cX11_drawsDay 41 = .ok (.istore 4, 2) from dk_at dq40_21 (i := 9) rfl) (by decide) rfl, ?_⟩
  refine List.forall_mem_cons.mpr ⟨ok_iload_n C (show decode cX11_drawsDay 43 = .ok (.iload_n 1, 1) from dk_at dq40_21 (i := 10) rfl) rfl rfl, ?_⟩
  refine List.forall_mem_cons.mpr ⟨ok_ifne C (show decode cX11_drawsDay 44 = .ok (.ifCond .ne 20, 3) from dk_at dq40_21 (i := 11) rfl) (tg := 64) (by decide) rfl rfl, ?_⟩
  refine List.forall_mem_cons.mpr ⟨ok_aload_n C (show decode cX11_drawsDay 47 = .ok (.aload_n 0, 1) from dk_at dq40_21 (i := 12) rfl) rfl rfl, ?_⟩
  refine List.forall_mem_cons.mpr ⟨ok_iload_n C (show decode cX11_drawsDay 48 = .ok (.iload_n 3, 1) from dk_at dq40_21 (i := 13) rfl) rfl rfl, ?_⟩
  refine List.forall_mem_cons.mpr ⟨ok_iload C (show decode cX11_drawsDay 49 = .ok (.iload 4, 2) from dk_at dq40_21 (i := 14) rfl) rfl, ?_⟩
  refine List.forall_mem_cons.mpr ⟨ok_callV C h_X11_whyHoard ⟨rfl, rfl⟩ rfl kw_1477 kw_1474 kw_1476 kp_77 kw_11 rfl ds_X11_whyHoard ⟨by decide, by decide⟩ (show decode cX11_drawsDay 51 = .ok (.invokevirtual 301, 3) from dk_at dq40_21 (i := 15) rfl) rfl, ?_⟩
  refine List.forall_mem_cons.mpr ⟨ok_ifne C (show decode cX11_drawsDay 54 = .ok (.ifCond .ne 10, 3) from dk_at dq40_22 (i := 0) rfl) (tg := 64) (by decide) rfl rfl, ?_⟩
  refine List.forall_mem_cons.mpr ⟨ok_aload_n C (show decode cX11_drawsDay 57 = .ok (.aload_n 0, 1) from dk_at dq40_22 (i := 1) rfl) rfl rfl, ?_⟩
  refine List.forall_mem_cons.mpr ⟨ok_iload_n C (show decode cX11_drawsDay 58 = .ok (.iload_n 3, 1) from dk_at dq40_22 (i := 2) rfl) rfl rfl, ?_⟩
  refine List.forall_mem_cons.mpr ⟨ok_iload C (show decode cX11_drawsDay 59 = .ok (.iload 4, 2) from dk_at dq40_22 (i := 3) rfl) rfl, ?_⟩
  refine List.forall_mem_cons.mpr ⟨ok_callV C h_X11_hoards ⟨rfl, rfl⟩ rfl kw_1485 kw_1482 kw_1484 kp_79 kw_11 rfl ds_X11_hoards ⟨by decide, by decide⟩ (show decode cX11_drawsDay 61 = .ok (.invokevirtual 307, 3) from dk_at dq40_22 (i := 4) rfl) rfl, ?_⟩
  refine List.forall_mem_cons.mpr ⟨ok_iload_n C (show decode cX11_drawsDay 64 = .ok (.iload_n 1, 1) from dk_at dq40_22 (i := 5) rfl) rfl rfl, ?_⟩
  refine List.forall_mem_cons.mpr ⟨ok_iconst C (show decode cX11_drawsDay 65 = .ok (.iconst 1, 1) from dk_at dq40_22 (i := 6) rfl) (by decide) rfl, ?_⟩
  refine List.forall_mem_cons.mpr ⟨ok_icmpne C (show decode cX11_drawsDay 66 = .ok (.if_icmp .ne 21, 3) from dk_at dq40_22 (i := 7) rfl) (tg := 87) (by decide) rfl rfl, ?_⟩
  refine List.forall_mem_cons.mpr ⟨ok_aload_n C (show decode cX11_drawsDay 69 = .ok (.aload_n 0, 1) from dk_at dq40_22 (i := 8) rfl) rfl rfl, ?_⟩
  refine List.forall_mem_cons.mpr ⟨ok_iload_n C (show decode cX11_drawsDay 70 = .ok (.iload_n 3, 1) from dk_at dq40_22 (i := 9) rfl) rfl rfl, ?_⟩
  refine List.forall_mem_cons.mpr ⟨ok_iload C (show decode cX11_drawsDay 71 = .ok (.iload 4, 2) from dk_at dq40_22 (i := 10) rfl) rfl, ?_⟩
  refine List.forall_mem_cons.mpr ⟨ok_callV C h_X11_whyBare ⟨rfl, rfl⟩ rfl kw_1493 kw_1490 kw_1492 kp_80 kw_11 rfl ds_X11_whyBare ⟨by decide, by decide⟩ (show decode cX11_drawsDay 73 = .ok (.invokevirtual 311, 3) from dk_at dq40_22 (i := 11) rfl) rfl, ?_⟩
  refine List.forall_mem_cons.mpr ⟨ok_ifne C (show decode cX11_drawsDay 76 = .ok (.ifCond .ne 11, 3) from dk_at dq40_22 (i := 12) rfl) (tg := 87) (by decide) rfl rfl, ?_⟩
  refine List.forall_mem_cons.mpr ⟨ok_aload_n C (show decode cX11_drawsDay 79 = .ok (.aload_n 0, 1) from dk_at dq40_22 (i := 13) rfl) rfl rfl, ?_⟩
  refine List.forall_mem_cons.mpr ⟨ok_iload_n C (show decode cX11_drawsDay 80 = .ok (.iload_n 3, 1) from dk_at dq40_22 (i := 14) rfl) rfl rfl, ?_⟩
  refine List.forall_mem_cons.mpr ⟨ok_iload C (show decode cX11_drawsDay 81 = .ok (.iload 4, 2) from dk_at dq40_22 (i := 15) rfl) rfl, ?_⟩
  refine List.forall_mem_cons.mpr ⟨ok_ineg C (show decode cX11_drawsDay 83 = .ok (.ineg, 1) from dk_at dq40_23 (i := 0) rfl) rfl, ?_⟩
  refine List.forall_mem_cons.mpr ⟨ok_callV C h_X11_hoards ⟨rfl, rfl⟩ rfl kw_1485 kw_1482 kw_1484 kp_79 kw_11 rfl ds_X11_hoards ⟨by decide, by decide⟩ (show decode cX11_drawsDay 84 = .ok (.invokevirtual 307, 3) from dk_at dq40_23 (i := 1) rfl) rfl, ?_⟩
  refine List.forall_mem_cons.mpr ⟨ok_iload_n C (show decode cX11_drawsDay 87 = .ok (.iload_n 1, 1) from dk_at dq40_23 (i := 2) rfl) rfl rfl, ?_⟩
  refine List.forall_mem_cons.mpr ⟨ok_iconst C (show decode cX11_drawsDay 88 = .ok (.iconst 2, 1) from dk_at dq40_23 (i := 3) rfl) (by decide) rfl, ?_⟩
  refine List.forall_mem_cons.mpr ⟨ok_icmpne C (show decode cX11_drawsDay 89 = .ok (.if_icmp .ne 27, 3) from dk_at dq40_23 (i := 4) rfl) (tg := 116) (by decide) rfl rfl, ?_⟩
  refine List.forall_mem_cons.mpr ⟨ok_aload_n C (show decode cX11_drawsDay 92 = .ok (.aload_n 0, 1) from dk_at dq40_23 (i := 5) rfl) rfl rfl, ?_⟩
  refine List.forall_mem_cons.mpr ⟨ok_iload_n C (show decode cX11_drawsDay 93 = .ok (.iload_n 3, 1) from dk_at dq40_23 (i := 6) rfl) rfl rfl, ?_⟩
  refine List.forall_mem_cons.mpr ⟨ok_iload C (show decode cX11_drawsDay 94 = .ok (.iload 4, 2) from dk_at dq40_23 (i := 7) rfl) rfl, ?_⟩
  refine List.forall_mem_cons.mpr ⟨ok_callV C h_X11_whyHoard ⟨rfl, rfl⟩ rfl kw_1477 kw_1474 kw_1476 kp_77 kw_11 rfl ds_X11_whyHoard ⟨by decide, by decide⟩ (show decode cX11_drawsDay 96 = .ok (.invokevirtual 301, 3) from dk_at dq40_23 (i := 8) rfl) rfl, ?_⟩
  refine List.forall_mem_cons.mpr ⟨ok_ifne C (show decode cX11_drawsDay 99 = .ok (.ifCond .ne 17, 3) from dk_at dq40_23 (i := 9) rfl) (tg := 116) (by decide) rfl rfl, ?_⟩
  refine List.forall_mem_cons.mpr ⟨ok_aload_n C (show decode cX11_drawsDay 102 = .ok (.aload_n 0, 1) from dk_at dq40_23 (i := 10) rfl) rfl rfl, ?_⟩
  refine List.forall_mem_cons.mpr ⟨ok_getf C (wi_X11) rfl (by decide) kw_1186 (show decode cX11_drawsDay 103 = .ok (.getfield 33, 3) from dk_at dq40_23 (i := 11) rfl) rfl, ?_⟩
  refine List.forall_mem_cons.mpr ⟨ok_bipush C (show decode cX11_drawsDay 106 = .ok (.bipush 124, 2) from dk_at dq40_23 (i := 12) rfl) (by decide) rfl, ?_⟩
  refine List.forall_mem_cons.mpr ⟨ok_iload_n C (show decode cX11_drawsDay 108 = .ok (.iload_n 3, 1) from dk_at dq40_23 (i := 13) rfl) rfl rfl, ?_⟩
  refine List.forall_mem_cons.mpr ⟨ok_iadd C (show decode cX11_drawsDay 109 = .ok (.iadd, 1) from dk_at dq40_23 (i := 14) rfl) rfl, ?_⟩
  refine List.forall_mem_cons.mpr ⟨ok_dup2 C (show decode cX11_drawsDay 110 = .ok (.dup2, 1) from dk_at dq40_23 (i := 15) rfl) rfl, ?_⟩
  refine List.forall_mem_cons.mpr ⟨ok_iaload C (show decode cX11_drawsDay 111 = .ok (.iaload, 1) from dk_at dq40_24 (i := 0) rfl) rfl, ?_⟩
  refine List.forall_mem_cons.mpr ⟨ok_iload C (show decode cX11_drawsDay 112 = .ok (.iload 4, 2) from dk_at dq40_24 (i := 1) rfl) rfl, ?_⟩
  refine List.forall_mem_cons.mpr ⟨ok_isub C (show decode cX11_drawsDay 114 = .ok (.isub, 1) from dk_at dq40_24 (i := 2) rfl) rfl, ?_⟩
  refine List.forall_mem_cons.mpr ⟨ok_iastore C (show decode cX11_drawsDay 115 = .ok (.iastore, 1) from dk_at dq40_24 (i := 3) rfl) rfl, ?_⟩
  refine List.forall_mem_cons.mpr ⟨ok_aload_n C (show decode cX11_drawsDay 116 = .ok (.aload_n 0, 1) from dk_at dq40_24 (i := 4) rfl) rfl rfl, ?_⟩
  refine List.forall_mem_cons.mpr ⟨ok_bipush C (show decode cX11_drawsDay 117 = .ok (.bipush 90, 2) from dk_at dq40_24 (i := 5) rfl) (by decide) rfl, ?_⟩
  refine List.forall_mem_cons.mpr ⟨ok_callV C h_X11_draw ⟨rfl, rfl⟩ rfl kw_1639 kw_1636 kw_1638 kp_93 kw_11 rfl ds_X11_draw ⟨by decide, by decide⟩ (show decode cX11_drawsDay 119 = .ok (.invokevirtual 339, 3) from dk_at dq40_24 (i := 6) rfl) rfl, ?_⟩
  refine List.forall_mem_cons.mpr ⟨ok_ifne C (show decode cX11_drawsDay 122 = .ok (.ifCond .ne 35, 3) from dk_at dq40_24 (i := 7) rfl) (tg := 157) (by decide) rfl rfl, ?_⟩
  refine List.forall_mem_cons.mpr ⟨ok_aload_n C (show decode cX11_drawsDay 125 = .ok (.aload_n 0, 1) from dk_at dq40_24 (i := 8) rfl) rfl rfl, ?_⟩
  refine List.forall_mem_cons.mpr ⟨ok_getf C (wi_X11) rfl (by decide) kw_1186 (show decode cX11_drawsDay 126 = .ok (.getfield 33, 3) from dk_at dq40_24 (i := 9) rfl) rfl, ?_⟩
  refine List.forall_mem_cons.mpr ⟨ok_iconst C (show decode cX11_drawsDay 129 = .ok (.iconst 1, 1) from dk_at dq40_24 (i := 10) rfl) (by decide) rfl, ?_⟩
  refine List.forall_mem_cons.mpr ⟨ok_iaload C (show decode cX11_drawsDay 130 = .ok (.iaload, 1) from dk_at dq40_24 (i := 11) rfl) rfl, ?_⟩
  refine List.forall_mem_cons.mpr ⟨ok_ifle C (show decode cX11_drawsDay 131 = .ok (.ifCond .le 26, 3) from dk_at dq40_24 (i := 12) rfl) (tg := 157) (by decide) rfl rfl, ?_⟩
  refine List.forall_mem_cons.mpr ⟨ok_aload_n C (show decode cX11_drawsDay 134 = .ok (.aload_n 0, 1) from dk_at dq40_24 (i := 13) rfl) rfl rfl, ?_⟩
  refine List.forall_mem_cons.mpr ⟨ok_getf C (wi_X11) rfl (by decide) kw_1186 (show decode cX11_drawsDay 135 = .ok (.getfield 33, 3) from dk_at dq40_24 (i := 14) rfl) rfl, ?_⟩
  refine List.forall_mem_cons.mpr ⟨ok_sipush C (show decode cX11_drawsDay 138 = .ok (.sipush 180, 3) from dk_at dq40_24 (i := 15) rfl) (by decide) rfl, ?_⟩
  refine List.forall_mem_cons.mpr ⟨ok_dup2 C (show decode cX11_drawsDay 141 = .ok (.dup2, 1) from dk_at dq40_25 (i := 0) rfl) rfl, ?_⟩
  refine List.forall_mem_cons.mpr ⟨ok_iaload C (show decode cX11_drawsDay 142 = .ok (.iaload, 1) from dk_at dq40_25 (i := 1) rfl) rfl, ?_⟩
  refine List.forall_mem_cons.mpr ⟨ok_iconst C (show decode cX11_drawsDay 143 = .ok (.iconst 1, 1) from dk_at dq40_25 (i := 2) rfl) (by decide) rfl, ?_⟩
  refine List.forall_mem_cons.mpr ⟨ok_aload_n C (show decode cX11_drawsDay 144 = .ok (.aload_n 0, 1) from dk_at dq40_25 (i := 3) rfl) rfl rfl, ?_⟩
  refine List.forall_mem_cons.mpr ⟨ok_aload_n C (show decode cX11_drawsDay 145 = .ok (.aload_n 0, 1) from dk_at dq40_25 (i := 4) rfl) rfl rfl, ?_⟩
  refine List.forall_mem_cons.mpr ⟨ok_getf C (wi_X11) rfl (by decide) kw_1186 (show decode cX11_drawsDay 146 = .ok (.getfield 33, 3) from dk_at dq40_25 (i := 5) rfl) rfl, ?_⟩
  refine List.forall_mem_cons.mpr ⟨ok_iconst C (show decode cX11_drawsDay 149 = .ok (.iconst 1, 1) from dk_at dq40_25 (i := 6) rfl) (by decide) rfl, ?_⟩
  refine List.forall_mem_cons.mpr ⟨ok_iaload C (show decode cX11_drawsDay 150 = .ok (.iaload, 1) from dk_at dq40_25 (i := 7) rfl) rfl, ?_⟩
  refine List.forall_mem_cons.mpr ⟨ok_callV C h_X11_draw ⟨rfl, rfl⟩ rfl kw_1639 kw_1636 kw_1638 kp_93 kw_11 rfl ds_X11_draw ⟨by decide, by decide⟩ (show decode cX11_drawsDay 151 = .ok (.invokevirtual 339, 3) from dk_at dq40_25 (i := 8) rfl) rfl, ?_⟩
  refine List.forall_mem_cons.mpr ⟨ok_ishl C (show decode cX11_drawsDay 154 = .ok (.ishl, 1) from dk_at dq40_25 (i := 9) rfl) rfl, ?_⟩
  refine List.forall_mem_cons.mpr ⟨ok_ior C (show decode cX11_drawsDay 155 = .ok (.ior, 1) from dk_at dq40_25 (i := 10) rfl) rfl, ?_⟩
  refine List.forall_mem_cons.mpr ⟨ok_iastore C (show decode cX11_drawsDay 156 = .ok (.iastore, 1) from dk_at dq40_25 (i := 11) rfl) rfl, ?_⟩
  refine List.forall_mem_cons.mpr ⟨ok_aload_n C (show decode cX11_drawsDay 157 = .ok (.aload_n 0, 1) from dk_at dq40_25 (i := 12) rfl) rfl rfl, ?_⟩
  refine List.forall_mem_cons.mpr ⟨ok_callV C h_X11_day ⟨rfl, rfl⟩ rfl kw_1513 kw_1510 kw_1512 kp_82 kw_11 rfl ds_X11_day ⟨by decide, by decide⟩ (show decode cX11_drawsDay 158 = .ok (.invokevirtual 298, 3) from dk_at dq40_25 (i := 13) rfl) rfl, ?_⟩
  refine List.forall_mem_cons.mpr ⟨ok_vret C rfl (show decode cX11_drawsDay 161 = .ok (.return_, 1) from dk_at dq40_25 (i := 14) rfl), ?_⟩
  exact fun _ h => absurd h List.not_mem_nil
def L_X11_draws (f_X11_drawsDay : List Value → ab_H → Option ab_O) : List (Nat × ab_A) := [
  (0, ab_nx 1 (ab_aload 0)),
  (1, ab_nx 2 (ab_iload 2)),
  (2, ab_nx 5 (ab_putf 11 29 0)),
  (5, ab_nx 6 (ab_lit (.int 0))),
  (6, ab_nx 7 (ab_istore 3)),
  (7, ab_nx 8 (ab_iload 3)),
  (8, ab_nx 9 (ab_iload 1)),
  (9, ab_icmp 12 35 (fun x y => decide (y ≤ x))),
  (12, ab_nx 13 (ab_aload 0)),
  (13, ab_nx 16 (ab_getf 11 6)),
  (16, ab_nx 18 (ab_lit (.int 120))),
  (18, ab_nx 19 (ab_ald 1)),
  (19, ab_nx 22 (ab_lit (.int 400))),
  (22, ab_icmp 25 35 (fun x y => decide (y ≤ x))),
  (25, ab_nx 26 (ab_aload 0)),
  (26, ab_nx 29 (ab_callV 1 11 f_X11_drawsDay 0 0 0 0)),
  (29, ab_nx 32 (ab_iinc 3 1)),
  (32, ab_goto 7),
  (35, ab_nx 36 (ab_iload 3)),
  (36, ab_ret 0 0)]
set_option maxRecDepth 100000 in
theorem dq40_26 : ([(0, .aload_n 0, 1), (1, .iload_n 2, 1), (2, .putfield 335, 3), (5, .iconst 0, 1), (6, .istore_n 3, 1), (7, .iload_n 3, 1), (8, .iload_n 1, 1), (9, .if_icmp .ge 26, 3), (12, .aload_n 0, 1), (13, .getfield 33, 3), (16, .bipush 120, 2), (18, .iaload, 1), (19, .sipush 400, 3), (22, .if_icmp .ge 13, 3), (25, .aload_n 0, 1), (26, .invokevirtual 342, 3)] : List (Nat × Instr × Nat)).all (fun q => decide (decode cX11_draws q.1 = .ok q.2)) = true := by decide +kernel
set_option maxRecDepth 100000 in
theorem dq40_27 : ([(29, .iinc 3 1, 3), (32, .goto (-25), 3), (35, .iload_n 3, 1), (36, .ireturn, 1)] : List (Nat × Instr × Nat)).all (fun q => decide (decode cX11_draws q.1 = .ok q.2)) = true := by decide +kernel
set_option maxRecDepth 100000 in
set_option maxHeartbeats 4000000 in
theorem M_X11_draws {l : Launch} {b : ab_B} {D : va_G} {cA : Nat → ClassId} {f_X11_drawsDay : List Value → ab_H → Option ab_O} (h_X11_drawsDay : ab_M l b D ab_cl cA (ab_E0 b) yX11_drawsDay (Cond.code yX11_drawsDay cX11_drawsDay 5 none :: ab_G) ({ frames := 8, cells := 0, slots := 0, locals := 800 } : Room) f_X11_drawsDay) : ab_M l b D ab_cl cA (ab_E0 b) yX11_draws (Cond.code yX11_draws cX11_draws 4 (some .int) :: ab_G) ({ frames := 9, cells := 0, slots := 0, locals := 900 } : Room) (ab_X (ab_T (L_X11_draws f_X11_drawsDay)) 4) := by
  refine ab_meth (ret := (some .int)) (L_X11_draws f_X11_drawsDay) (by decide) rfl fun p e R s m args below meth c o C => ?_
  unfold L_X11_draws
  refine List.forall_mem_cons.mpr ⟨ok_aload_n C (show decode cX11_draws 0 = .ok (.aload_n 0, 1) from dk_at dq40_26 (i := 0) rfl) rfl rfl, ?_⟩
  refine List.forall_mem_cons.mpr ⟨ok_iload_n C (show decode cX11_draws 1 = .ok (.iload_n 2, 1) from dk_at dq40_26 (i := 1) rfl) rfl rfl, ?_⟩
  refine List.forall_mem_cons.mpr ⟨ok_putf C (wi_X11) tyX11 tyX11_ok nmX11 rfl (by decide) kw_1209 (Or.inl rfl) (Or.inl ⟨rfl, rfl⟩) (show decode cX11_draws 2 = .ok (.putfield 335, 3) from dk_at dq40_26 (i := 2) rfl) rfl, ?_⟩
  refine List.forall_mem_cons.mpr ⟨ok_iconst C (show decode cX11_draws 5 = .ok (.iconst 0, 1) from dk_at dq40_26 (i := 3) rfl) (by decide) rfl, ?_⟩
  refine List.forall_mem_cons.mpr ⟨ok_istore_n C (show decode cX11_draws 6 = .ok (.istore_n 3, 1) from dk_at dq40_26 (i := 4) rfl) rfl (by decide) rfl, ?_⟩
  refine List.forall_mem_cons.mpr ⟨ok_iload_n C (show decode cX11_draws 7 = .ok (.iload_n 3, 1) from dk_at dq40_26 (i := 5) rfl) rfl rfl, ?_⟩
  refine List.forall_mem_cons.mpr ⟨ok_iload_n C (show decode cX11_draws 8 = .ok (.iload_n 1, 1) from dk_at dq40_26 (i := 6) rfl) rfl rfl, ?_⟩
  refine List.forall_mem_cons.mpr ⟨ok_icmpge C (show decode cX11_draws 9 = .ok (.if_icmp .ge 26, 3) from dk_at dq40_26 (i := 7) rfl) (tg := 35) (by decide) rfl rfl, ?_⟩
  refine List.forall_mem_cons.mpr ⟨ok_aload_n C (show decode cX11_draws 12 = .ok (.aload_n 0, 1) from dk_at dq40_26 (i := 8) rfl) rfl rfl, ?_⟩
  refine List.forall_mem_cons.mpr ⟨ok_getf C (wi_X11) rfl (by decide) kw_1186 (show decode cX11_draws 13 = .ok (.getfield 33, 3) from dk_at dq40_26 (i := 9) rfl) rfl, ?_⟩
  refine List.forall_mem_cons.mpr ⟨ok_bipush C (show decode cX11_draws 16 = .ok (.bipush 120, 2) from dk_at dq40_26 (i := 10) rfl) (by decide) rfl, ?_⟩
  refine List.forall_mem_cons.mpr ⟨ok_iaload C (show decode cX11_draws 18 = .ok (.iaload, 1) from dk_at dq40_26 (i := 11) rfl) rfl, ?_⟩
  refine List.forall_mem_cons.mpr ⟨ok_sipush C (show decode cX11_draws 19 = .ok (.sipush 400, 3) from dk_at dq40_26 (i := 12) rfl) (by decide) rfl, ?_⟩
  refine List.forall_mem_cons.mpr ⟨ok_icmpge C (show decode cX11_draws 22 = .ok (.if_icmp .ge 13, 3) from dk_at dq40_26 (i := 13) rfl) (tg := 35) (by decide) rfl rfl, ?_⟩
  refine List.forall_mem_cons.mpr ⟨ok_aload_n C (show decode cX11_draws 25 = .ok (.aload_n 0, 1) from dk_at dq40_26 (i := 14) rfl) rfl rfl, ?_⟩
  refine List.forall_mem_cons.mpr ⟨ok_callV C h_X11_drawsDay ⟨rfl, rfl⟩ rfl kw_1635 kw_1632 kw_1634 kp_92 kw_11 rfl ds_X11_drawsDay ⟨by decide, by decide⟩ (show decode cX11_draws 26 = .ok (.invokevirtual 342, 3) from dk_at dq40_26 (i := 15) rfl) rfl, ?_⟩
  refine List.forall_mem_cons.mpr ⟨ok_iinc C (show decode cX11_draws 29 = .ok (.iinc 3 1, 3) from dk_at dq40_27 (i := 0) rfl) (by decide) (by decide) rfl, ?_⟩
  refine List.forall_mem_cons.mpr ⟨ok_goto C (show decode cX11_draws 32 = .ok (.goto (-25), 3) from dk_at dq40_27 (i := 1) rfl) (tg := 7) (by decide) rfl, ?_⟩
  refine List.forall_mem_cons.mpr ⟨ok_iload_n C (show decode cX11_draws 35 = .ok (.iload_n 3, 1) from dk_at dq40_27 (i := 2) rfl) rfl rfl, ?_⟩
  refine List.forall_mem_cons.mpr ⟨ok_ret C rfl (show decode cX11_draws 36 = .ok (.ireturn, 1) from dk_at dq40_27 (i := 3) rfl), ?_⟩
  exact fun _ h => absurd h List.not_mem_nil
def L_X11_drawn (f_X11_isIn : List Value → ab_H → Option ab_O) (f_X11_keep : List Value → ab_H → Option ab_O) (f_X11_draws : List Value → ab_H → Option ab_O) : List (Nat × ab_A) := [
  (0, ab_nx 1 (ab_aload 0)),
  (1, ab_nx 2 (ab_lit (.int 0))),
  (2, ab_nx 5 (ab_putf 11 0 0)),
  (5, ab_nx 6 (ab_iload 1)),
  (6, ab_nx 7 (ab_lit (.int 1))),
  (7, ab_nx 9 (ab_lit (.int 60))),
  (9, ab_nx 12 (ab_call 3 f_X11_isIn 0 0 0 0)),
  (12, ab_if 15 24 (fun x => decide (x = 0))),
  (15, ab_nx 16 (ab_aload 0)),
  (16, ab_nx 19 (ab_getf 11 6)),
  (19, ab_nx 20 (ab_lit (.int 0))),
  (20, ab_nx 21 (ab_ald 1)),
  (21, ab_if 24 26 (fun x => !decide (x = 0))),
  (24, ab_nx 25 (ab_lit (.int (-1)))),
  (25, ab_ret 0 0),
  (26, ab_nx 27 (ab_aload 0)),
  (27, ab_nx 30 (ab_getf 11 6)),
  (30, ab_nx 32 (ab_lit (.int 120))),
  (32, ab_nx 33 (ab_ald 1)),
  (33, ab_nx 36 (ab_lit (.int 400))),
  (36, ab_icmp 39 43 (fun x y => decide (y ≤ x))),
  (39, ab_nx 40 (ab_aload 0)),
  (40, ab_nx 43 (ab_callV 1 11 f_X11_keep 0 0 0 0)),
  (43, ab_nx 44 (ab_aload 0)),
  (44, ab_nx 45 (ab_iload 1)),
  (45, ab_nx 46 (ab_iload 2)),
  (46, ab_nx 49 (ab_callV 3 11 f_X11_draws 0 0 0 0)),
  (49, ab_ret 0 0)]
set_option maxRecDepth 100000 in
theorem dq40_28 : ([(0, .aload_n 0, 1), (1, .iconst 0, 1), (2, .putfield 1, 3), (5, .iload_n 1, 1), (6, .iconst 1, 1), (7, .bipush 60, 2), (9, .invokestatic 179, 3), (12, .ifCond .eq 12, 3), (15, .aload_n 0, 1), (16, .getfield 33, 3), (19, .iconst 0, 1), (20, .iaload, 1), (21, .ifCond .ne 5, 3), (24, .iconst (-1), 1), (25, .ireturn, 1), (26, .aload_n 0, 1)] : List (Nat × Instr × Nat)).all (fun q => decide (decode cX11_drawn q.1 = .ok q.2)) = true := by decide +kernel
set_option maxRecDepth 100000 in
theorem dq40_29 : ([(27, .getfield 33, 3), (30, .bipush 120, 2), (32, .iaload, 1), (33, .sipush 400, 3), (36, .if_icmp .ge 7, 3), (39, .aload_n 0, 1), (40, .invokevirtual 304, 3), (43, .aload_n 0, 1), (44, .iload_n 1, 1), (45, .iload_n 2, 1), (46, .invokevirtual 345, 3), (49, .ireturn, 1)] : List (Nat × Instr × Nat)).all (fun q => decide (decode cX11_drawn q.1 = .ok q.2)) = true := by decide +kernel
set_option maxRecDepth 100000 in
set_option maxHeartbeats 4000000 in
theorem M_X11_drawn {l : Launch} {b : ab_B} {D : va_G} {cA : Nat → ClassId} {f_X11_isIn : List Value → ab_H → Option ab_O} (h_X11_isIn : ab_M l b D ab_cl cA (ab_E0 b) yX11_isIn (Cond.code yX11_isIn cX11_isIn 3 (some .boolean) :: ab_G) ({ frames := 1, cells := 0, slots := 0, locals := 100 } : Room) f_X11_isIn) {f_X11_keep : List Value → ab_H → Option ab_O} (h_X11_keep : ab_M l b D ab_cl cA (ab_E0 b) yX11_keep (Cond.code yX11_keep cX11_keep 2 none :: ab_G) ({ frames := 1, cells := 0, slots := 0, locals := 100 } : Room) f_X11_keep) {f_X11_draws : List Value → ab_H → Option ab_O} (h_X11_draws : ab_M l b D ab_cl cA (ab_E0 b) yX11_draws (Cond.code yX11_draws cX11_draws 4 (some .int) :: ab_G) ({ frames := 9, cells := 0, slots := 0, locals := 900 } : Room) f_X11_draws) : ab_M l b D ab_cl cA (ab_E0 b) yX11_drawn (Cond.code yX11_drawn cX11_drawn 3 (some .int) :: ab_G) ({ frames := 10, cells := 0, slots := 0, locals := 1000 } : Room) (ab_X (ab_T (L_X11_drawn f_X11_isIn f_X11_keep f_X11_draws)) 3) := by
  refine ab_meth (ret := (some .int)) (L_X11_drawn f_X11_isIn f_X11_keep f_X11_draws) (by decide) rfl fun p e R s m args below meth c o C => ?_
  unfold L_X11_drawn
  refine List.forall_mem_cons.mpr ⟨ok_aload_n C (show decode cX11_drawn 0 = .ok (.aload_n 0, 1) from dk_at dq40_28 (i := 0) rfl) rfl rfl, ?_⟩
  refine List.forall_mem_cons.mpr ⟨ok_iconst C (show decode cX11_drawn 1 = .ok (.iconst 0, 1) from dk_at dq40_28 (i := 1) rfl) (by decide) rfl, ?_⟩
  refine List.forall_mem_cons.mpr ⟨ok_putf C (wi_X11) tyX11 tyX11_ok nmX11 rfl (by decide) kw_1180 (Or.inl rfl) (Or.inl ⟨rfl, rfl⟩) (show decode cX11_drawn 2 = .ok (.putfield 1, 3) from dk_at dq40_28 (i := 2) rfl) rfl, ?_⟩
  refine List.forall_mem_cons.mpr ⟨ok_iload_n C (show decode cX11_drawn 5 = .ok (.iload_n 1, 1) from dk_at dq40_28 (i := 3) rfl) rfl rfl, ?_⟩
  refine List.forall_mem_cons.mpr ⟨ok_iconst C (show decode cX11_drawn 6 = .ok (.iconst 1, 1) from dk_at dq40_28 (i := 4) rfl) (by decide) rfl, ?_⟩
  refine List.forall_mem_cons.mpr ⟨ok_bipush C (show decode cX11_drawn 7 = .ok (.bipush 60, 2) from dk_at dq40_28 (i := 5) rfl) (by decide) rfl, ?_⟩
  refine List.forall_mem_cons.mpr ⟨ok_callS C h_X11_isIn ⟨rfl, rfl⟩ kw_1355 kw_1353 kw_1354 kw_11 ds_X11_isIn ⟨by decide, by decide⟩ (show decode cX11_drawn 9 = .ok (.invokestatic 179, 3) from dk_at dq40_28 (i := 6) rfl) rfl, ?_⟩
  refine List.forall_mem_cons.mpr ⟨ok_ifeq C (show decode cX11_drawn 12 = .ok (.ifCond .eq 12, 3) from dk_at dq40_28 (i := 7) rfl) (tg := 24) (by decide) rfl rfl, ?_⟩
  refine List.forall_mem_cons.mpr ⟨ok_aload_n C (show decode cX11_drawn 15 = .ok (.aload_n 0, 1) from dk_at dq40_28 (i := 8) rfl) rfl rfl, ?_⟩
  refine List.forall_mem_cons.mpr ⟨ok_getf C (wi_X11) rfl (by decide) kw_1186 (show decode cX11_drawn 16 = .ok (.getfield 33, 3) from dk_at dq40_28 (i := 9) rfl) rfl, ?_⟩
  refine List.forall_mem_cons.mpr ⟨ok_iconst C (show decode cX11_drawn 19 = .ok (.iconst 0, 1) from dk_at dq40_28 (i := 10) rfl) (by decide) rfl, ?_⟩
  refine List.forall_mem_cons.mpr ⟨ok_iaload C (show decode cX11_drawn 20 = .ok (.iaload, 1) from dk_at dq40_28 (i := 11) rfl) rfl, ?_⟩
  refine List.forall_mem_cons.mpr ⟨ok_ifne C (show decode cX11_drawn 21 = .ok (.ifCond .ne 5, 3) from dk_at dq40_28 (i := 12) rfl) (tg := 26) (by decide) rfl rfl, ?_⟩
  refine List.forall_mem_cons.mpr ⟨ok_iconst C (show decode cX11_drawn 24 = .ok (.iconst (-1), 1) from dk_at dq40_28 (i := 13) rfl) (by decide) rfl, ?_⟩
  refine List.forall_mem_cons.mpr ⟨ok_ret C rfl (show decode cX11_drawn 25 = .ok (.ireturn, 1) from dk_at dq40_28 (i := 14) rfl), ?_⟩
  refine List.forall_mem_cons.mpr ⟨ok_aload_n C (show decode cX11_drawn 26 = .ok (.aload_n 0, 1) from dk_at dq40_28 (i := 15) rfl) rfl rfl, ?_⟩
  refine List.forall_mem_cons.mpr ⟨ok_getf C (wi_X11) rfl (by decide) kw_1186 (show decode cX11_drawn 27 = .ok (.getfield 33, 3) from dk_at dq40_29 (i := 0) rfl) rfl, ?_⟩
  refine List.forall_mem_cons.mpr ⟨ok_bipush C (show decode cX11_drawn 30 = .ok (.bipush 120, 2) from dk_at dq40_29 (i := 1) rfl) (by decide) rfl, ?_⟩
  refine List.forall_mem_cons.mpr ⟨ok_iaload C (show decode cX11_drawn 32 = .ok (.iaload, 1) from dk_at dq40_29 (i := 2) rfl) rfl, ?_⟩
  refine List.forall_mem_cons.mpr ⟨ok_sipush C (show decode cX11_drawn 33 = .ok (.sipush 400, 3) from dk_at dq40_29 (i := 3) rfl) (by decide) rfl, ?_⟩
  refine List.forall_mem_cons.mpr ⟨ok_icmpge C (show decode cX11_drawn 36 = .ok (.if_icmp .ge 7, 3) from dk_at dq40_29 (i := 4) rfl) (tg := 43) (by decide) rfl rfl, ?_⟩
  refine List.forall_mem_cons.mpr ⟨ok_aload_n C (show decode cX11_drawn 39 = .ok (.aload_n 0, 1) from dk_at dq40_29 (i := 5) rfl) rfl rfl, ?_⟩
  refine List.forall_mem_cons.mpr ⟨ok_callV C h_X11_keep ⟨rfl, rfl⟩ rfl kw_1481 kw_1478 kw_1480 kp_78 kw_11 rfl ds_X11_keep ⟨by decide, by decide⟩ (show decode cX11_drawn 40 = .ok (.invokevirtual 304, 3) from dk_at dq40_29 (i := 6) rfl) rfl, ?_⟩
  refine List.forall_mem_cons.mpr ⟨ok_aload_n C (show decode cX11_drawn 43 = .ok (.aload_n 0, 1) from dk_at dq40_29 (i := 7) rfl) rfl rfl, ?_⟩
  refine List.forall_mem_cons.mpr ⟨ok_iload_n C (show decode cX11_drawn 44 = .ok (.iload_n 1, 1) from dk_at dq40_29 (i := 8) rfl) rfl rfl, ?_⟩
  refine List.forall_mem_cons.mpr ⟨ok_iload_n C (show decode cX11_drawn 45 = .ok (.iload_n 2, 1) from dk_at dq40_29 (i := 9) rfl) rfl rfl, ?_⟩
  refine List.forall_mem_cons.mpr ⟨ok_callV C h_X11_draws ⟨rfl, rfl⟩ rfl kw_1631 kw_1628 kw_1630 kp_91 kw_11 rfl ds_X11_draws ⟨by decide, by decide⟩ (show decode cX11_drawn 46 = .ok (.invokevirtual 345, 3) from dk_at dq40_29 (i := 10) rfl) rfl, ?_⟩
  refine List.forall_mem_cons.mpr ⟨ok_ret C rfl (show decode cX11_drawn 49 = .ok (.ireturn, 1) from dk_at dq40_29 (i := 11) rfl), ?_⟩
  exact fun _ h => absurd h List.not_mem_nil
end
-- 41.m21.lean.txt
section
def L_X11_odds (f_X11_isMan : List Value → ab_H → Option ab_O) (f_X11_isIn : List Value → ab_H → Option ab_O) (f_X11_tries : List Value → ab_H → Option ab_O) (f_X11_draws : List Value → ab_H → Option ab_O) (f_X11_back : List Value → ab_H → Option ab_O) : List (Nat × ab_A) := [
  (0, ab_nx 1 (ab_aload 0)),
  (1, ab_nx 2 (ab_lit (.int 0))),
  (2, ab_nx 5 (ab_putf 11 0 0)),
  (5, ab_nx 6 (ab_aload 0)),
  (6, ab_nx 7 (ab_iload 1)),
  (7, ab_nx 10 (ab_callV 2 11 f_X11_isMan 0 0 0 0)),
  (10, ab_if 13 32 (fun x => decide (x = 0))),
  (13, ab_nx 14 (ab_iload 2)),
  (14, ab_nx 15 (ab_lit (.int 1))),
  (15, ab_nx 17 (ab_lit (.int 30))),
  (17, ab_nx 20 (ab_call 3 f_X11_isIn 0 0 0 0)),
  (20, ab_if 23 32 (fun x => decide (x = 0))),
  (23, ab_nx 24 (ab_aload 0)),
  (24, ab_nx 27 (ab_getf 11 6)),
  (27, ab_nx 28 (ab_lit (.int 0))),
  (28, ab_nx 29 (ab_ald 1)),
  (29, ab_if 32 34 (fun x => !decide (x = 0))),
  (32, ab_nx 33 (ab_lit (.int (-1)))),
  (33, ab_ret 0 0),
  (34, ab_nx 35 (ab_aload 0)),
  (35, ab_nx 38 (ab_callV 1 11 f_X11_tries 0 0 0 0)),
  (38, ab_nx 39 (ab_lit (.int 0))),
  (39, ab_nx 41 (ab_istore 4)),
  (41, ab_nx 42 (ab_lit (.int 0))),
  (42, ab_nx 44 (ab_istore 5)),
  (44, ab_nx 46 (ab_iload 5)),
  (46, ab_nx 47 (ab_iload 2)),
  (47, ab_icmp 50 108 (fun x y => decide (y ≤ x))),
  (50, ab_nx 51 (ab_aload 0)),
  (51, ab_nx 54 (ab_getf 11 6)),
  (54, ab_nx 57 (ab_lit (.int 181))),
  (57, ab_nx 58 (ab_iload 1)),
  (58, ab_nx 59 (ab_bin (fun x y => x + y))),
  (59, ab_nx 60 (ab_ald 1)),
  (60, ab_nx 62 (ab_istore 6)),
  (62, ab_nx 63 (ab_aload 0)),
  (63, ab_nx 65 (ab_lit (.int 20))),
  (65, ab_nx 66 (ab_iload 3)),
  (66, ab_nx 68 (ab_iload 5)),
  (68, ab_nx 69 (ab_bin (fun x y => x + y))),
  (69, ab_nx 72 (ab_callV 3 11 f_X11_draws 0 0 0 0)),
  (72, ab_nx 73 ab_pop),
  (73, ab_nx 75 (ab_iload 4)),
  (75, ab_nx 76 (ab_aload 0)),
  (76, ab_nx 79 (ab_getf 11 6)),
  (79, ab_nx 82 (ab_lit (.int 181))),
  (82, ab_nx 83 (ab_iload 1)),
  (83, ab_nx 84 (ab_bin (fun x y => x + y))),
  (84, ab_nx 85 (ab_ald 1)),
  (85, ab_nx 87 (ab_iload 6)),
  (87, ab_icmp 90 94 (fun x y => decide (x ≤ y))),
  (90, ab_nx 91 (ab_lit (.int 1))),
  (91, ab_goto 95),
  (94, ab_nx 95 (ab_lit (.int 0))),
  (95, ab_nx 96 (ab_bin (fun x y => x + y))),
  (96, ab_nx 98 (ab_istore 4)),
  (98, ab_nx 99 (ab_aload 0)),
  (99, ab_nx 102 (ab_callV 1 11 f_X11_back 0 0 0 0)),
  (102, ab_nx 105 (ab_iinc 5 1)),
  (105, ab_goto 44),
  (108, ab_nx 110 (ab_iload 4)),
  (110, ab_ret 0 0)]
set_option maxRecDepth 100000 in
theorem dq41_0 : ([(0, .aload_n 0, 1), (1, .iconst 0, 1), (2, .putfield 1, 3), (5, .aload_n 0, 1), (6, .iload_n 1, 1), (7, .invokevirtual 266, 3), (10, .ifCond .eq 22, 3), (13, .iload_n 2, 1), (14, .iconst 1, 1), (15, .bipush 30, 2), (17, .invokestatic 179, 3), (20, .ifCond .eq 12, 3), (23, .aload_n 0, 1), (24, .getfield 33, 3), (27, .iconst 0, 1), (28, .iaload, 1)] : List (Nat × Instr × Nat)).all (fun q => decide (decode cX11_odds q.1 = .ok q.2)) = true := by decide +kernel
set_option maxRecDepth 100000 in
theorem dq41_1 : ([(29, .ifCond .ne 5, 3), (32, .iconst (-1), 1), (33, .ireturn, 1), (34, .aload_n 0, 1), (35, .invokevirtual 317, 3), (38, .iconst 0, 1), (39, .istore 4, 2), (41, .iconst 0, 1), (42, .istore 5, 2), (44, .iload 5, 2), (46, .iload_n 2, 1), (47, .if_icmp .ge 61, 3), (50, .aload_n 0, 1), (51, .getfield 33, 3), (54, .sipush 181, 3), (57, .iload_n 1, 1)] : List (Nat × Instr × Nat)).all (fun q => decide (decode cX11_odds q.1 = .ok q.2)) = true := by decide +kernel
set_option maxRecDepth 100000 in
theorem dq41_2 : ([(58, .iadd, 1), (59, .iaload, 1), (60, .istore 6, 2), (62, .aload_n 0, 1), (63, .bipush 20, 2), (65, .iload_n 3, 1), (66, .iload 5, 2), (68, .iadd, 1), (69, .invokevirtual 345, 3), (72, .pop, 1), (73, .iload 4, 2), (75, .aload_n 0, 1), (76, .getfield 33, 3), (79, .sipush 181, 3), (82, .iload_n 1, 1), (83, .iadd, 1)] : List (Nat × Instr × Nat)).all (fun q => decide (decode cX11_odds q.1 = .ok q.2)) = true := by decide +kernel
set_option maxRecDepth 100000 in
theorem dq41_3 : ([(84, .iaload, 1), (85, .iload 6, 2), (87, .if_icmp .le 7, 3), (90, .iconst 1, 1), (91, .goto 4, 3), (94, .iconst 0, 1), (95, .iadd, 1), (96, .istore 4, 2), (98, .aload_n 0, 1), (99, .invokevirtual 320, 3), (102, .iinc 5 1, 3), (105, .goto (-61), 3), (108, .iload 4, 2), (110, .ireturn, 1)] : List (Nat × Instr × Nat)).all (fun q => decide (decode cX11_odds q.1 = .ok q.2)) = true := by decide +kernel
set_option maxRecDepth 100000 in
set_option maxHeartbeats 4000000 in
theorem M_X11_odds {l : Launch} {b : ab_B} {D : va_G} {cA : Nat → ClassId} {f_X11_isMan : List Value → ab_H → Option ab_O} (h_X11_isMan : ab_M l b D ab_cl cA (ab_E0 b) yX11_isMan (Cond.code yX11_isMan cX11_isMan 2 (some .boolean) :: ab_G) ({ frames := 2, cells := 0, slots := 0, locals := 200 } : Room) f_X11_isMan) {f_X11_isIn : List Value → ab_H → Option ab_O} (h_X11_isIn : ab_M l b D ab_cl cA (ab_E0 b) yX11_isIn (Cond.code yX11_isIn cX11_isIn 3 (some .boolean) :: ab_G) ({ frames := 1, cells := 0, slots := 0, locals := 100 } : Room) f_X11_isIn) {f_X11_tries : List Value → ab_H → Option ab_O} (h_X11_tries : ab_M l b D ab_cl cA (ab_E0 b) yX11_tries (Cond.code yX11_tries cX11_tries 2 none :: ab_G) ({ frames := 1, cells := 0, slots := 0, locals := 100 } : Room) f_X11_tries) {f_X11_draws : List Value → ab_H → Option ab_O} (h_X11_draws : ab_M l b D ab_cl cA (ab_E0 b) yX11_draws (Cond.code yX11_draws cX11_draws 4 (some .int) :: ab_G) ({ frames := 9, cells := 0, slots := 0, locals := 900 } : Room) f_X11_draws) {f_X11_back : List Value → ab_H → Option ab_O} (h_X11_back : ab_M l b D ab_cl cA (ab_E0 b) yX11_back (Cond.code yX11_back cX11_back 2 none :: ab_G) ({ frames := 1, cells := 0, slots := 0, locals := 100 } : Room) f_X11_back) : ab_M l b D ab_cl cA (ab_E0 b) yX11_odds (Cond.code yX11_odds cX11_odds 7 (some .int) :: ab_G) ({ frames := 10, cells := 0, slots := 0, locals := 1000 } : Room) (ab_X (ab_T (L_X11_odds f_X11_isMan f_X11_isIn f_X11_tries f_X11_draws f_X11_back)) 7) := by
  refine ab_meth (ret := (some .int)) (L_X11_odds f_X11_isMan f_X11_isIn f_X11_tries f_X11_draws f_X11_back) (by decide) rfl fun p e R s m args below meth c o C => ?_
  unfold L_X11_odds
  refine List.forall_mem_cons.mpr ⟨ok_aload_n C (show decode cX11_odds 0 = .ok (.aload_n 0, 1) from dk_at dq41_0 (i := 0) rfl) rfl rfl, ?_⟩
  refine List.forall_mem_cons.mpr ⟨ok_iconst C (show decode cX11_odds 1 = .ok (.iconst 0, 1) from dk_at dq41_0 (i := 1) rfl) (by decide) rfl, ?_⟩
  refine List.forall_mem_cons.mpr ⟨ok_putf C (wi_X11) tyX11 tyX11_ok nmX11 rfl (by decide) kw_1180 (Or.inl rfl) (Or.inl ⟨rfl, rfl⟩) (show decode cX11_odds 2 = .ok (.putfield 1, 3) from dk_at dq41_0 (i := 2) rfl) rfl, ?_⟩
  refine List.forall_mem_cons.mpr ⟨ok_aload_n C (show decode cX11_odds 5 = .ok (.aload_n 0, 1) from dk_at dq41_0 (i := 3) rfl) rfl rfl, ?_⟩
  refine List.forall_mem_cons.mpr ⟨ok_iload_n C (show decode cX11_odds 6 = .ok (.iload_n 1, 1) from dk_at dq41_0 (i := 4) rfl) rfl rfl, ?_⟩
  refine List.forall_mem_cons.mpr ⟨ok_callV C h_X11_isMan ⟨rfl, rfl⟩ rfl kw_1433 kw_1430 kw_1432 kp_69 kw_11 rfl ds_X11_isMan ⟨by decide, by decide⟩ (show decode cX11_odds 7 = .ok (.invokevirtual 266, 3) from dk_at dq41_0 (i := 5) rfl) rfl, ?_⟩
  refine List.forall_mem_cons.mpr ⟨ok_ifeq C (show decode cX11_odds 10 = .ok (.ifCond .eq 22, 3) from dk_at dq41_0 (i := 6) rfl) (tg := 32) (by decide) rfl rfl, ?_⟩
  refine List.forall_mem_cons.mpr ⟨ok_iload_n C (show decode cX11_odds 13 = .ok (.iload_n 2, 1) from dk_at dq41_0 (i := 7) rfl) rfl rfl, ?_⟩
  refine List.forall_mem_cons.mpr ⟨ok_iconst C (show decode cX11_odds 14 = .ok (.iconst 1, 1) from dk_at dq41_0 (i := 8) rfl) (by decide) rfl, ?_⟩
  refine List.forall_mem_cons.mpr ⟨ok_bipush C (show decode cX11_odds 15 = .ok (.bipush 30, 2) from dk_at dq41_0 (i := 9) rfl) (by decide) rfl, ?_⟩
  refine List.forall_mem_cons.mpr ⟨ok_callS C h_X11_isIn ⟨rfl, rfl⟩ kw_1355 kw_1353 kw_1354 kw_11 ds_X11_isIn ⟨by decide, by decide⟩ (show decode cX11_odds 17 = .ok (.invokestatic 179, 3) from dk_at dq41_0 (i := 10) rfl) rfl, ?_⟩
  refine List.forall_mem_cons.mpr ⟨ok_ifeq C (show decode cX11_odds 20 = .ok (.ifCond .eq 12, 3) from dk_at dq41_0 (i := 11) rfl) (tg := 32) (by decide) rfl rfl, ?_⟩
  refine List.forall_mem_cons.mpr ⟨ok_aload_n C (show decode cX11_odds 23 = .ok (.aload_n 0, 1) from dk_at dq41_0 (i := 12) rfl) rfl rfl, ?_⟩
  refine List.forall_mem_cons.mpr ⟨ok_getf C (wi_X11) rfl (by decide) kw_1186 (show decode cX11_odds 24 = .ok (.getfield 33, 3) from dk_at dq41_0 (i := 13) rfl) rfl, ?_⟩
  refine List.forall_mem_cons.mpr ⟨ok_iconst C (show decode cX11_odds 27 = .ok (.iconst 0, 1) from dk_at dq41_0 (i := 14) rfl) (by decide) rfl, ?_⟩
  refine List.forall_mem_cons.mpr ⟨ok_iaload C (show decode cX11_odds 28 = .ok (.iaload, 1) from dk_at dq41_0 (i := 15) rfl) rfl, ?_⟩
  refine List.forall_mem_cons.mpr ⟨ok_ifne C (show decode cX11_odds 29 = .ok (.ifCond .ne 5, 3) from dk_at dq41_1 (i := 0) rfl) (tg := 34) (by decide) rfl rfl, ?_⟩
  refine List.forall_mem_cons.mpr ⟨ok_iconst C (show decode cX11_odds 32 = .ok (.iconst (-1), 1) from dk_at dq41_1 (i := 1) rfl) (by decide) rfl, ?_⟩
  refine List.forall_mem_cons.mpr ⟨ok_ret C rfl (show decode cX11_odds 33 = .ok (.ireturn, 1) from dk_at dq41_1 (i := 2) rfl), ?_⟩
  refine List.forall_mem_cons.mpr ⟨ok_aload_n C (show decode cX11_odds 34 = .ok (.aload_n 0, 1) from dk_at dq41_1 (i := 3) rfl) rfl rfl, ?_⟩
  refine List.forall_mem_cons.mpr ⟨ok_callV C h_X11_tries ⟨rfl, rfl⟩ rfl kw_1556 kw_1553 kw_1555 kp_86 kw_11 rfl ds_X11_tries ⟨by decide, by decide⟩ (show decode cX11_odds 35 = .ok (.invokevirtual 317, 3) from dk_at dq41_1 (i := 4) rfl) rfl, ?_⟩
  refine List.forall_mem_cons.mpr ⟨ok_iconst C (show decode cX11_odds 38 = .ok (.iconst 0, 1) from dk_at dq41_1 (i := 5) rfl) (by decide) rfl, ?_⟩
  refine List.forall_mem_cons.mpr ⟨ok_istore C (show decode cX11_odds 39 = .ok (.istore 4, 2) from dk_at dq41_1 (i := 6) rfl) (by decide) rfl, ?_⟩
  refine List.forall_mem_cons.mpr ⟨ok_iconst C (show decode cX11_odds 41 = .ok (.iconst 0, 1) from dk_at dq41_1 (i := 7) rfl) (by decide) rfl, ?_⟩
  refine List.forall_mem_cons.mpr ⟨ok_istore C (show decode cX11_odds 42 = .ok (.istore 5, 2) from dk_at dq41_1 (i := 8) rfl) (by decide) rfl, ?_⟩
  refine List.forall_mem_cons.mpr ⟨ok_iload C (show decode cX11_odds 44 = .ok (.iload 5, 2) from dk_at dq41_1 (i := 9) rfl) rfl, ?_⟩
  refine List.forall_mem_cons.mpr ⟨ok_iload_n C (show decode cX11_odds 46 = .ok (.iload_n 2, 1) from dk_at dq41_1 (i := 10) rfl) rfl rfl, ?_⟩
  refine List.forall_mem_cons.mpr ⟨ok_icmpge C (show decode cX11_odds 47 = .ok (.if_icmp .ge 61, 3) from dk_at dq41_1 (i := 11) rfl) (tg := 108) (by decide) rfl rfl, ?_⟩
  refine List.forall_mem_cons.mpr ⟨ok_aload_n C (show decode cX11_odds 50 = .ok (.aload_n 0, 1) from dk_at dq41_1 (i := 12) rfl) rfl rfl, ?_⟩
  refine List.forall_mem_cons.mpr ⟨ok_getf C (wi_X11) rfl (by decide) kw_1186 (show decode cX11_odds 51 = .ok (.getfield 33, 3) from dk_at dq41_1 (i := 13) rfl) rfl, ?_⟩
  refine List.forall_mem_cons.mpr ⟨ok_sipush C (show decode cX11_odds 54 = .ok (.sipush 181, 3) from dk_at dq41_1 (i := 14) rfl) (by decide) rfl, ?_⟩
  refine List.forall_mem_cons.mpr ⟨ok_iload_n C (show decode cX11_odds 57 = .ok (.iload_n 1, 1) from dk_at dq41_1 (i := 15) rfl) rfl rfl, ?_⟩
  refine List.forall_mem_cons.mpr ⟨ok_iadd C (show decode cX11_odds 58 = .ok (.iadd, 1) from dk_at dq41_2 (i := 0) rfl) rfl, ?_⟩
  refine List.forall_mem_cons.mpr ⟨ok_iaload C (show decode cX11_odds 59 = .ok (.iaload, 1) from dk_at dq41_2 (i := 1) rfl) rfl, ?_⟩
  refine List.forall_mem_cons.mpr ⟨ok_istore C (show decode cX11_odds 60 = .ok (.istore 6, 2) from dk_at dq41_2 (i := 2) rfl) (by decide) rfl, ?_⟩
  refine List.forall_mem_cons.mpr ⟨ok_aload_n C (show decode cX11_odds 62 = .ok (.aload_n 0, 1) from dk_at dq41_2 (i := 3) rfl) rfl rfl, ?_⟩
  refine List.forall_mem_cons.mpr ⟨ok_bipush C (show decode cX11_odds 63 = .ok (.bipush 20, 2) from dk_at dq41_2 (i := 4) rfl) (by decide) rfl, ?_⟩
  refine List.forall_mem_cons.mpr ⟨ok_iload_n C (show decode cX11_odds 65 = .ok (.iload_n 3, 1) from dk_at dq41_2 (i := 5) rfl) rfl rfl, ?_⟩
  refine List.forall_mem_cons.mpr ⟨ok_iload C (show decode cX11_odds 66 = .ok (.iload 5, 2) from dk_at dq41_2 (i := 6) rfl) rfl, ?_⟩
  refine List.forall_mem_cons.mpr ⟨ok_iadd C (show decode cX11_odds 68 = .ok (.iadd, 1) from dk_at dq41_2 (i := 7) rfl) rfl, ?_⟩
  refine List.forall_mem_cons.mpr ⟨ok_callV C h_X11_draws ⟨rfl, rfl⟩ rfl kw_1631 kw_1628 kw_1630 kp_91 kw_11 rfl ds_X11_draws ⟨by decide, by decide⟩ (show decode cX11_odds 69 = .ok (.invokevirtual 345, 3) from dk_at dq41_2 (i := 8) rfl) rfl, ?_⟩
  refine List.forall_mem_cons.mpr ⟨ok_pop C (show decode cX11_odds 72 = .ok (.pop, 1) from dk_at dq41_2 (i := 9) rfl) rfl, ?_⟩
  refine List.forall_mem_cons.mpr ⟨ok_iload C (show decode cX11_odds 73 = .ok (.iload 4, 2) from dk_at dq41_2 (i := 10) rfl) rfl, ?_⟩
  refine List.forall_mem_cons.mpr ⟨ok_aload_n C (show decode cX11_odds 75 = .ok (.aload_n 0, 1) from dk_at dq41_2 (i := 11) rfl) rfl rfl, ?_⟩
  refine List.forall_mem_cons.mpr ⟨ok_getf C (wi_X11) rfl (by decide) kw_1186 (show decode cX11_odds 76 = .ok (.getfield 33, 3) from dk_at dq41_2 (i := 12) rfl) rfl, ?_⟩
  refine List.forall_mem_cons.mpr ⟨ok_sipush C (show decode cX11_odds 79 = .ok (.sipush 181, 3) from dk_at dq41_2 (i := 13) rfl) (by decide) rfl, ?_⟩
  refine List.forall_mem_cons.mpr ⟨ok_iload_n C (show decode cX11_odds 82 = .ok (.iload_n 1, 1) from dk_at dq41_2 (i := 14) rfl) rfl rfl, ?_⟩
  refine List.forall_mem_cons.mpr ⟨ok_iadd C (show decode cX11_odds 83 = .ok (.iadd, 1) from dk_at dq41_2 (i := 15) rfl) rfl, ?_⟩
  refine List.forall_mem_cons.mpr ⟨ok_iaload C (show decode cX11_odds 84 = .ok (.iaload, 1) from dk_at dq41_3 (i := 0) rfl) rfl, ?_⟩
  refine List.forall_mem_cons.mpr ⟨ok_iload C (show decode cX11_odds 85 = .ok (.iload 6, 2) from dk_at dq41_3 (i := 1) rfl) rfl, ?_⟩
  refine List.forall_mem_cons.mpr ⟨ok_icmple C (show decode cX11_odds 87 = .ok (.if_icmp .le 7, 3) from dk_at dq41_3 (i := 2) rfl) (tg := 94) (by decide) rfl rfl, ?_⟩
  refine List.forall_mem_cons.mpr ⟨ok_iconst C (show decode cX11_odds 90 = .ok (.iconst 1, 1) from dk_at dq41_3 (i := 3) rfl) (by decide) rfl, ?_⟩
  refine List.forall_mem_cons.mpr ⟨ok_goto C (show decode cX11_odds 91 = .ok (.goto 4, 3) from dk_at dq41_3 (i := 4) rfl) (tg := 95) (by decide) rfl, ?_⟩
  refine List.forall_mem_cons.mpr ⟨ok_iconst C (show decode cX11_odds 94 = .ok (.iconst 0, 1) from dk_at dq41_3 (i := 5) rfl) (by decide) rfl, ?_⟩
  refine List.forall_mem_cons.mpr ⟨ok_iadd C (show decode cX11_odds 95 = .ok (.iadd, 1) from dk_at dq41_3 (i := 6) rfl) rfl, ?_⟩
  refine List.forall_mem_cons.mpr ⟨ok_istore C (show decode cX11_odds 96 = .ok (.istore 4, 2) from dk_at dq41_3 (i := 7) rfl) (by decide) rfl, ?_⟩
  refine List.forall_mem_cons.mpr ⟨ok_aload_n C (show decode cX11_odds 98 = .ok (.aload_n 0, 1) from dk_at dq41_3 (i := 8) rfl) rfl rfl, ?_⟩
  refine List.forall_mem_cons.mpr ⟨ok_callV C h_X11_back ⟨rfl, rfl⟩ rfl kw_1560 kw_1557 kw_1559 kp_87 kw_11 rfl ds_X11_back ⟨by decide, by decide⟩ (show decode cX11_odds 99 = .ok (.invokevirtual 320, 3) from dk_at dq41_3 (i := 9) rfl) rfl, ?_⟩
  refine List.forall_mem_cons.mpr ⟨ok_iinc C (show decode cX11_odds 102 = .ok (.iinc 5 1, 3) from dk_at dq41_3 (i := 10) rfl) (by decide) (by decide) rfl, ?_⟩
  refine List.forall_mem_cons.mpr ⟨ok_goto C (show decode cX11_odds 105 = .ok (.goto (-61), 3) from dk_at dq41_3 (i := 11) rfl) (tg := 44) (by decide) rfl, ?_⟩
  refine List.forall_mem_cons.mpr ⟨ok_iload C (show decode cX11_odds 108 = .ok (.iload 4, 2) from dk_at dq41_3 (i := 12) rfl) rfl, ?_⟩
  refine List.forall_mem_cons.mpr ⟨ok_ret C rfl (show decode cX11_odds 110 = .ok (.ireturn, 1) from dk_at dq41_3 (i := 13) rfl), ?_⟩
  exact fun _ h => absurd h List.not_mem_nil
def L_X11_logLine (f_X11_isWord : List Value → ab_H → Option ab_O) (f_X11_looksAt : List Value → ab_H → Option ab_O) (f_X11_bad : List Value → ab_H → Option ab_O) (f_X11_next : List Value → ab_H → Option ab_O) (f_X11_takes : List Value → ab_H → Option ab_O) (f_X11_takesName : List Value → ab_H → Option ab_O) : List (Nat × ab_A) := [
  (0, ab_nx 1 (ab_lit (.int 4))),
  (1, ab_nx 2 (ab_aload 0)),
  (2, ab_nx 5 (ab_getf 11 30)),
  (5, ab_nx 6 (ab_bin (fun x y => x * y))),
  (6, ab_nx 7 (ab_istore 1)),
  (7, ab_nx 8 (ab_aload 0)),
  (8, ab_nx 11 (ab_lit (.long 114827585545331))),
  (11, ab_nx 14 (ab_callV 2 11 f_X11_isWord 0 0 0 0)),
  (14, ab_if 17 21 (fun x => decide (x = 0))),
  (17, ab_nx 18 (ab_lit (.int 0))),
  (18, ab_goto 64),
  (21, ab_nx 22 (ab_aload 0)),
  (22, ab_nx 25 (ab_lit (.long 422541682035))),
  (25, ab_nx 28 (ab_callV 2 11 f_X11_isWord 0 0 0 0)),
  (28, ab_if 31 35 (fun x => decide (x = 0))),
  (31, ab_nx 32 (ab_lit (.int 1))),
  (32, ab_goto 64),
  (35, ab_nx 36 (ab_aload 0)),
  (36, ab_nx 39 (ab_lit (.long 131260432541043))),
  (39, ab_nx 42 (ab_callV 2 11 f_X11_isWord 0 0 0 0)),
  (42, ab_if 45 49 (fun x => decide (x = 0))),
  (45, ab_nx 46 (ab_lit (.int 2))),
  (46, ab_goto 64),
  (49, ab_nx 50 (ab_aload 0)),
  (50, ab_nx 53 (ab_lit (.long 6578553))),
  (53, ab_nx 56 (ab_callV 2 11 f_X11_isWord 0 0 0 0)),
  (56, ab_if 59 63 (fun x => decide (x = 0))),
  (59, ab_nx 60 (ab_lit (.int 4))),
  (60, ab_goto 64),
  (63, ab_nx 64 (ab_lit (.int 3))),
  (64, ab_nx 65 (ab_istore 2)),
  (65, ab_nx 66 (ab_iload 2)),
  (66, ab_nx 67 (ab_lit (.int 3))),
  (67, ab_icmp 70 87 (fun x y => !decide (x = y))),
  (70, ab_nx 71 (ab_aload 0)),
  (71, ab_nx 73 (ab_lit (.int 6))),
  (73, ab_nx 74 (ab_aload 0)),
  (74, ab_nx 77 (ab_getf 11 6)),
  (77, ab_nx 78 (ab_lit (.int 1))),
  (78, ab_nx 79 (ab_ald 1)),
  (79, ab_nx 82 (ab_callV 3 11 f_X11_looksAt 0 0 0 0)),
  (82, ab_if 85 87 (fun x => !decide (x = 0))),
  (85, ab_nx 86 (ab_lit (.int 0))),
  (86, ab_zret 0 0),
  (87, ab_nx 88 (ab_aload 0)),
  (88, ab_nx 91 (ab_getf 11 30)),
  (91, ab_nx 93 (ab_lit (.int 40))),
  (93, ab_icmp 96 102 (fun x y => !decide (x = y))),
  (96, ab_nx 97 (ab_aload 0)),
  (97, ab_nx 98 (ab_lit (.int 4))),
  (98, ab_nx 101 (ab_callV 2 11 f_X11_bad 0 0 0 0)),
  (101, ab_zret 0 0),
  (102, ab_nx 103 (ab_aload 0)),
  (103, ab_nx 106 (ab_getf 11 8)),
  (106, ab_nx 107 (ab_iload 1)),
  (107, ab_nx 108 (ab_iload 2)),
  (108, ab_nx 109 (ab_ast 1)),
  (109, ab_nx 110 (ab_aload 0)),
  (110, ab_nx 113 (ab_getf 11 8)),
  (113, ab_nx 114 (ab_iload 1)),
  (114, ab_nx 115 (ab_lit (.int 1))),
  (115, ab_nx 116 (ab_bin (fun x y => x + y))),
  (116, ab_nx 117 (ab_aload 0)),
  (117, ab_nx 120 (ab_getf 11 18)),
  (120, ab_nx 121 (ab_ast 1)),
  (121, ab_nx 122 (ab_aload 0)),
  (122, ab_nx 125 (ab_callV 1 11 f_X11_next 0 0 0 0)),
  (125, ab_nx 126 (ab_iload 2)),
  (126, ab_nx 127 (ab_lit (.int 3))),
  (127, ab_icmp 130 152 (fun x y => !decide (x = y))),
  (130, ab_nx 131 (ab_aload 0)),
  (131, ab_nx 134 (ab_lit (.long 1684628851))),
  (134, ab_nx 137 (ab_callV 2 11 f_X11_isWord 0 0 0 0)),
  (137, ab_if 140 146 (fun x => !decide (x = 0))),
  (140, ab_nx 141 (ab_aload 0)),
  (141, ab_nx 142 (ab_lit (.int 1))),
  (142, ab_nx 145 (ab_callV 2 11 f_X11_bad 0 0 0 0)),
  (145, ab_zret 0 0),
  (146, ab_nx 147 (ab_aload 0)),
  (147, ab_nx 150 (ab_callV 1 11 f_X11_next 0 0 0 0)),
  (150, ab_nx 151 (ab_lit (.int 1))),
  (151, ab_zret 0 0),
  (152, ab_nx 153 (ab_iload 2)),
  (153, ab_nx 154 (ab_lit (.int 4))),
  (154, ab_icmp 157 183 (fun x y => !decide (x = y))),
  (157, ab_nx 158 (ab_aload 0)),
  (158, ab_nx 159 (ab_lit (.int 1))),
  (159, ab_nx 161 (ab_lit (.int 60))),
  (161, ab_nx 164 (ab_callV 3 11 f_X11_takes 0 0 0 0)),
  (164, ab_if 167 169 (fun x => !decide (x = 0))),
  (167, ab_nx 168 (ab_lit (.int 0))),
  (168, ab_zret 0 0),
  (169, ab_nx 170 (ab_aload 0)),
  (170, ab_nx 173 (ab_getf 11 8)),
  (173, ab_nx 174 (ab_iload 1)),
  (174, ab_nx 175 (ab_lit (.int 1))),
  (175, ab_nx 176 (ab_bin (fun x y => x + y))),
  (176, ab_nx 177 (ab_aload 0)),
  (177, ab_nx 180 (ab_getf 11 18)),
  (180, ab_nx 181 (ab_ast 1)),
  (181, ab_nx 182 (ab_lit (.int 1))),
  (182, ab_zret 0 0),
  (183, ab_nx 184 (ab_aload 0)),
  (184, ab_nx 185 (ab_lit (.int 0))),
  (185, ab_nx 186 (ab_aload 0)),
  (186, ab_nx 189 (ab_getf 11 6)),
  (189, ab_nx 190 (ab_lit (.int 0))),
  (190, ab_nx 191 (ab_ald 1)),
  (191, ab_nx 194 (ab_callV 3 11 f_X11_takesName 0 0 0 0)),
  (194, ab_if 197 199 (fun x => !decide (x = 0))),
  (197, ab_nx 198 (ab_lit (.int 0))),
  (198, ab_zret 0 0),
  (199, ab_nx 200 (ab_aload 0)),
  (200, ab_nx 203 (ab_getf 11 8)),
  (203, ab_nx 204 (ab_iload 1)),
  (204, ab_nx 205 (ab_lit (.int 1))),
  (205, ab_nx 206 (ab_bin (fun x y => x + y))),
  (206, ab_nx 207 (ab_aload 0)),
  (207, ab_nx 210 (ab_getf 11 18)),
  (210, ab_nx 211 (ab_ast 1)),
  (211, ab_nx 212 (ab_aload 0)),
  (212, ab_nx 213 (ab_lit (.int 0))),
  (213, ab_nx 214 (ab_lit (.int 1))),
  (214, ab_nx 217 (ab_callV 3 11 f_X11_takes 0 0 0 0)),
  (217, ab_if 220 222 (fun x => !decide (x = 0))),
  (220, ab_nx 221 (ab_lit (.int 0))),
  (221, ab_zret 0 0),
  (222, ab_nx 223 (ab_aload 0)),
  (223, ab_nx 226 (ab_getf 11 8)),
  (226, ab_nx 227 (ab_iload 1)),
  (227, ab_nx 228 (ab_lit (.int 2))),
  (228, ab_nx 229 (ab_bin (fun x y => x + y))),
  (229, ab_nx 230 (ab_aload 0)),
  (230, ab_nx 233 (ab_getf 11 18)),
  (233, ab_nx 234 (ab_ast 1)),
  (234, ab_nx 235 (ab_aload 0)),
  (235, ab_nx 236 (ab_lit (.int 1))),
  (236, ab_nx 239 (ab_lit (.int 250))),
  (239, ab_nx 242 (ab_callV 3 11 f_X11_takes 0 0 0 0)),
  (242, ab_if 245 247 (fun x => !decide (x = 0))),
  (245, ab_nx 246 (ab_lit (.int 0))),
  (246, ab_zret 0 0),
  (247, ab_nx 248 (ab_aload 0)),
  (248, ab_nx 251 (ab_getf 11 8)),
  (251, ab_nx 252 (ab_iload 1)),
  (252, ab_nx 253 (ab_lit (.int 3))),
  (253, ab_nx 254 (ab_bin (fun x y => x + y))),
  (254, ab_nx 255 (ab_aload 0)),
  (255, ab_nx 258 (ab_getf 11 18)),
  (258, ab_nx 259 (ab_ast 1)),
  (259, ab_nx 260 (ab_lit (.int 1))),
  (260, ab_zret 0 0)]
set_option maxRecDepth 100000 in
theorem dq41_4 : ([(0, .iconst 4, 1), (1, .aload_n 0, 1), (2, .getfield 348, 3), (5, .imul, 1), (6, .istore_n 1, 1), (7, .aload_n 0, 1), (8, .ldc2_w 103, 3), (11, .invokevirtual 201, 3), (14, .ifCond .eq 7, 3), (17, .iconst 0, 1), (18, .goto 46, 3), (21, .aload_n 0, 1), (22, .ldc2_w 105, 3), (25, .invokevirtual 201, 3), (28, .ifCond .eq 7, 3), (31, .iconst 1, 1)] : List (Nat × Instr × Nat)).all (fun q => decide (decode cX11_logLine q.1 = .ok q.2)) = true := by decide +kernel
set_option maxRecDepth 100000 in
theorem dq41_5 : ([(32, .goto 32, 3), (35, .aload_n 0, 1), (36, .ldc2_w 107, 3), (39, .invokevirtual 201, 3), (42, .ifCond .eq 7, 3), (45, .iconst 2, 1), (46, .goto 18, 3), (49, .aload_n 0, 1), (50, .ldc2_w 111, 3), (53, .invokevirtual 201, 3), (56, .ifCond .eq 7, 3), (59, .iconst 4, 1), (60, .goto 4, 3), (63, .iconst 3, 1), (64, .istore_n 2, 1), (65, .iload_n 2, 1)] : List (Nat × Instr × Nat)).all (fun q => decide (decode cX11_logLine q.1 = .ok q.2)) = true := by decide +kernel
set_option maxRecDepth 100000 in
theorem dq41_6 : ([(66, .iconst 3, 1), (67, .if_icmp .ne 20, 3), (70, .aload_n 0, 1), (71, .bipush 6, 2), (73, .aload_n 0, 1), (74, .getfield 33, 3), (77, .iconst 1, 1), (78, .iaload, 1), (79, .invokevirtual 198, 3), (82, .ifCond .ne 5, 3), (85, .iconst 0, 1), (86, .ireturn, 1), (87, .aload_n 0, 1), (88, .getfield 348, 3), (91, .bipush 40, 2), (93, .if_icmp .ne 9, 3)] : List (Nat × Instr × Nat)).all (fun q => decide (decode cX11_logLine q.1 = .ok q.2)) = true := by decide +kernel
set_option maxRecDepth 100000 in
theorem dq41_7 : ([(96, .aload_n 0, 1), (97, .iconst 4, 1), (98, .invokevirtual 173, 3), (101, .ireturn, 1), (102, .aload_n 0, 1), (103, .getfield 40, 3), (106, .iload_n 1, 1), (107, .iload_n 2, 1), (108, .iastore, 1), (109, .aload_n 0, 1), (110, .getfield 40, 3), (113, .iload_n 1, 1), (114, .iconst 1, 1), (115, .iadd, 1), (116, .aload_n 0, 1), (117, .getfield 183, 3)] : List (Nat × Instr × Nat)).all (fun q => decide (decode cX11_logLine q.1 = .ok q.2)) = true := by decide +kernel
set_option maxRecDepth 100000 in
theorem dq41_8 : ([(120, .iastore, 1), (121, .aload_n 0, 1), (122, .invokevirtual 176, 3), (125, .iload_n 2, 1), (126, .iconst 3, 1), (127, .if_icmp .ne 25, 3), (130, .aload_n 0, 1), (131, .ldc2_w 109, 3), (134, .invokevirtual 201, 3), (137, .ifCond .ne 9, 3), (140, .aload_n 0, 1), (141, .iconst 1, 1), (142, .invokevirtual 173, 3), (145, .ireturn, 1), (146, .aload_n 0, 1), (147, .invokevirtual 176, 3)] : List (Nat × Instr × Nat)).all (fun q => decide (decode cX11_logLine q.1 = .ok q.2)) = true := by decide +kernel
set_option maxRecDepth 100000 in
theorem dq41_9 : ([(150, .iconst 1, 1), (151, .ireturn, 1), (152, .iload_n 2, 1), (153, .iconst 4, 1), (154, .if_icmp .ne 29, 3), (157, .aload_n 0, 1), (158, .iconst 1, 1), (159, .bipush 60, 2), (161, .invokevirtual 186, 3), (164, .ifCond .ne 5, 3), (167, .iconst 0, 1), (168, .ireturn, 1), (169, .aload_n 0, 1), (170, .getfield 40, 3), (173, .iload_n 1, 1), (174, .iconst 1, 1)] : List (Nat × Instr × Nat)).all (fun q => decide (decode cX11_logLine q.1 = .ok q.2)) = true := by decide +kernel
set_option maxRecDepth 100000 in
theorem dq41_10 : ([(175, .iadd, 1), (176, .aload_n 0, 1), (177, .getfield 183, 3), (180, .iastore, 1), (181, .iconst 1, 1), (182, .ireturn, 1), (183, .aload_n 0, 1), (184, .iconst 0, 1), (185, .aload_n 0, 1), (186, .getfield 33, 3), (189, .iconst 0, 1), (190, .iaload, 1), (191, .invokevirtual 218, 3), (194, .ifCond .ne 5, 3), (197, .iconst 0, 1), (198, .ireturn, 1)] : List (Nat × Instr × Nat)).all (fun q => decide (decode cX11_logLine q.1 = .ok q.2)) = true := by decide +kernel
set_option maxRecDepth 100000 in
theorem dq41_11 : ([(199, .aload_n 0, 1), (200, .getfield 40, 3), (203, .iload_n 1, 1), (204, .iconst 1, 1), (205, .iadd, 1), (206, .aload_n 0, 1), (207, .getfield 183, 3), (210, .iastore, 1), (211, .aload_n 0, 1), (212, .iconst 0, 1), (213, .iconst 1, 1), (214, .invokevirtual 186, 3), (217, .ifCond .ne 5, 3), (220, .iconst 0, 1), (221, .ireturn, 1), (222, .aload_n 0, 1)] : List (Nat × Instr × Nat)).all (fun q => decide (decode cX11_logLine q.1 = .ok q.2)) = true := by decide +kernel
set_option maxRecDepth 100000 in
theorem dq41_12 : ([(223, .getfield 40, 3), (226, .iload_n 1, 1), (227, .iconst 2, 1), (228, .iadd, 1), (229, .aload_n 0, 1), (230, .getfield 183, 3), (233, .iastore, 1), (234, .aload_n 0, 1), (235, .iconst 1, 1), (236, .sipush 250, 3), (239, .invokevirtual 186, 3), (242, .ifCond .ne 5, 3), (245, .iconst 0, 1), (246, .ireturn, 1), (247, .aload_n 0, 1), (248, .getfield 40, 3)] : List (Nat × Instr × Nat)).all (fun q => decide (decode cX11_logLine q.1 = .ok q.2)) = true := by decide +kernel
set_option maxRecDepth 100000 in
theorem dq41_13 : ([(251, .iload_n 1, 1), (252, .iconst 3, 1), (253, .iadd, 1), (254, .aload_n 0, 1), (255, .getfield 183, 3), (258, .iastore, 1), (259, .iconst 1, 1), (260, .ireturn, 1)] : List (Nat × Instr × Nat)).all (fun q => decide (decode cX11_logLine q.1 = .ok q.2)) = true := by decide +kernel
set_option maxRecDepth 100000 in
set_option maxHeartbeats 4000000 in
theorem M_X11_logLine {l : Launch} {b : ab_B} {D : va_G} {cA : Nat → ClassId} {f_X11_isWord : List Value → ab_H → Option ab_O} (h_X11_isWord : ab_M l b D ab_cl cA (ab_E0 b) yX11_isWord (Cond.code yX11_isWord cX11_isWord 3 (some .boolean) :: ab_G) ({ frames := 1, cells := 0, slots := 0, locals := 100 } : Room) f_X11_isWord) {f_X11_looksAt : List Value → ab_H → Option ab_O} (h_X11_looksAt : ab_M l b D ab_cl cA (ab_E0 b) yX11_looksAt (Cond.code yX11_looksAt cX11_looksAt 3 (some .boolean) :: ab_G) ({ frames := 2, cells := 0, slots := 0, locals := 200 } : Room) f_X11_looksAt) {f_X11_bad : List Value → ab_H → Option ab_O} (h_X11_bad : ab_M l b D ab_cl cA (ab_E0 b) yX11_bad (Cond.code yX11_bad cX11_bad 2 (some .boolean) :: ab_G) ({ frames := 1, cells := 0, slots := 0, locals := 100 } : Room) f_X11_bad) {f_X11_next : List Value → ab_H → Option ab_O} (h_X11_next : ab_M l b D ab_cl cA (ab_E0 b) yX11_next (Cond.code yX11_next cX11_next 4 none :: ab_G) ({ frames := 2, cells := 0, slots := 0, locals := 200 } : Room) f_X11_next) {f_X11_takes : List Value → ab_H → Option ab_O} (h_X11_takes : ab_M l b D ab_cl cA (ab_E0 b) yX11_takes (Cond.code yX11_takes cX11_takes 3 (some .boolean) :: ab_G) ({ frames := 3, cells := 0, slots := 0, locals := 300 } : Room) f_X11_takes) {f_X11_takesName : List Value → ab_H → Option ab_O} (h_X11_takesName : ab_M l b D ab_cl cA (ab_E0 b) yX11_takesName (Cond.code yX11_takesName cX11_takesName 3 (some .boolean) :: ab_G) ({ frames := 3, cells := 0, slots := 0, locals := 300 } : Room) f_X11_takesName) : ab_M l b D ab_cl cA (ab_E0 b) yX11_logLine (Cond.code yX11_logLine cX11_logLine 3 (some .boolean) :: ab_G) ({ frames := 4, cells := 0, slots := 0, locals := 400 } : Room) (ab_X (ab_T (L_X11_logLine f_X11_isWord f_X11_looksAt f_X11_bad f_X11_next f_X11_takes f_X11_takesName)) 3) := by
  refine ab_meth (ret := (some .boolean)) (L_X11_logLine f_X11_isWord f_X11_looksAt f_X11_bad f_X11_next f_X11_takes f_X11_takesName) (by decide) rfl fun p e R s m args below meth c o C => ?_
  unfold L_X11_logLine
  refine List.forall_mem_cons.mpr ⟨ok_iconst C (show decode cX11_logLine 0 = .ok (.iconst 4, 1) from dk_at dq41_4 (i := 0) rfl) (by decide) rfl, ?_⟩
  refine List.forall_mem_cons.mpr ⟨ok_aload_n C (show decode cX11_logLine 1 = .ok (.aload_n 0, 1) from dk_at dq41_4 (i := 1) rfl) rfl rfl, ?_⟩
  refine List.forall_mem_cons.mpr ⟨ok_getf C (wi_X11) rfl (by decide) kw_1210 (show decode cX11_logLine 2 = .ok (.getfield 348, 3) from dk_at dq41_4 (i := 2) rfl) rfl, ?_⟩
  refine List.forall_mem_cons.mpr ⟨ok_imul C (show decode cX11_logLine 5 = .ok (.imul, 1) from dk_at dq41_4 (i := 3) rfl) rfl, ?_⟩
  refine List.forall_mem_cons.mpr ⟨ok_istore_n C (show decode cX11_logLine 6 = .ok (.istore_n 1, 1) from dk_at dq41_4 (i := 4) rfl) rfl (by decide) rfl, ?_⟩
  refine List.forall_mem_cons.mpr ⟨ok_aload_n C (show decode cX11_logLine 7 = .ok (.aload_n 0, 1) from dk_at dq41_4 (i := 5) rfl) rfl rfl, ?_⟩
  refine List.forall_mem_cons.mpr ⟨ok_ldc2 C (show decode cX11_logLine 8 = .ok (.ldc2_w 103, 3) from dk_at dq41_4 (i := 6) rfl) (gm kw_1163) rfl, ?_⟩
  refine List.forall_mem_cons.mpr ⟨ok_callV C h_X11_isWord ⟨rfl, rfl⟩ rfl kw_1340 kw_1337 kw_1339 kp_52 kw_11 rfl ds_X11_isWord ⟨by decide, by decide⟩ (show decode cX11_logLine 11 = .ok (.invokevirtual 201, 3) from dk_at dq41_4 (i := 7) rfl) rfl, ?_⟩
  refine List.forall_mem_cons.mpr ⟨ok_ifeq C (show decode cX11_logLine 14 = .ok (.ifCond .eq 7, 3) from dk_at dq41_4 (i := 8) rfl) (tg := 21) (by decide) rfl rfl, ?_⟩
  refine List.forall_mem_cons.mpr ⟨ok_iconst C (show decode cX11_logLine 17 = .ok (.iconst 0, 1) from dk_at dq41_4 (i := 9) rfl) (by decide) rfl, ?_⟩
  refine List.forall_mem_cons.mpr ⟨ok_goto C (show decode cX11_logLine 18 = .ok (.goto 46, 3) from dk_at dq41_4 (i := 10) rfl) (tg := 64) (by decide) rfl, ?_⟩
  refine List.forall_mem_cons.mpr ⟨ok_aload_n C (show decode cX11_logLine 21 = .ok (.aload_n 0, 1) from dk_at dq41_4 (i := 11) rfl) rfl rfl, ?_⟩
  refine List.forall_mem_cons.mpr ⟨ok_ldc2 C (show decode cX11_logLine 22 = .ok (.ldc2_w 105, 3) from dk_at dq41_4 (i := 12) rfl) (gm kw_1164) rfl, ?_⟩
  refine List.forall_mem_cons.mpr ⟨ok_callV C h_X11_isWord ⟨rfl, rfl⟩ rfl kw_1340 kw_1337 kw_1339 kp_52 kw_11 rfl ds_X11_isWord ⟨by decide, by decide⟩ (show decode cX11_logLine 25 = .ok (.invokevirtual 201, 3) from dk_at dq41_4 (i := 13) rfl) rfl, ?_⟩
  refine List.forall_mem_cons.mpr ⟨ok_ifeq C (show decode cX11_logLine 28 = .ok (.ifCond .eq 7, 3) from dk_at dq41_4 (i := 14) rfl) (tg := 35) (by decide) rfl rfl, ?_⟩
  refine List.forall_mem_cons.mpr ⟨ok_iconst C (show decode cX11_logLine 31 = .ok (.iconst 1, 1) from dk_at dq41_4 (i := 15) rfl) (by decide) rfl, ?_⟩
  refine List.forall_mem_cons.mpr ⟨ok_goto C (show decode cX11_logLine 32 = .ok (.goto 32, 3) from dk_at dq41_5 (i := 0) rfl) (tg := 64) (by decide) rfl, ?_⟩
  refine List.forall_mem_cons.mpr ⟨ok_aload_n C (show decode cX11_logLine 35 = .ok (.aload_n 0, 1) from dk_at dq41_5 (i := 1) rfl) rfl rfl, ?_⟩
  refine List.forall_mem_cons.mpr ⟨ok_ldc2 C (show decode cX11_logLine 36 = .ok (.ldc2_w 107, 3) from dk_at dq41_5 (i := 2) rfl) (gm kw_1165) rfl, ?_⟩
  refine List.forall_mem_cons.mpr ⟨ok_callV C h_X11_isWord ⟨rfl, rfl⟩ rfl kw_1340 kw_1337 kw_1339 kp_52 kw_11 rfl ds_X11_isWord ⟨by decide, by decide⟩ (show decode cX11_logLine 39 = .ok (.invokevirtual 201, 3) from dk_at dq41_5 (i := 3) rfl) rfl, ?_⟩
  refine List.forall_mem_cons.mpr ⟨ok_ifeq C (show decode cX11_logLine 42 = .ok (.ifCond .eq 7, 3) from dk_at dq41_5 (i := 4) rfl) (tg := 49) (by decide) rfl rfl, ?_⟩
  refine List.forall_mem_cons.mpr ⟨ok_iconst C (show decode cX11_logLine 45 = .ok (.iconst 2, 1) from dk_at dq41_5 (i := 5) rfl) (by decide) rfl, ?_⟩
  refine List.forall_mem_cons.mpr ⟨ok_goto C (show decode cX11_logLine 46 = .ok (.goto 18, 3) from dk_at dq41_5 (i := 6) rfl) (tg := 64) (by decide) rfl, ?_⟩
  refine List.forall_mem_cons.mpr ⟨ok_aload_n C (show decode cX11_logLine 49 = .ok (.aload_n 0, 1) from dk_at dq41_5 (i := 7) rfl) rfl rfl, ?_⟩
  refine List.forall_mem_cons.mpr ⟨ok_ldc2 C (show decode cX11_logLine 50 = .ok (.ldc2_w 111, 3) from dk_at dq41_5 (i := 8) rfl) (gm kw_1167) rfl, ?_⟩
  refine List.forall_mem_cons.mpr ⟨ok_callV C h_X11_isWord ⟨rfl, rfl⟩ rfl kw_1340 kw_1337 kw_1339 kp_52 kw_11 rfl ds_X11_isWord ⟨by decide, by decide⟩ (show decode cX11_logLine 53 = .ok (.invokevirtual 201, 3) from dk_at dq41_5 (i := 9) rfl) rfl, ?_⟩
  refine List.forall_mem_cons.mpr ⟨ok_ifeq C (show decode cX11_logLine 56 = .ok (.ifCond .eq 7, 3) from dk_at dq41_5 (i := 10) rfl) (tg := 63) (by decide) rfl rfl, ?_⟩
  refine List.forall_mem_cons.mpr ⟨ok_iconst C (show decode cX11_logLine 59 = .ok (.iconst 4, 1) from dk_at dq41_5 (i := 11) rfl) (by decide) rfl, ?_⟩
  refine List.forall_mem_cons.mpr ⟨ok_goto C (show decode cX11_logLine 60 = .ok (.goto 4, 3) from dk_at dq41_5 (i := 12) rfl) (tg := 64) (by decide) rfl, ?_⟩
  refine List.forall_mem_cons.mpr ⟨ok_iconst C (show decode cX11_logLine 63 = .ok (.iconst 3, 1) from dk_at dq41_5 (i := 13) rfl) (by decide) rfl, ?_⟩
  refine List.forall_mem_cons.mpr ⟨ok_istore_n C (show decode cX11_logLine 64 = .ok (.istore_n 2, 1) from dk_at dq41_5 (i := 14) rfl) rfl (by decide) rfl, ?_⟩
  refine List.forall_mem_cons.mpr ⟨ok_iload_n C (show decode cX11_logLine 65 = .ok (.iload_n 2, 1) from dk_at dq41_5 (i := 15) rfl) rfl rfl, ?_⟩
  refine List.forall_mem_cons.mpr ⟨ok_iconst C (show decode cX11_logLine 66 = .ok (.iconst 3, 1) from dk_at dq41_6 (i := 0) rfl) (by decide) rfl, ?_⟩
  refine List.forall_mem_cons.mpr ⟨ok_icmpne C (show decode cX11_logLine 67 = .ok (.if_icmp .ne 20, 3) from dk_at dq41_6 (i := 1) rfl) (tg := 87) (by decide) rfl rfl, ?_⟩
  refine List.forall_mem_cons.mpr ⟨ok_aload_n C (show decode cX11_logLine 70 = .ok (.aload_n 0, 1) from dk_at dq41_6 (i := 2) rfl) rfl rfl, ?_⟩
  refine List.forall_mem_cons.mpr ⟨ok_bipush C (show decode cX11_logLine 71 = .ok (.bipush 6, 2) from dk_at dq41_6 (i := 3) rfl) (by decide) rfl, ?_⟩
  refine List.forall_mem_cons.mpr ⟨ok_aload_n C (show decode cX11_logLine 73 = .ok (.aload_n 0, 1) from dk_at dq41_6 (i := 4) rfl) rfl rfl, ?_⟩
  refine List.forall_mem_cons.mpr ⟨ok_getf C (wi_X11) rfl (by decide) kw_1186 (show decode cX11_logLine 74 = .ok (.getfield 33, 3) from dk_at dq41_6 (i := 5) rfl) rfl, ?_⟩
  refine List.forall_mem_cons.mpr ⟨ok_iconst C (show decode cX11_logLine 77 = .ok (.iconst 1, 1) from dk_at dq41_6 (i := 6) rfl) (by decide) rfl, ?_⟩
  refine List.forall_mem_cons.mpr ⟨ok_iaload C (show decode cX11_logLine 78 = .ok (.iaload, 1) from dk_at dq41_6 (i := 7) rfl) rfl, ?_⟩
  refine List.forall_mem_cons.mpr ⟨ok_callV C h_X11_looksAt ⟨rfl, rfl⟩ rfl kw_1379 kw_1376 kw_1378 kp_61 kw_11 rfl ds_X11_looksAt ⟨by decide, by decide⟩ (show decode cX11_logLine 79 = .ok (.invokevirtual 198, 3) from dk_at dq41_6 (i := 8) rfl) rfl, ?_⟩
  refine List.forall_mem_cons.mpr ⟨ok_ifne C (show decode cX11_logLine 82 = .ok (.ifCond .ne 5, 3) from dk_at dq41_6 (i := 9) rfl) (tg := 87) (by decide) rfl rfl, ?_⟩
  refine List.forall_mem_cons.mpr ⟨ok_iconst C (show decode cX11_logLine 85 = .ok (.iconst 0, 1) from dk_at dq41_6 (i := 10) rfl) (by decide) rfl, ?_⟩
  refine List.forall_mem_cons.mpr ⟨ok_zret C rfl (show decode cX11_logLine 86 = .ok (.ireturn, 1) from dk_at dq41_6 (i := 11) rfl), ?_⟩
  refine List.forall_mem_cons.mpr ⟨ok_aload_n C (show decode cX11_logLine 87 = .ok (.aload_n 0, 1) from dk_at dq41_6 (i := 12) rfl) rfl rfl, ?_⟩
  refine List.forall_mem_cons.mpr ⟨ok_getf C (wi_X11) rfl (by decide) kw_1210 (show decode cX11_logLine 88 = .ok (.getfield 348, 3) from dk_at dq41_6 (i := 13) rfl) rfl, ?_⟩
  refine List.forall_mem_cons.mpr ⟨ok_bipush C (show decode cX11_logLine 91 = .ok (.bipush 40, 2) from dk_at dq41_6 (i := 14) rfl) (by decide) rfl, ?_⟩
  refine List.forall_mem_cons.mpr ⟨ok_icmpne C (show decode cX11_logLine 93 = .ok (.if_icmp .ne 9, 3) from dk_at dq41_6 (i := 15) rfl) (tg := 102) (by decide) rfl rfl, ?_⟩
  refine List.forall_mem_cons.mpr ⟨ok_aload_n C (show decode cX11_logLine 96 = .ok (.aload_n 0, 1) from dk_at dq41_7 (i := 0) rfl) rfl rfl, ?_⟩
  refine List.forall_mem_cons.mpr ⟨ok_iconst C (show decode cX11_logLine 97 = .ok (.iconst 4, 1) from dk_at dq41_7 (i := 1) rfl) (by decide) rfl, ?_⟩
  refine List.forall_mem_cons.mpr ⟨ok_callV C h_X11_bad ⟨rfl, rfl⟩ rfl kw_1344 kw_1341 kw_1343 kp_53 kw_11 rfl ds_X11_bad ⟨by decide, by decide⟩ (show decode cX11_logLine 98 = .ok (.invokevirtual 173, 3) from dk_at dq41_7 (i := 2) rfl) rfl, ?_⟩
  refine List.forall_mem_cons.mpr ⟨ok_zret C rfl (show decode cX11_logLine 101 = .ok (.ireturn, 1) from dk_at dq41_7 (i := 3) rfl), ?_⟩
  refine List.forall_mem_cons.mpr ⟨ok_aload_n C (show decode cX11_logLine 102 = .ok (.aload_n 0, 1) from dk_at dq41_7 (i := 4) rfl) rfl rfl, ?_⟩
  refine List.forall_mem_cons.mpr ⟨ok_getf C (wi_X11) rfl (by decide) kw_1188 (show decode cX11_logLine 103 = .ok (.getfield 40, 3) from dk_at dq41_7 (i := 5) rfl) rfl, ?_⟩
  refine List.forall_mem_cons.mpr ⟨ok_iload_n C (show decode cX11_logLine 106 = .ok (.iload_n 1, 1) from dk_at dq41_7 (i := 6) rfl) rfl rfl, ?_⟩
  refine List.forall_mem_cons.mpr ⟨ok_iload_n C (show decode cX11_logLine 107 = .ok (.iload_n 2, 1) from dk_at dq41_7 (i := 7) rfl) rfl rfl, ?_⟩
  refine List.forall_mem_cons.mpr ⟨ok_iastore C (show decode cX11_logLine 108 = .ok (.iastore, 1) from dk_at dq41_7 (i := 8) rfl) rfl, ?_⟩
  refine List.forall_mem_cons.mpr ⟨ok_aload_n C (show decode cX11_logLine 109 = .ok (.aload_n 0, 1) from dk_at dq41_7 (i := 9) rfl) rfl rfl, ?_⟩
  refine List.forall_mem_cons.mpr ⟨ok_getf C (wi_X11) rfl (by decide) kw_1188 (show decode cX11_logLine 110 = .ok (.getfield 40, 3) from dk_at dq41_7 (i := 10) rfl) rfl, ?_⟩
  refine List.forall_mem_cons.mpr ⟨ok_iload_n C (show decode cX11_logLine 113 = .ok (.iload_n 1, 1) from dk_at dq41_7 (i := 11) rfl) rfl rfl, ?_⟩
  refine List.forall_mem_cons.mpr ⟨ok_iconst C (show decode cX11_logLine 114 = .ok (.iconst 1, 1) from dk_at dq41_7 (i := 12) rfl) (by decide) rfl, ?_⟩
  refine List.forall_mem_cons.mpr ⟨ok_iadd C (show decode cX11_logLine 115 = .ok (.iadd, 1) from dk_at dq41_7 (i := 13) rfl) rfl, ?_⟩
  refine List.forall_mem_cons.mpr ⟨ok_aload_n C (show decode cX11_logLine 116 = .ok (.aload_n 0, 1) from dk_at dq41_7 (i := 14) rfl) rfl rfl, ?_⟩
  refine List.forall_mem_cons.mpr ⟨ok_getf C (wi_X11) rfl (by decide) kw_1198 (show decode cX11_logLine 117 = .ok (.getfield 183, 3) from dk_at dq41_7 (i := 15) rfl) rfl, ?_⟩
  refine List.forall_mem_cons.mpr ⟨ok_iastore C (show decode cX11_logLine 120 = .ok (.iastore, 1) from dk_at dq41_8 (i := 0) rfl) rfl, ?_⟩
  refine List.forall_mem_cons.mpr ⟨ok_aload_n C (show decode cX11_logLine 121 = .ok (.aload_n 0, 1) from dk_at dq41_8 (i := 1) rfl) rfl rfl, ?_⟩
  refine List.forall_mem_cons.mpr ⟨ok_callV C h_X11_next ⟨rfl, rfl⟩ rfl kw_1322 kw_1319 kw_1321 kp_49 kw_11 rfl ds_X11_next ⟨by decide, by decide⟩ (show decode cX11_logLine 122 = .ok (.invokevirtual 176, 3) from dk_at dq41_8 (i := 2) rfl) rfl, ?_⟩
  refine List.forall_mem_cons.mpr ⟨ok_iload_n C (show decode cX11_logLine 125 = .ok (.iload_n 2, 1) from dk_at dq41_8 (i := 3) rfl) rfl rfl, ?_⟩
  refine List.forall_mem_cons.mpr ⟨ok_iconst C (show decode cX11_logLine 126 = .ok (.iconst 3, 1) from dk_at dq41_8 (i := 4) rfl) (by decide) rfl, ?_⟩
  refine List.forall_mem_cons.mpr ⟨ok_icmpne C (show decode cX11_logLine 127 = .ok (.if_icmp .ne 25, 3) from dk_at dq41_8 (i := 5) rfl) (tg := 152) (by decide) rfl rfl, ?_⟩
  refine List.forall_mem_cons.mpr ⟨ok_aload_n C (show decode cX11_logLine 130 = .ok (.aload_n 0, 1) from dk_at dq41_8 (i := 6) rfl) rfl rfl, ?_⟩
  refine List.forall_mem_cons.mpr ⟨ok_ldc2 C (show decode cX11_logLine 131 = .ok (.ldc2_w 109, 3) from dk_at dq41_8 (i := 7) rfl) (gm kw_1166) rfl, ?_⟩
  refine List.forall_mem_cons.mpr ⟨ok_callV C h_X11_isWord ⟨rfl, rfl⟩ rfl kw_1340 kw_1337 kw_1339 kp_52 kw_11 rfl ds_X11_isWord ⟨by decide, by decide⟩ (show decode cX11_logLine 134 = .ok (.invokevirtual 201, 3) from dk_at dq41_8 (i := 8) rfl) rfl, ?_⟩
  refine List.forall_mem_cons.mpr ⟨ok_ifne C (show decode cX11_logLine 137 = .ok (.ifCond .ne 9, 3) from dk_at dq41_8 (i := 9) rfl) (tg := 146) (by decide) rfl rfl, ?_⟩
  refine List.forall_mem_cons.mpr ⟨ok_aload_n C (show decode cX11_logLine 140 = .ok (.aload_n 0, 1) from dk_at dq41_8 (i := 10) rfl) rfl rfl, ?_⟩
  refine List.forall_mem_cons.mpr ⟨ok_iconst C (show decode cX11_logLine 141 = .ok (.iconst 1, 1) from dk_at dq41_8 (i := 11) rfl) (by decide) rfl, ?_⟩
  refine List.forall_mem_cons.mpr ⟨ok_callV C h_X11_bad ⟨rfl, rfl⟩ rfl kw_1344 kw_1341 kw_1343 kp_53 kw_11 rfl ds_X11_bad ⟨by decide, by decide⟩ (show decode cX11_logLine 142 = .ok (.invokevirtual 173, 3) from dk_at dq41_8 (i := 12) rfl) rfl, ?_⟩
  refine List.forall_mem_cons.mpr ⟨ok_zret C rfl (show decode cX11_logLine 145 = .ok (.ireturn, 1) from dk_at dq41_8 (i := 13) rfl), ?_⟩
  refine List.forall_mem_cons.mpr ⟨ok_aload_n C (show decode cX11_logLine 146 = .ok (.aload_n 0, 1) from dk_at dq41_8 (i := 14) rfl) rfl rfl, ?_⟩
  refine List.forall_mem_cons.mpr ⟨ok_callV C h_X11_next ⟨rfl, rfl⟩ rfl kw_1322 kw_1319 kw_1321 kp_49 kw_11 rfl ds_X11_next ⟨by decide, by decide⟩ (show decode cX11_logLine 147 = .ok (.invokevirtual 176, 3) from dk_at dq41_8 (i := 15) rfl) rfl, ?_⟩
  refine List.forall_mem_cons.mpr ⟨ok_iconst C (show decode cX11_logLine 150 = .ok (.iconst 1, 1) from dk_at dq41_9 (i := 0) rfl) (by decide) rfl, ?_⟩
  refine List.forall_mem_cons.mpr ⟨ok_zret C rfl (show decode cX11_logLine 151 = .ok (.ireturn, 1) from dk_at dq41_9 (i := 1) rfl), ?_⟩
  refine List.forall_mem_cons.mpr ⟨ok_iload_n C (show decode cX11_logLine 152 = .ok (.iload_n 2, 1) from dk_at dq41_9 (i := 2) rfl) rfl rfl, ?_⟩
  refine List.forall_mem_cons.mpr ⟨ok_iconst C (show decode cX11_logLine 153 = .ok (.iconst 4, 1) from dk_at dq41_9 (i := 3) rfl) (by decide) rfl, ?_⟩
  refine List.forall_mem_cons.mpr ⟨ok_icmpne C (show decode cX11_logLine 154 = .ok (.if_icmp .ne 29, 3) from dk_at dq41_9 (i := 4) rfl) (tg := 183) (by decide) rfl rfl, ?_⟩
  refine List.forall_mem_cons.mpr ⟨ok_aload_n C (show decode cX11_logLine 157 = .ok (.aload_n 0, 1) from dk_at dq41_9 (i := 5) rfl) rfl rfl, ?_⟩
  refine List.forall_mem_cons.mpr ⟨ok_iconst C (show decode cX11_logLine 158 = .ok (.iconst 1, 1) from dk_at dq41_9 (i := 6) rfl) (by decide) rfl, ?_⟩
  refine List.forall_mem_cons.mpr ⟨ok_bipush C (show decode cX11_logLine 159 = .ok (.bipush 60, 2) from dk_at dq41_9 (i := 7) rfl) (by decide) rfl, ?_⟩
  refine List.forall_mem_cons.mpr ⟨ok_callV C h_X11_takes ⟨rfl, rfl⟩ rfl kw_1352 kw_1349 kw_1351 kp_55 kw_11 rfl ds_X11_takes ⟨by decide, by decide⟩ (show decode cX11_logLine 161 = .ok (.invokevirtual 186, 3) from dk_at dq41_9 (i := 8) rfl) rfl, ?_⟩
  refine List.forall_mem_cons.mpr ⟨ok_ifne C (show decode cX11_logLine 164 = .ok (.ifCond .ne 5, 3) from dk_at dq41_9 (i := 9) rfl) (tg := 169) (by decide) rfl rfl, ?_⟩
  refine List.forall_mem_cons.mpr ⟨ok_iconst C (show decode cX11_logLine 167 = .ok (.iconst 0, 1) from dk_at dq41_9 (i := 10) rfl) (by decide) rfl, ?_⟩
  refine List.forall_mem_cons.mpr ⟨ok_zret C rfl (show decode cX11_logLine 168 = .ok (.ireturn, 1) from dk_at dq41_9 (i := 11) rfl), ?_⟩
  refine List.forall_mem_cons.mpr ⟨ok_aload_n C (show decode cX11_logLine 169 = .ok (.aload_n 0, 1) from dk_at dq41_9 (i := 12) rfl) rfl rfl, ?_⟩
  refine List.forall_mem_cons.mpr ⟨ok_getf C (wi_X11) rfl (by decide) kw_1188 (show decode cX11_logLine 170 = .ok (.getfield 40, 3) from dk_at dq41_9 (i := 13) rfl) rfl, ?_⟩
  refine List.forall_mem_cons.mpr ⟨ok_iload_n C (show decode cX11_logLine 173 = .ok (.iload_n 1, 1) from dk_at dq41_9 (i := 14) rfl) rfl rfl, ?_⟩
  refine List.forall_mem_cons.mpr ⟨ok_iconst C (show decode cX11_logLine 174 = .ok (.iconst 1, 1) from dk_at dq41_9 (i := 15) rfl) (by decide) rfl, ?_⟩
  refine List.forall_mem_cons.mpr ⟨ok_iadd C (show decode cX11_logLine 175 = .ok (.iadd, 1) from dk_at dq41_10 (i := 0) rfl) rfl, ?_⟩
  refine List.forall_mem_cons.mpr ⟨ok_aload_n C (show decode cX11_logLine 176 = .ok (.aload_n 0, 1) from dk_at dq41_10 (i := 1) rfl) rfl rfl, ?_⟩
  refine List.forall_mem_cons.mpr ⟨ok_getf C (wi_X11) rfl (by decide) kw_1198 (show decode cX11_logLine 177 = .ok (.getfield 183, 3) from dk_at dq41_10 (i := 2) rfl) rfl, ?_⟩
  refine List.forall_mem_cons.mpr ⟨ok_iastore C (show decode cX11_logLine 180 = .ok (.iastore, 1) from dk_at dq41_10 (i := 3) rfl) rfl, ?_⟩
  refine List.forall_mem_cons.mpr ⟨ok_iconst C (show decode cX11_logLine 181 = .ok (.iconst 1, 1) from dk_at dq41_10 (i := 4) rfl) (by decide) rfl, ?_⟩
  refine List.forall_mem_cons.mpr ⟨ok_zret C rfl (show decode cX11_logLine 182 = .ok (.ireturn, 1) from dk_at dq41_10 (i := 5) rfl), ?_⟩
  refine List.forall_mem_cons.mpr ⟨ok_aload_n C (show decode cX11_logLine 183 = .ok (.aload_n 0, 1) from dk_at dq41_10 (i := 6) rfl) rfl rfl, ?_⟩
  refine List.forall_mem_cons.mpr ⟨ok_iconst C (show decode cX11_logLine 184 = .ok (.iconst 0, 1) from dk_at dq41_10 (i := 7) rfl) (by decide) rfl, ?_⟩
  refine List.forall_mem_cons.mpr ⟨ok_aload_n C (show decode cX11_logLine 185 = .ok (.aload_n 0, 1) from dk_at dq41_10 (i := 8) rfl) rfl rfl, ?_⟩
  refine List.forall_mem_cons.mpr ⟨ok_getf C (wi_X11) rfl (by decide) kw_1186 (show decode cX11_logLine 186 = .ok (.getfield 33, 3) from dk_at dq41_10 (i := 9) rfl) rfl, ?_⟩
  refine List.forall_mem_cons.mpr ⟨ok_iconst C (show decode cX11_logLine 189 = .ok (.iconst 0, 1) from dk_at dq41_10 (i := 10) rfl) (by decide) rfl, ?_⟩
  refine List.forall_mem_cons.mpr ⟨ok_iaload C (show decode cX11_logLine 190 = .ok (.iaload, 1) from dk_at dq41_10 (i := 11) rfl) rfl, ?_⟩
  refine List.forall_mem_cons.mpr ⟨ok_callV C h_X11_takesName ⟨rfl, rfl⟩ rfl kw_1375 kw_1372 kw_1374 kp_60 kw_11 rfl ds_X11_takesName ⟨by decide, by decide⟩ (show decode cX11_logLine 191 = .ok (.invokevirtual 218, 3) from dk_at dq41_10 (i := 12) rfl) rfl, ?_⟩
  refine List.forall_mem_cons.mpr ⟨ok_ifne C (show decode cX11_logLine 194 = .ok (.ifCond .ne 5, 3) from dk_at dq41_10 (i := 13) rfl) (tg := 199) (by decide) rfl rfl, ?_⟩
  refine List.forall_mem_cons.mpr ⟨ok_iconst C (show decode cX11_logLine 197 = .ok (.iconst 0, 1) from dk_at dq41_10 (i := 14) rfl) (by decide) rfl, ?_⟩
  refine List.forall_mem_cons.mpr ⟨ok_zret C rfl (show decode cX11_logLine 198 = .ok (.ireturn, 1) from dk_at dq41_10 (i := 15) rfl), ?_⟩
  refine List.forall_mem_cons.mpr ⟨ok_aload_n C (show decode cX11_logLine 199 = .ok (.aload_n 0, 1) from dk_at dq41_11 (i := 0) rfl) rfl rfl, ?_⟩
  refine List.forall_mem_cons.mpr ⟨ok_getf C (wi_X11) rfl (by decide) kw_1188 (show decode cX11_logLine 200 = .ok (.getfield 40, 3) from dk_at dq41_11 (i := 1) rfl) rfl, ?_⟩
  refine List.forall_mem_cons.mpr ⟨ok_iload_n C (show decode cX11_logLine 203 = .ok (.iload_n 1, 1) from dk_at dq41_11 (i := 2) rfl) rfl rfl, ?_⟩
  refine List.forall_mem_cons.mpr ⟨ok_iconst C (show decode cX11_logLine 204 = .ok (.iconst 1, 1) from dk_at dq41_11 (i := 3) rfl) (by decide) rfl, ?_⟩
  refine List.forall_mem_cons.mpr ⟨ok_iadd C (show decode cX11_logLine 205 = .ok (.iadd, 1) from dk_at dq41_11 (i := 4) rfl) rfl, ?_⟩
  refine List.forall_mem_cons.mpr ⟨ok_aload_n C (show decode cX11_logLine 206 = .ok (.aload_n 0, 1) from dk_at dq41_11 (i := 5) rfl) rfl rfl, ?_⟩
  refine List.forall_mem_cons.mpr ⟨ok_getf C (wi_X11) rfl (by decide) kw_1198 (show decode cX11_logLine 207 = .ok (.getfield 183, 3) from dk_at dq41_11 (i := 6) rfl) rfl, ?_⟩
  refine List.forall_mem_cons.mpr ⟨ok_iastore C (show decode cX11_logLine 210 = .ok (.iastore, 1) from dk_at dq41_11 (i := 7) rfl) rfl, ?_⟩
  refine List.forall_mem_cons.mpr ⟨ok_aload_n C (show decode cX11_logLine 211 = .ok (.aload_n 0, 1) from dk_at dq41_11 (i := 8) rfl) rfl rfl, ?_⟩
  refine List.forall_mem_cons.mpr ⟨ok_iconst C (show decode cX11_logLine 212 = .ok (.iconst 0, 1) from dk_at dq41_11 (i := 9) rfl) (by decide) rfl, ?_⟩
  refine List.forall_mem_cons.mpr ⟨ok_iconst C (show decode cX11_logLine 213 = .ok (.iconst 1, 1) from dk_at dq41_11 (i := 10) rfl) (by decide) rfl, ?_⟩
  refine List.forall_mem_cons.mpr ⟨ok_callV C h_X11_takes ⟨rfl, rfl⟩ rfl kw_1352 kw_1349 kw_1351 kp_55 kw_11 rfl ds_X11_takes ⟨by decide, by decide⟩ (show decode cX11_logLine 214 = .ok (.invokevirtual 186, 3) from dk_at dq41_11 (i := 11) rfl) rfl, ?_⟩
  refine List.forall_mem_cons.mpr ⟨ok_ifne C (show decode cX11_logLine 217 = .ok (.ifCond .ne 5, 3) from dk_at dq41_11 (i := 12) rfl) (tg := 222) (by decide) rfl rfl, ?_⟩
  refine List.forall_mem_cons.mpr ⟨ok_iconst C (show decode cX11_logLine 220 = .ok (.iconst 0, 1) from dk_at dq41_11 (i := 13) rfl) (by decide) rfl, ?_⟩
  refine List.forall_mem_cons.mpr ⟨ok_zret C rfl (show decode cX11_logLine 221 = .ok (.ireturn, 1) from dk_at dq41_11 (i := 14) rfl), ?_⟩
  refine List.forall_mem_cons.mpr ⟨ok_aload_n C (show decode cX11_logLine 222 = .ok (.aload_n 0, 1) from dk_at dq41_11 (i := 15) rfl) rfl rfl, ?_⟩
  refine List.forall_mem_cons.mpr ⟨ok_getf C (wi_X11) rfl (by decide) kw_1188 (show decode cX11_logLine 223 = .ok (.getfield 40, 3) from dk_at dq41_12 (i := 0) rfl) rfl, ?_⟩
  refine List.forall_mem_cons.mpr ⟨ok_iload_n C (show decode cX11_logLine 226 = .ok (.iload_n 1, 1) from dk_at dq41_12 (i := 1) rfl) rfl rfl, ?_⟩
  refine List.forall_mem_cons.mpr ⟨ok_iconst C (show decode cX11_logLine 227 = .ok (.iconst 2, 1) from dk_at dq41_12 (i := 2) rfl) (by decide) rfl, ?_⟩
  refine List.forall_mem_cons.mpr ⟨ok_iadd C (show decode cX11_logLine 228 = .ok (.iadd, 1) from dk_at dq41_12 (i := 3) rfl) rfl, ?_⟩
  refine List.forall_mem_cons.mpr ⟨ok_aload_n C (show decode cX11_logLine 229 = .ok (.aload_n 0, 1) from dk_at dq41_12 (i := 4) rfl) rfl rfl, ?_⟩
  refine List.forall_mem_cons.mpr ⟨ok_getf C (wi_X11) rfl (by decide) kw_1198 (show decode cX11_logLine 230 = .ok (.getfield 183, 3) from dk_at dq41_12 (i := 5) rfl) rfl, ?_⟩
  refine List.forall_mem_cons.mpr ⟨ok_iastore C (show decode cX11_logLine 233 = .ok (.iastore, 1) from dk_at dq41_12 (i := 6) rfl) rfl, ?_⟩
  refine List.forall_mem_cons.mpr ⟨ok_aload_n C (show decode cX11_logLine 234 = .ok (.aload_n 0, 1) from dk_at dq41_12 (i := 7) rfl) rfl rfl, ?_⟩
  refine List.forall_mem_cons.mpr ⟨ok_iconst C (show decode cX11_logLine 235 = .ok (.iconst 1, 1) from dk_at dq41_12 (i := 8) rfl) (by decide) rfl, ?_⟩
  refine List.forall_mem_cons.mpr ⟨ok_sipush C (show decode cX11_logLine 236 = .ok (.sipush 250, 3) from dk_at dq41_12 (i := 9) rfl) (by decide) rfl, ?_⟩
  refine List.forall_mem_cons.mpr ⟨ok_callV C h_X11_takes ⟨rfl, rfl⟩ rfl kw_1352 kw_1349 kw_1351 kp_55 kw_11 rfl ds_X11_takes ⟨by decide, by decide⟩ (show decode cX11_logLine 239 = .ok (.invokevirtual 186, 3) from dk_at dq41_12 (i := 10) rfl) rfl, ?_⟩
  refine List.forall_mem_cons.mpr ⟨ok_ifne C (show decode cX11_logLine 242 = .ok (.ifCond .ne 5, 3) from dk_at dq41_12 (i := 11) rfl) (tg := 247) (by decide) rfl rfl, ?_⟩
  refine List.forall_mem_cons.mpr ⟨ok_iconst C (show decode cX11_logLine 245 = .ok (.iconst 0, 1) from dk_at dq41_12 (i := 12) rfl) (by decide) rfl, ?_⟩
  refine List.forall_mem_cons.mpr ⟨ok_zret C rfl (show decode cX11_logLine 246 = .ok (.ireturn, 1) from dk_at dq41_12 (i := 13) rfl), ?_⟩
  refine List.forall_mem_cons.mpr ⟨ok_aload_n C (show decode cX11_logLine 247 = .ok (.aload_n 0, 1) from dk_at dq41_12 (i := 14) rfl) rfl rfl, ?_⟩
  refine List.forall_mem_cons.mpr ⟨ok_getf C (wi_X11) rfl (by decide) kw_1188 (show decode cX11_logLine 248 = .ok (.getfield 40, 3) from dk_at dq41_12 (i := 15) rfl) rfl, ?_⟩
  refine List.forall_mem_cons.mpr ⟨ok_iload_n C (show decode cX11_logLine 251 = .ok (.iload_n 1, 1) from dk_at dq41_13 (i := 0) rfl) rfl rfl, ?_⟩
  refine List.forall_mem_cons.mpr ⟨ok_iconst C (show decode cX11_logLine 252 = .ok (.iconst 3, 1) from dk_at dq41_13 (i := 1) rfl) (by decide) rfl, ?_⟩
  refine List.forall_mem_cons.mpr ⟨ok_iadd C (show decode cX11_logLine 253 = .ok (.iadd, 1) from dk_at dq41_13 (i := 2) rfl) rfl, ?_⟩
  refine List.forall_mem_cons.mpr ⟨ok_aload_n C (show decode cX11_logLine 254 = .ok (.aload_n 0, 1) from dk_at dq41_13 (i := 3) rfl) rfl rfl, ?_⟩
  refine List.forall_mem_cons.mpr ⟨ok_getf C (wi_X11) rfl (by decide) kw_1198 (show decode cX11_logLine 255 = .ok (.getfield 183, 3) from dk_at dq41_13 (i := 4) rfl) rfl, ?_⟩
  refine List.forall_mem_cons.mpr ⟨ok_iastore C (show decode cX11_logLine 258 = .ok (.iastore, 1) from dk_at dq41_13 (i := 5) rfl) rfl, ?_⟩
  refine List.forall_mem_cons.mpr ⟨ok_iconst C (show decode cX11_logLine 259 = .ok (.iconst 1, 1) from dk_at dq41_13 (i := 6) rfl) (by decide) rfl, ?_⟩
  refine List.forall_mem_cons.mpr ⟨ok_zret C rfl (show decode cX11_logLine 260 = .ok (.ireturn, 1) from dk_at dq41_13 (i := 7) rfl), ?_⟩
  exact fun _ h => absurd h List.not_mem_nil
def L_X11_does (f_X11_cell : List Value → ab_H → Option ab_O) (f_X11_isDead : List Value → ab_H → Option ab_O) (f_X11_whyBare : List Value → ab_H → Option ab_O) (f_X11_whyHoard : List Value → ab_H → Option ab_O) (f_X11_hoards : List Value → ab_H → Option ab_O) (f_X11_goesOn : List Value → ab_H → Option ab_O) : List (Nat × ab_A) := [
  (0, ab_nx 1 (ab_iload 2)),
  (1, ab_nx 2 (ab_iload 3)),
  (2, ab_nx 5 (ab_call 2 f_X11_cell 0 0 0 0)),
  (5, ab_nx 7 (ab_istore 5)),
  (7, ab_nx 8 (ab_iload 1)),
  (8, ab_nx 9 (ab_lit (.int 3))),
  (9, ab_icmp 12 28 (fun x y => !decide (x = y))),
  (12, ab_nx 13 (ab_aload 0)),
  (13, ab_nx 14 (ab_iload 2)),
  (14, ab_nx 17 (ab_callV 2 11 f_X11_isDead 0 0 0 0)),
  (17, ab_if 20 24 (fun x => decide (x = 0))),
  (20, ab_nx 21 (ab_lit (.int 1))),
  (21, ab_goto 80),
  (24, ab_nx 25 (ab_lit (.int 0))),
  (25, ab_goto 80),
  (28, ab_nx 29 (ab_iload 1)),
  (29, ab_nx 30 (ab_lit (.int 4))),
  (30, ab_icmp 33 56 (fun x y => !decide (x = y))),
  (33, ab_nx 34 (ab_aload 0)),
  (34, ab_nx 37 (ab_getf 11 6)),
  (37, ab_nx 39 (ab_lit (.int 120))),
  (39, ab_nx 40 (ab_ald 1)),
  (40, ab_nx 41 (ab_iload 2)),
  (41, ab_nx 42 (ab_bin (fun x y => x + y))),
  (42, ab_nx 45 (ab_lit (.int 400))),
  (45, ab_icmp 48 52 (fun x y => decide (x ≤ y))),
  (48, ab_nx 49 (ab_lit (.int 1))),
  (49, ab_goto 80),
  (52, ab_nx 53 (ab_lit (.int 0))),
  (53, ab_goto 80),
  (56, ab_nx 57 (ab_iload 1)),
  (57, ab_nx 58 (ab_lit (.int 1))),
  (58, ab_icmp 61 72 (fun x y => !decide (x = y))),
  (61, ab_nx 62 (ab_aload 0)),
  (62, ab_nx 64 (ab_iload 5)),
  (64, ab_nx 66 (ab_iload 4)),
  (66, ab_nx 69 (ab_callV 3 11 f_X11_whyBare 0 0 0 0)),
  (69, ab_goto 80),
  (72, ab_nx 73 (ab_aload 0)),
  (73, ab_nx 75 (ab_iload 5)),
  (75, ab_nx 77 (ab_iload 4)),
  (77, ab_nx 80 (ab_callV 3 11 f_X11_whyHoard 0 0 0 0)),
  (80, ab_nx 82 (ab_istore 6)),
  (82, ab_nx 84 (ab_iload 6)),
  (84, ab_if 87 95 (fun x => decide (x ≤ 0))),
  (87, ab_nx 89 (ab_lit (.int 10))),
  (89, ab_nx 90 (ab_iload 1)),
  (90, ab_nx 91 (ab_bin (fun x y => x * y))),
  (91, ab_nx 93 (ab_iload 6)),
  (93, ab_nx 94 (ab_bin (fun x y => x + y))),
  (94, ab_ret 0 0),
  (95, ab_nx 96 (ab_iload 1)),
  (96, ab_if 99 110 (fun x => !decide (x = 0))),
  (99, ab_nx 100 (ab_aload 0)),
  (100, ab_nx 102 (ab_iload 5)),
  (102, ab_nx 104 (ab_iload 4)),
  (104, ab_nx 107 (ab_callV 3 11 f_X11_hoards 0 0 0 0)),
  (107, ab_goto 178),
  (110, ab_nx 111 (ab_iload 1)),
  (111, ab_nx 112 (ab_lit (.int 1))),
  (112, ab_icmp 115 127 (fun x y => !decide (x = y))),
  (115, ab_nx 116 (ab_aload 0)),
  (116, ab_nx 118 (ab_iload 5)),
  (118, ab_nx 120 (ab_iload 4)),
  (120, ab_nx 121 (ab_un (fun x => -x))),
  (121, ab_nx 124 (ab_callV 3 11 f_X11_hoards 0 0 0 0)),
  (124, ab_goto 178),
  (127, ab_nx 128 (ab_iload 1)),
  (128, ab_nx 129 (ab_lit (.int 2))),
  (129, ab_icmp 132 150 (fun x y => !decide (x = y))),
  (132, ab_nx 133 (ab_aload 0)),
  (133, ab_nx 136 (ab_getf 11 6)),
  (136, ab_nx 138 (ab_lit (.int 124))),
  (138, ab_nx 140 (ab_iload 5)),
  (140, ab_nx 141 (ab_bin (fun x y => x + y))),
  (141, ab_nx 142 ab_dup2),
  (142, ab_nx 143 (ab_ald 1)),
  (143, ab_nx 145 (ab_iload 4)),
  (145, ab_nx 146 (ab_bin (fun x y => x - y))),
  (146, ab_nx 147 (ab_ast 1)),
  (147, ab_goto 178),
  (150, ab_nx 151 (ab_iload 1)),
  (151, ab_nx 152 (ab_lit (.int 3))),
  (152, ab_icmp 155 172 (fun x y => !decide (x = y))),
  (155, ab_nx 156 (ab_aload 0)),
  (156, ab_nx 159 (ab_getf 11 6)),
  (159, ab_nx 162 (ab_lit (.int 180))),
  (162, ab_nx 163 ab_dup2),
  (163, ab_nx 164 (ab_ald 1)),
  (164, ab_nx 165 (ab_lit (.int 1))),
  (165, ab_nx 166 (ab_iload 2)),
  (166, ab_nx 167 (ab_bin (fun x y => x <<< (y &&& 31)))),
  (167, ab_nx 168 (ab_bin (fun x y => x ||| y))),
  (168, ab_nx 169 (ab_ast 1)),
  (169, ab_goto 178),
  (172, ab_nx 173 (ab_aload 0)),
  (173, ab_nx 174 (ab_iload 2)),
  (174, ab_nx 177 (ab_callV 2 11 f_X11_goesOn 0 0 0 0)),
  (177, ab_nx 178 ab_pop),
  (178, ab_nx 179 (ab_lit (.int 0))),
  (179, ab_ret 0 0)]
set_option maxRecDepth 100000 in
theorem dq41_14 : ([(0, .iload_n 2, 1), (1, .iload_n 3, 1), (2, .invokestatic 245, 3), (5, .istore 5, 2), (7, .iload_n 1, 1), (8, .iconst 3, 1), (9, .if_icmp .ne 19, 3), (12, .aload_n 0, 1), (13, .iload_n 2, 1), (14, .invokevirtual 257, 3), (17, .ifCond .eq 7, 3), (20, .iconst 1, 1), (21, .goto 59, 3), (24, .iconst 0, 1), (25, .goto 55, 3), (28, .iload_n 1, 1)] : List (Nat × Instr × Nat)).all (fun q => decide (decode cX11_does q.1 = .ok q.2)) = true := by decide +kernel
set_option maxRecDepth 100000 in
theorem dq41_15 : ([(29, .iconst 4, 1), (30, .if_icmp .ne 26, 3), (33, .aload_n 0, 1), (34, .getfield 33, 3), (37, .bipush 120, 2), (39, .iaload, 1), (40, .iload_n 2, 1), (41, .iadd, 1), (42, .sipush 400, 3), (45, .if_icmp .le 7, 3), (48, .iconst 1, 1), (49, .goto 31, 3), (52, .iconst 0, 1), (53, .goto 27, 3), (56, .iload_n 1, 1), (57, .iconst 1, 1)] : List (Nat × Instr × Nat)).all (fun q => decide (decode cX11_does q.1 = .ok q.2)) = true := by decide +kernel
set_option maxRecDepth 100000 in
theorem dq41_16 : ([(58, .if_icmp .ne 14, 3), (61, .aload_n 0, 1), (62, .iload 5, 2), (64, .iload 4, 2), (66, .invokevirtual 311, 3), (69, .goto 11, 3), (72, .aload_n 0, 1), (73, .iload 5, 2), (75, .iload 4, 2), (77, .invokevirtual 301, 3), (80, .istore 6, 2), (82, .iload 6, 2), (84, .ifCond .le 11, 3), (87, .bipush 10, 2), (89, .iload_n 1, 1), (90, .imul, 1)] : List (Nat × Instr × Nat)).all (fun q => decide (decode cX11_does q.1 = .ok q.2)) = true := by decide +kernel
set_option maxRecDepth 100000 in
theorem dq41_17 : ([(91, .iload 6, 2), (93, .iadd, 1), (94, .ireturn, 1), (95, .iload_n 1, 1), (96, .ifCond .ne 14, 3), (99, .aload_n 0, 1), (100, .iload 5, 2), (102, .iload 4, 2), (104, .invokevirtual 307, 3), (107, .goto 71, 3), (110, .iload_n 1, 1), (111, .iconst 1, 1), (112, .if_icmp .ne 15, 3), (115, .aload_n 0, 1), (116, .iload 5, 2), (118, .iload 4, 2)] : List (Nat × Instr × Nat)).all (fun q => decide (decode cX11_does q.1 = .ok q.2)) = true := by decide +kernel
set_option maxRecDepth 100000 in
theorem dq41_18 : ([(120, .ineg, 1), (121, .invokevirtual 307, 3), (124, .goto 54, 3), (127, .iload_n 1, 1), (128, .iconst 2, 1), (129, .if_icmp .ne 21, 3), (132, .aload_n 0, 1), (133, .getfield 33, 3), (136, .bipush 124, 2), (138, .iload 5, 2), (140, .iadd, 1), (141, .dup2, 1), (142, .iaload, 1), (143, .iload 4, 2), (145, .isub, 1), (146, .iastore, 1)] : List (Nat × Instr × Nat)).all (fun q => decide (decode cX11_does q.1 = .ok q.2)) = true := by decide +kernel
set_option maxRecDepth 100000 in
theorem dq41_19 : ([(147, .goto 31, 3), (150, .iload_n 1, 1), (151, .iconst 3, 1), (152, .if_icmp .ne 20, 3), (155, .aload_n 0, 1), (156, .getfield 33, 3), (159, .sipush 180, 3), (162, .dup2, 1), (163, .iaload, 1), (164, .iconst 1, 1), (165, .iload_n 2, 1), (166, .ishl, 1), (167, .ior, 1), (168, .iastore, 1), (169, .goto 9, 3), (172, .aload_n 0, 1)] : List (Nat × Instr × Nat)).all (fun q => decide (decode cX11_does q.1 = .ok q.2)) = true := by decide +kernel
set_option maxRecDepth 100000 in
theorem dq41_20 : ([(173, .iload_n 2, 1), (174, .invokevirtual 314, 3), (177, .pop, 1), (178, .iconst 0, 1), (179, .ireturn, 1)] : List (Nat × Instr × Nat)).all (fun q => decide (decode cX11_does q.1 = .ok q.2)) = true := by decide +kernel
set_option maxRecDepth 100000 in
set_option maxHeartbeats 4000000 in
theorem M_X11_does {l : Launch} {b : ab_B} {D : va_G} {cA : Nat → ClassId} {f_X11_cell : List Value → ab_H → Option ab_O} (h_X11_cell : ab_M l b D ab_cl cA (ab_E0 b) yX11_cell (Cond.code yX11_cell cX11_cell 2 (some .int) :: ab_G) ({ frames := 1, cells := 0, slots := 0, locals := 100 } : Room) f_X11_cell) {f_X11_isDead : List Value → ab_H → Option ab_O} (h_X11_isDead : ab_M l b D ab_cl cA (ab_E0 b) yX11_isDead (Cond.code yX11_isDead cX11_isDead 2 (some .boolean) :: ab_G) ({ frames := 2, cells := 0, slots := 0, locals := 200 } : Room) f_X11_isDead) {f_X11_whyBare : List Value → ab_H → Option ab_O} (h_X11_whyBare : ab_M l b D ab_cl cA (ab_E0 b) yX11_whyBare (Cond.code yX11_whyBare cX11_whyBare 3 (some .int) :: ab_G) ({ frames := 1, cells := 0, slots := 0, locals := 100 } : Room) f_X11_whyBare) {f_X11_whyHoard : List Value → ab_H → Option ab_O} (h_X11_whyHoard : ab_M l b D ab_cl cA (ab_E0 b) yX11_whyHoard (Cond.code yX11_whyHoard cX11_whyHoard 3 (some .int) :: ab_G) ({ frames := 1, cells := 0, slots := 0, locals := 100 } : Room) f_X11_whyHoard) {f_X11_hoards : List Value → ab_H → Option ab_O} (h_X11_hoards : ab_M l b D ab_cl cA (ab_E0 b) yX11_hoards (Cond.code yX11_hoards cX11_hoards 3 none :: ab_G) ({ frames := 1, cells := 0, slots := 0, locals := 100 } : Room) f_X11_hoards) {f_X11_goesOn : List Value → ab_H → Option ab_O} (h_X11_goesOn : ab_M l b D ab_cl cA (ab_E0 b) yX11_goesOn (Cond.code yX11_goesOn cX11_goesOn 3 (some .int) :: ab_G) ({ frames := 8, cells := 0, slots := 0, locals := 800 } : Room) f_X11_goesOn) : ab_M l b D ab_cl cA (ab_E0 b) yX11_does (Cond.code yX11_does cX11_does 7 (some .int) :: ab_G) ({ frames := 9, cells := 0, slots := 0, locals := 900 } : Room) (ab_X (ab_T (L_X11_does f_X11_cell f_X11_isDead f_X11_whyBare f_X11_whyHoard f_X11_hoards f_X11_goesOn)) 7) := by
  refine ab_meth (ret := (some .int)) (L_X11_does f_X11_cell f_X11_isDead f_X11_whyBare f_X11_whyHoard f_X11_hoards f_X11_goesOn) (by decide) rfl fun p e R s m args below meth c o C => ?_
  unfold L_X11_does
  refine List.forall_mem_cons.mpr ⟨ok_iload_n C (show decode cX11_does 0 = .ok (.iload_n 2, 1) from dk_at dq41_14 (i := 0) rfl) rfl rfl, ?_⟩
  refine List.forall_mem_cons.mpr ⟨ok_iload_n C (show decode cX11_does 1 = .ok (.iload_n 3, 1) from dk_at dq41_14 (i := 1) rfl) rfl rfl, ?_⟩
  refine List.forall_mem_cons.mpr ⟨ok_callS C h_X11_cell ⟨rfl, rfl⟩ kw_1413 kw_1411 kw_1412 kw_11 ds_X11_cell ⟨by decide, by decide⟩ (show decode cX11_does 2 = .ok (.invokestatic 245, 3) from dk_at dq41_14 (i := 2) rfl) rfl, ?_⟩
  refine List.forall_mem_cons.mpr ⟨ok_istore C (show decode cX11_does 5 = .ok (.istore 5, 2) from dk_at dq41_14 (i := 3) rfl) (by decide) rfl, ?_⟩
  refine List.forall_mem_cons.mpr ⟨ok_iload_n C (show decode cX11_does 7 = .ok (.iload_n 1, 1) from dk_at dq41_14 (i := 4) rfl) rfl rfl, ?_⟩
  refine List.forall_mem_cons.mpr ⟨ok_iconst C (show decode cX11_does 8 = .ok (.iconst 3, 1) from dk_at dq41_14 (i := 5) rfl) (by decide) rfl, ?_⟩
  refine List.forall_mem_cons.mpr ⟨ok_icmpne C (show decode cX11_does 9 = .ok (.if_icmp .ne 19, 3) from dk_at dq41_14 (i := 6) rfl) (tg := 28) (by decide) rfl rfl, ?_⟩
  refine List.forall_mem_cons.mpr ⟨ok_aload_n C (show decode cX11_does 12 = .ok (.aload_n 0, 1) from dk_at dq41_14 (i := 7) rfl) rfl rfl, ?_⟩
  refine List.forall_mem_cons.mpr ⟨ok_iload_n C (show decode cX11_does 13 = .ok (.iload_n 2, 1) from dk_at dq41_14 (i := 8) rfl) rfl rfl, ?_⟩
  refine List.forall_mem_cons.mpr ⟨ok_callV C h_X11_isDead ⟨rfl, rfl⟩ rfl kw_1441 kw_1438 kw_1440 kp_71 kw_11 rfl ds_X11_isDead ⟨by decide, by decide⟩ (show decode cX11_does 14 = .ok (.invokevirtual 257, 3) from dk_at dq41_14 (i := 9) rfl) rfl, ?_⟩
  refine List.forall_mem_cons.mpr ⟨ok_ifeq C (show decode cX11_does 17 = .ok (.ifCond .eq 7, 3) from dk_at dq41_14 (i := 10) rfl) (tg := 24) (by decide) rfl rfl, ?_⟩
  refine List.forall_mem_cons.mpr ⟨ok_iconst C (show decode cX11_does 20 = .ok (.iconst 1, 1) from dk_at dq41_14 (i := 11) rfl) (by decide) rfl, ?_⟩
  refine List.forall_mem_cons.mpr ⟨ok_goto C (show decode cX11_does 21 = .ok (.goto 59, 3) from dk_at dq41_14 (i := 12) rfl) (tg := 80) (by decide) rfl, ?_⟩
  refine List.forall_mem_cons.mpr ⟨ok_iconst C (show decode cX11_does 24 = .ok (.iconst 0, 1) from dk_at dq41_14 (i := 13) rfl) (by decide) rfl, ?_⟩
  refine List.forall_mem_cons.mpr ⟨ok_goto C (show decode cX11_does 25 = .ok (.goto 55, 3) from dk_at dq41_14 (i := 14) rfl) (tg := 80) (by decide) rfl, ?_⟩
  refine List.forall_mem_cons.mpr ⟨ok_iload_n C (show decode cX11_does 28 = .ok (.iload_n 1, 1) from dk_at dq41_14 (i := 15) rfl) rfl rfl, ?_⟩
  refine List.forall_mem_cons.mpr ⟨ok_iconst C (show decode cX11_does 29 = .ok (.iconst 4, 1) from dk_at dq41_15 (i := 0) rfl) (by decide) rfl, ?_⟩
  refine List.forall_mem_cons.mpr ⟨ok_icmpne C (show decode cX11_does 30 = .ok (.if_icmp .ne 26, 3) from dk_at dq41_15 (i := 1) rfl) (tg := 56) (by decide) rfl rfl, ?_⟩
  refine List.forall_mem_cons.mpr ⟨ok_aload_n C (show decode cX11_does 33 = .ok (.aload_n 0, 1) from dk_at dq41_15 (i := 2) rfl) rfl rfl, ?_⟩
  refine List.forall_mem_cons.mpr ⟨ok_getf C (wi_X11) rfl (by decide) kw_1186 (show decode cX11_does 34 = .ok (.getfield 33, 3) from dk_at dq41_15 (i := 3) rfl) rfl, ?_⟩
  refine List.forall_mem_cons.mpr ⟨ok_bipush C (show decode cX11_does 37 = .ok (.bipush 120, 2) from dk_at dq41_15 (i := 4) rfl) (by decide) rfl, ?_⟩
  refine List.forall_mem_cons.mpr ⟨ok_iaload C (show decode cX11_does 39 = .ok (.iaload, 1) from dk_at dq41_15 (i := 5) rfl) rfl, ?_⟩
  refine List.forall_mem_cons.mpr ⟨ok_iload_n C (show decode cX11_does 40 = .ok (.iload_n 2, 1) from dk_at dq41_15 (i := 6) rfl) rfl rfl, ?_⟩
  refine List.forall_mem_cons.mpr ⟨ok_iadd C (show decode cX11_does 41 = .ok (.iadd, 1) from dk_at dq41_15 (i := 7) rfl) rfl, ?_⟩
  refine List.forall_mem_cons.mpr ⟨ok_sipush C (show decode cX11_does 42 = .ok (.sipush 400, 3) from dk_at dq41_15 (i := 8) rfl) (by decide) rfl, ?_⟩
  refine List.forall_mem_cons.mpr ⟨ok_icmple C (show decode cX11_does 45 = .ok (.if_icmp .le 7, 3) from dk_at dq41_15 (i := 9) rfl) (tg := 52) (by decide) rfl rfl, ?_⟩
  refine List.forall_mem_cons.mpr ⟨ok_iconst C (show decode cX11_does 48 = .ok (.iconst 1, 1) from dk_at dq41_15 (i := 10) rfl) (by decide) rfl, ?_⟩
  refine List.forall_mem_cons.mpr ⟨ok_goto C (show decode cX11_does 49 = .ok (.goto 31, 3) from dk_at dq41_15 (i := 11) rfl) (tg := 80) (by decide) rfl, ?_⟩
  refine List.forall_mem_cons.mpr ⟨ok_iconst C (show decode cX11_does 52 = .ok (.iconst 0, 1) from dk_at dq41_15 (i := 12) rfl) (by decide) rfl, ?_⟩
  refine List.forall_mem_cons.mpr ⟨ok_goto C (show decode cX11_does 53 = .ok (.goto 27, 3) from dk_at dq41_15 (i := 13) rfl) (tg := 80) (by decide) rfl, ?_⟩
  refine List.forall_mem_cons.mpr ⟨ok_iload_n C (show decode cX11_does 56 = .ok (.iload_n 1, 1) from dk_at dq41_15 (i := 14) rfl) rfl rfl, ?_⟩
  refine List.forall_mem_cons.mpr ⟨ok_iconst C (show decode cX11_does 57 = .ok (.iconst 1, 1) from dk_at dq41_15 (i := 15) rfl) (by decide) rfl, ?_⟩
  refine List.forall_mem_cons.mpr ⟨ok_icmpne C (show decode cX11_does 58 = .ok (.if_icmp .ne 14, 3) from dk_at dq41_16 (i := 0) rfl) (tg := 72) (by decide) rfl rfl, ?_⟩
  refine List.forall_mem_cons.mpr ⟨ok_aload_n C (show decode cX11_does 61 = .ok (.aload_n 0, 1) from dk_at dq41_16 (i := 1) rfl) rfl rfl, ?_⟩
  refine List.forall_mem_cons.mpr ⟨ok_iload C (show decode cX11_does 62 = .ok (.iload 5, 2) from dk_at dq41_16 (i := 2) rfl) rfl, ?_⟩
  refine List.forall_mem_cons.mpr ⟨ok_iload C (show decode cX11_does 64 = .ok (.iload 4, 2) from dk_at dq41_16 (i := 3) rfl) rfl, ?_⟩
  refine List.forall_mem_cons.mpr ⟨ok_callV C h_X11_whyBare ⟨rfl, rfl⟩ rfl kw_1493 kw_1490 kw_1492 kp_80 kw_11 rfl ds_X11_whyBare ⟨by decide, by decide⟩ (show decode cX11_does 66 = .ok (.invokevirtual 311, 3) from dk_at dq41_16 (i := 4) rfl) rfl, ?_⟩
  refine List.forall_mem_cons.mpr ⟨ok_goto C (show decode cX11_does 69 = .ok (.goto 11, 3) from dk_at dq41_16 (i := 5) rfl) (tg := 80) (by decide) rfl, ?_⟩
  refine List.forall_mem_cons.mpr ⟨ok_aload_n C (show decode cX11_does 72 = .ok (.aload_n 0, 1) from dk_at dq41_16 (i := 6) rfl) rfl rfl, ?_⟩
  refine List.forall_mem_cons.mpr ⟨ok_iload C (show decode cX11_does 73 = .ok (.iload 5, 2) from dk_at dq41_16 (i := 7) rfl) rfl, ?_⟩
  refine List.forall_mem_cons.mpr ⟨ok_iload C (show decode cX11_does 75 = .ok (.iload 4, 2) from dk_at dq41_16 (i := 8) rfl) rfl, ?_⟩
  refine List.forall_mem_cons.mpr ⟨ok_callV C h_X11_whyHoard ⟨rfl, rfl⟩ rfl kw_1477 kw_1474 kw_1476 kp_77 kw_11 rfl ds_X11_whyHoard ⟨by decide, by decide⟩ (show decode cX11_does 77 = .ok (.invokevirtual 301, 3) from dk_at dq41_16 (i := 9) rfl) rfl, ?_⟩
  refine List.forall_mem_cons.mpr ⟨ok_istore C (show decode cX11_does 80 = .ok (.istore 6, 2) from dk_at dq41_16 (i := 10) rfl) (by decide) rfl, ?_⟩
  refine List.forall_mem_cons.mpr ⟨ok_iload C (show decode cX11_does 82 = .ok (.iload 6, 2) from dk_at dq41_16 (i := 11) rfl) rfl, ?_⟩
  refine List.forall_mem_cons.mpr ⟨ok_ifle C (show decode cX11_does 84 = .ok (.ifCond .le 11, 3) from dk_at dq41_16 (i := 12) rfl) (tg := 95) (by decide) rfl rfl, ?_⟩
  refine List.forall_mem_cons.mpr ⟨ok_bipush C (show decode cX11_does 87 = .ok (.bipush 10, 2) from dk_at dq41_16 (i := 13) rfl) (by decide) rfl, ?_⟩
  refine List.forall_mem_cons.mpr ⟨ok_iload_n C (show decode cX11_does 89 = .ok (.iload_n 1, 1) from dk_at dq41_16 (i := 14) rfl) rfl rfl, ?_⟩
  refine List.forall_mem_cons.mpr ⟨ok_imul C (show decode cX11_does 90 = .ok (.imul, 1) from dk_at dq41_16 (i := 15) rfl) rfl, ?_⟩
  refine List.forall_mem_cons.mpr ⟨ok_iload C (show decode cX11_does 91 = .ok (.iload 6, 2) from dk_at dq41_17 (i := 0) rfl) rfl, ?_⟩
  refine List.forall_mem_cons.mpr ⟨ok_iadd C (show decode cX11_does 93 = .ok (.iadd, 1) from dk_at dq41_17 (i := 1) rfl) rfl, ?_⟩
  refine List.forall_mem_cons.mpr ⟨ok_ret C rfl (show decode cX11_does 94 = .ok (.ireturn, 1) from dk_at dq41_17 (i := 2) rfl), ?_⟩
  refine List.forall_mem_cons.mpr ⟨ok_iload_n C (show decode cX11_does 95 = .ok (.iload_n 1, 1) from dk_at dq41_17 (i := 3) rfl) rfl rfl, ?_⟩
  refine List.forall_mem_cons.mpr ⟨ok_ifne C (show decode cX11_does 96 = .ok (.ifCond .ne 14, 3) from dk_at dq41_17 (i := 4) rfl) (tg := 110) (by decide) rfl rfl, ?_⟩
  refine List.forall_mem_cons.mpr ⟨ok_aload_n C (show decode cX11_does 99 = .ok (.aload_n 0, 1) from dk_at dq41_17 (i := 5) rfl) rfl rfl, ?_⟩
  refine List.forall_mem_cons.mpr ⟨ok_iload C (show decode cX11_does 100 = .ok (.iload 5, 2) from dk_at dq41_17 (i := 6) rfl) rfl, ?_⟩
  refine List.forall_mem_cons.mpr ⟨ok_iload C (show decode cX11_does 102 = .ok (.iload 4, 2) from dk_at dq41_17 (i := 7) rfl) rfl, ?_⟩
  refine List.forall_mem_cons.mpr ⟨ok_callV C h_X11_hoards ⟨rfl, rfl⟩ rfl kw_1485 kw_1482 kw_1484 kp_79 kw_11 rfl ds_X11_hoards ⟨by decide, by decide⟩ (show decode cX11_does 104 = .ok (.invokevirtual 307, 3) from dk_at dq41_17 (i := 8) rfl) rfl, ?_⟩
  refine List.forall_mem_cons.mpr ⟨ok_goto C (show decode cX11_does 107 = .ok (.goto 71, 3) from dk_at dq41_17 (i := 9) rfl) (tg := 178) (by decide) rfl, ?_⟩
  refine List.forall_mem_cons.mpr ⟨ok_iload_n C (show decode cX11_does 110 = .ok (.iload_n 1, 1) from dk_at dq41_17 (i := 10) rfl) rfl rfl, ?_⟩
  refine List.forall_mem_cons.mpr ⟨ok_iconst C (show decode cX11_does 111 = .ok (.iconst 1, 1) from dk_at dq41_17 (i := 11) rfl) (by decide) rfl, ?_⟩
  refine List.forall_mem_cons.mpr ⟨ok_icmpne C (show decode cX11_does 112 = .ok (.if_icmp .ne 15, 3) from dk_at dq41_17 (i := 12) rfl) (tg := 127) (by decide) rfl rfl, ?_⟩
  refine List.forall_mem_cons.mpr ⟨ok_aload_n C (show decode cX11_does 115 = .ok (.aload_n 0, 1) from dk_at dq41_17 (i := 13) rfl) rfl rfl, ?_⟩
  refine List.forall_mem_cons.mpr ⟨ok_iload C (show decode cX11_does 116 = .ok (.iload 5, 2) from dk_at dq41_17 (i := 14) rfl) rfl, ?_⟩
  refine List.forall_mem_cons.mpr ⟨ok_iload C (show decode cX11_does 118 = .ok (.iload 4, 2) from dk_at dq41_17 (i := 15) rfl) rfl, ?_⟩
  refine List.forall_mem_cons.mpr ⟨ok_ineg C (show decode cX11_does 120 = .ok (.ineg, 1) from dk_at dq41_18 (i := 0) rfl) rfl, ?_⟩
  refine List.forall_mem_cons.mpr ⟨ok_callV C h_X11_hoards ⟨rfl, rfl⟩ rfl kw_1485 kw_1482 kw_1484 kp_79 kw_11 rfl ds_X11_hoards ⟨by decide, by decide⟩ (show decode cX11_does 121 = .ok (.invokevirtual 307, 3) from dk_at dq41_18 (i := 1) rfl) rfl, ?_⟩
  refine List.forall_mem_cons.mpr ⟨ok_goto C (show decode cX11_does 124 = .ok (.goto 54, 3) from dk_at dq41_18 (i := 2) rfl) (tg := 178) (by decide) rfl, ?_⟩
  refine List.forall_mem_cons.mpr ⟨ok_iload_n C (show decode cX11_does 127 = .ok (.iload_n 1, 1) from dk_at dq41_18 (i := 3) rfl) rfl rfl, ?_⟩
  refine List.forall_mem_cons.mpr ⟨ok_iconst C (show decode cX11_does 128 = .ok (.iconst 2, 1) from dk_at dq41_18 (i := 4) rfl) (by decide) rfl, ?_⟩
  refine List.forall_mem_cons.mpr ⟨ok_icmpne C (show decode cX11_does 129 = .ok (.if_icmp .ne 21, 3) from dk_at dq41_18 (i := 5) rfl) (tg := 150) (by decide) rfl rfl, ?_⟩
  refine List.forall_mem_cons.mpr ⟨ok_aload_n C (show decode cX11_does 132 = .ok (.aload_n 0, 1) from dk_at dq41_18 (i := 6) rfl) rfl rfl, ?_⟩
  refine List.forall_mem_cons.mpr ⟨ok_getf C (wi_X11) rfl (by decide) kw_1186 (show decode cX11_does 133 = .ok (.getfield 33, 3) from dk_at dq41_18 (i := 7) rfl) rfl, ?_⟩
  refine List.forall_mem_cons.mpr ⟨ok_bipush C (show decode cX11_does 136 = .ok (.bipush 124, 2) from dk_at dq41_18 (i := 8) rfl) (by decide) rfl, ?_⟩
  refine List.forall_mem_cons.mpr ⟨ok_iload C (show decode cX11_does 138 = .ok (.iload 5, 2) from dk_at dq41_18 (i := 9) rfl) rfl, ?_⟩
  refine List.forall_mem_cons.mpr ⟨ok_iadd C (show decode cX11_does 140 = .ok (.iadd, 1) from dk_at dq41_18 (i := 10) rfl) rfl, ?_⟩
  refine List.forall_mem_cons.mpr ⟨ok_dup2 C (show decode cX11_does 141 = .ok (.dup2, 1) from dk_at dq41_18 (i := 11) rfl) rfl, ?_⟩
  refine List.forall_mem_cons.mpr ⟨ok_iaload C (show decode cX11_does 142 = .ok (.iaload, 1) from dk_at dq41_18 (i := 12) rfl) rfl, ?_⟩
  refine List.forall_mem_cons.mpr ⟨ok_iload C (show decode cX11_does 143 = .ok (.iload 4, 2) from dk_at dq41_18 (i := 13) rfl) rfl, ?_⟩
  refine List.forall_mem_cons.mpr ⟨ok_isub C (show decode cX11_does 145 = .ok (.isub, 1) from dk_at dq41_18 (i := 14) rfl) rfl, ?_⟩
  refine List.forall_mem_cons.mpr ⟨ok_iastore C (show decode cX11_does 146 = .ok (.iastore, 1) from dk_at dq41_18 (i := 15) rfl) rfl, ?_⟩
  refine List.forall_mem_cons.mpr ⟨ok_goto C (show decode cX11_does 147 = .ok (.goto 31, 3) from dk_at dq41_19 (i := 0) rfl) (tg := 178) (by decide) rfl, ?_⟩
  refine List.forall_mem_cons.mpr ⟨ok_iload_n C (show decode cX11_does 150 = .ok (.iload_n 1, 1) from dk_at dq41_19 (i := 1) rfl) rfl rfl, ?_⟩
  refine List.forall_mem_cons.mpr ⟨ok_iconst C (show decode cX11_does 151 = .ok (.iconst 3, 1) from dk_at dq41_19 (i := 2) rfl) (by decide) rfl, ?_⟩
  refine List.forall_mem_cons.mpr ⟨ok_icmpne C (show decode cX11_does 152 = .ok (.if_icmp .ne 20, 3) from dk_at dq41_19 (i := 3) rfl) (tg := 172) (by decide) rfl rfl, ?_⟩
  refine List.forall_mem_cons.mpr ⟨ok_aload_n C (show decode cX11_does 155 = .ok (.aload_n 0, 1) from dk_at dq41_19 (i := 4) rfl) rfl rfl, ?_⟩
  refine List.forall_mem_cons.mpr ⟨ok_getf C (wi_X11) rfl (by decide) kw_1186 (show decode cX11_does 156 = .ok (.getfield 33, 3) from dk_at dq41_19 (i := 5) rfl) rfl, ?_⟩
  refine List.forall_mem_cons.mpr ⟨ok_sipush C (show decode cX11_does 159 = .ok (.sipush 180, 3) from dk_at dq41_19 (i := 6) rfl) (by decide) rfl, ?_⟩
  refine List.forall_mem_cons.mpr ⟨ok_dup2 C (show decode cX11_does 162 = .ok (.dup2, 1) from dk_at dq41_19 (i := 7) rfl) rfl, ?_⟩
  refine List.forall_mem_cons.mpr ⟨ok_iaload C (show decode cX11_does 163 = .ok (.iaload, 1) from dk_at dq41_19 (i := 8) rfl) rfl, ?_⟩
  refine List.forall_mem_cons.mpr ⟨ok_iconst C (show decode cX11_does 164 = .ok (.iconst 1, 1) from dk_at dq41_19 (i := 9) rfl) (by decide) rfl, ?_⟩
  refine List.forall_mem_cons.mpr ⟨ok_iload_n C (show decode cX11_does 165 = .ok (.iload_n 2, 1) from dk_at dq41_19 (i := 10) rfl) rfl rfl, ?_⟩
  refine List.forall_mem_cons.mpr ⟨ok_ishl C (show decode cX11_does 166 = .ok (.ishl, 1) from dk_at dq41_19 (i := 11) rfl) rfl, ?_⟩
  refine List.forall_mem_cons.mpr ⟨ok_ior C (show decode cX11_does 167 = .ok (.ior, 1) from dk_at dq41_19 (i := 12) rfl) rfl, ?_⟩
  refine List.forall_mem_cons.mpr ⟨ok_iastore C (show decode cX11_does 168 = .ok (.iastore, 1) from dk_at dq41_19 (i := 13) rfl) rfl, ?_⟩
  refine List.forall_mem_cons.mpr ⟨ok_goto C (show decode cX11_does 169 = .ok (.goto 9, 3) from dk_at dq41_19 (i := 14) rfl) (tg := 178) (by decide) rfl, ?_⟩
  refine List.forall_mem_cons.mpr ⟨ok_aload_n C (show decode cX11_does 172 = .ok (.aload_n 0, 1) from dk_at dq41_19 (i := 15) rfl) rfl rfl, ?_⟩
  refine List.forall_mem_cons.mpr ⟨ok_iload_n C (show decode cX11_does 173 = .ok (.iload_n 2, 1) from dk_at dq41_20 (i := 0) rfl) rfl rfl, ?_⟩
  refine List.forall_mem_cons.mpr ⟨ok_callV C h_X11_goesOn ⟨rfl, rfl⟩ rfl kw_1509 kw_1506 kw_1508 kp_81 kw_11 rfl ds_X11_goesOn ⟨by decide, by decide⟩ (show decode cX11_does 174 = .ok (.invokevirtual 314, 3) from dk_at dq41_20 (i := 1) rfl) rfl, ?_⟩
  refine List.forall_mem_cons.mpr ⟨ok_pop C (show decode cX11_does 177 = .ok (.pop, 1) from dk_at dq41_20 (i := 2) rfl) rfl, ?_⟩
  refine List.forall_mem_cons.mpr ⟨ok_iconst C (show decode cX11_does 178 = .ok (.iconst 0, 1) from dk_at dq41_20 (i := 3) rfl) (by decide) rfl, ?_⟩
  refine List.forall_mem_cons.mpr ⟨ok_ret C rfl (show decode cX11_does 179 = .ok (.ireturn, 1) from dk_at dq41_20 (i := 4) rfl), ?_⟩
  exact fun _ h => absurd h List.not_mem_nil
end
-- 42.m22.lean.txt
section
def L_X11_log (f_X11_isIn : List Value → ab_H → Option ab_O) (f_X11_taken : List Value → ab_H → Option ab_O) (f_X11_next : List Value → ab_H → Option ab_O) (f_X11_logLine : List Value → ab_H → Option ab_O) (f_X11_sign : List Value → ab_H → Option ab_O) (f_X11_tries : List Value → ab_H → Option ab_O) (f_X11_does : List Value → ab_H → Option ab_O) (f_X11_keep : List Value → ab_H → Option ab_O) (f_X11_back : List Value → ab_H → Option ab_O) : List (Nat × ab_A) := [
  (0, ab_nx 1 (ab_aload 0)),
  (1, ab_nx 2 (ab_lit (.int 0))),
  (2, ab_nx 5 (ab_putf 11 0 0)),
  (5, ab_nx 6 (ab_iload 1)),
  (6, ab_nx 7 (ab_lit (.int 0))),
  (7, ab_nx 8 (ab_lit (.int 1))),
  (8, ab_nx 11 (ab_call 3 f_X11_isIn 0 0 0 0)),
  (11, ab_if 14 18 (fun x => !decide (x = 0))),
  (14, ab_nx 17 (ab_lit (.int (-1000)))),
  (17, ab_ret 0 0),
  (18, ab_nx 19 (ab_aload 0)),
  (19, ab_nx 22 (ab_lit (.int 400))),
  (22, ab_nx 25 (ab_callV 2 11 f_X11_taken 0 0 0 0)),
  (25, ab_nx 26 (ab_aload 0)),
  (26, ab_nx 27 (ab_lit (.int 0))),
  (27, ab_nx 30 (ab_putf 11 15 0)),
  (30, ab_nx 31 (ab_aload 0)),
  (31, ab_nx 32 (ab_lit (.int 0))),
  (32, ab_nx 35 (ab_putf 11 30 0)),
  (35, ab_nx 36 (ab_aload 0)),
  (36, ab_nx 39 (ab_callV 1 11 f_X11_next 0 0 0 0)),
  (39, ab_nx 40 (ab_aload 0)),
  (40, ab_nx 43 (ab_getf 11 11)),
  (43, ab_if 46 83 (fun x => decide (x = 0))),
  (46, ab_nx 47 (ab_aload 0)),
  (47, ab_nx 50 (ab_callV 1 11 f_X11_logLine 0 0 0 0)),
  (50, ab_if 53 62 (fun x => decide (x = 0))),
  (53, ab_nx 54 (ab_aload 0)),
  (54, ab_nx 56 (ab_lit (.int 59))),
  (56, ab_nx 59 (ab_callV 2 11 f_X11_sign 0 0 0 0)),
  (59, ab_if 62 70 (fun x => !decide (x = 0))),
  (62, ab_nx 64 (ab_lit (.int (-2)))),
  (64, ab_nx 65 (ab_aload 0)),
  (65, ab_nx 68 (ab_getf 11 16)),
  (68, ab_nx 69 (ab_bin (fun x y => x - y))),
  (69, ab_ret 0 0),
  (70, ab_nx 71 (ab_aload 0)),
  (71, ab_nx 72 ab_dup),
  (72, ab_nx 75 (ab_getf 11 30)),
  (75, ab_nx 76 (ab_lit (.int 1))),
  (76, ab_nx 77 (ab_bin (fun x y => x + y))),
  (77, ab_nx 80 (ab_putf 11 30 0)),
  (80, ab_goto 39),
  (83, ab_nx 84 (ab_aload 0)),
  (84, ab_nx 87 (ab_callV 1 11 f_X11_tries 0 0 0 0)),
  (87, ab_nx 88 (ab_lit (.int 0))),
  (88, ab_nx 89 (ab_istore 2)),
  (89, ab_nx 90 (ab_iload 2)),
  (90, ab_nx 91 (ab_lit (.int 4))),
  (91, ab_icmp 94 107 (fun x y => decide (y ≤ x))),
  (94, ab_nx 95 (ab_aload 0)),
  (95, ab_nx 98 (ab_getf 11 31)),
  (98, ab_nx 99 (ab_iload 2)),
  (99, ab_nx 100 (ab_lit (.int 0))),
  (100, ab_nx 101 (ab_ast 1)),
  (101, ab_nx 104 (ab_iinc 2 1)),
  (104, ab_goto 89),
  (107, ab_nx 108 (ab_aload 0)),
  (108, ab_nx 111 (ab_getf 11 6)),
  (111, ab_nx 113 (ab_lit (.int 123))),
  (113, ab_nx 114 (ab_ald 1)),
  (114, ab_nx 115 (ab_istore 2)),
  (115, ab_nx 116 (ab_lit (.int (-1)))),
  (116, ab_nx 117 (ab_istore 3)),
  (117, ab_nx 118 (ab_lit (.int 0))),
  (118, ab_nx 120 (ab_istore 4)),
  (120, ab_nx 122 (ab_iload 4)),
  (122, ab_nx 123 (ab_aload 0)),
  (123, ab_nx 126 (ab_getf 11 30)),
  (126, ab_icmp 129 216 (fun x y => decide (y ≤ x))),
  (129, ab_nx 130 (ab_iload 3)),
  (130, ab_if 133 216 (fun x => decide (0 ≤ x))),
  (133, ab_nx 134 (ab_aload 0)),
  (134, ab_nx 137 (ab_getf 11 31)),
  (137, ab_nx 138 (ab_lit (.int 0))),
  (138, ab_nx 139 (ab_aload 0)),
  (139, ab_nx 140 (ab_aload 0)),
  (140, ab_nx 143 (ab_getf 11 8)),
  (143, ab_nx 144 (ab_lit (.int 4))),
  (144, ab_nx 146 (ab_iload 4)),
  (146, ab_nx 147 (ab_bin (fun x y => x * y))),
  (147, ab_nx 148 (ab_ald 1)),
  (148, ab_nx 149 (ab_aload 0)),
  (149, ab_nx 152 (ab_getf 11 8)),
  (152, ab_nx 153 (ab_lit (.int 4))),
  (153, ab_nx 155 (ab_iload 4)),
  (155, ab_nx 156 (ab_bin (fun x y => x * y))),
  (156, ab_nx 157 (ab_lit (.int 1))),
  (157, ab_nx 158 (ab_bin (fun x y => x + y))),
  (158, ab_nx 159 (ab_ald 1)),
  (159, ab_nx 160 (ab_aload 0)),
  (160, ab_nx 163 (ab_getf 11 8)),
  (163, ab_nx 164 (ab_lit (.int 4))),
  (164, ab_nx 166 (ab_iload 4)),
  (166, ab_nx 167 (ab_bin (fun x y => x * y))),
  (167, ab_nx 168 (ab_lit (.int 2))),
  (168, ab_nx 169 (ab_bin (fun x y => x + y))),
  (169, ab_nx 170 (ab_ald 1)),
  (170, ab_nx 171 (ab_aload 0)),
  (171, ab_nx 174 (ab_getf 11 8)),
  (174, ab_nx 175 (ab_lit (.int 4))),
  (175, ab_nx 177 (ab_iload 4)),
  (177, ab_nx 178 (ab_bin (fun x y => x * y))),
  (178, ab_nx 179 (ab_lit (.int 3))),
  (179, ab_nx 180 (ab_bin (fun x y => x + y))),
  (180, ab_nx 181 (ab_ald 1)),
  (181, ab_nx 184 (ab_callV 5 11 f_X11_does 0 0 0 0)),
  (184, ab_nx 185 (ab_ast 1)),
  (185, ab_nx 186 (ab_aload 0)),
  (186, ab_nx 189 (ab_getf 11 31)),
  (189, ab_nx 190 (ab_lit (.int 0))),
  (190, ab_nx 191 (ab_ald 1)),
  (191, ab_if 194 200 (fun x => decide (x ≤ 0))),
  (194, ab_nx 196 (ab_iload 4)),
  (196, ab_nx 197 (ab_istore 3)),
  (197, ab_goto 210),
  (200, ab_nx 201 (ab_aload 0)),
  (201, ab_nx 204 (ab_getf 11 31)),
  (204, ab_nx 205 (ab_lit (.int 1))),
  (205, ab_nx 206 ab_dup2),
  (206, ab_nx 207 (ab_ald 1)),
  (207, ab_nx 208 (ab_lit (.int 1))),
  (208, ab_nx 209 (ab_bin (fun x y => x + y))),
  (209, ab_nx 210 (ab_ast 1)),
  (210, ab_nx 213 (ab_iinc 4 1)),
  (213, ab_goto 120),
  (216, ab_nx 217 (ab_aload 0)),
  (217, ab_nx 220 (ab_getf 11 31)),
  (220, ab_nx 221 (ab_lit (.int 2))),
  (221, ab_nx 222 (ab_aload 0)),
  (222, ab_nx 225 (ab_getf 11 6)),
  (225, ab_nx 227 (ab_lit (.int 120))),
  (227, ab_nx 228 (ab_ald 1)),
  (228, ab_nx 229 (ab_ast 1)),
  (229, ab_nx 230 (ab_aload 0)),
  (230, ab_nx 233 (ab_getf 11 31)),
  (233, ab_nx 234 (ab_lit (.int 3))),
  (234, ab_nx 235 (ab_aload 0)),
  (235, ab_nx 238 (ab_getf 11 6)),
  (238, ab_nx 240 (ab_lit (.int 123))),
  (240, ab_nx 241 (ab_ald 1)),
  (241, ab_nx 242 (ab_iload 2)),
  (242, ab_nx 243 (ab_bin (fun x y => x - y))),
  (243, ab_nx 244 (ab_ast 1)),
  (244, ab_nx 245 (ab_aload 0)),
  (245, ab_nx 246 (ab_lit (.int 1))),
  (246, ab_nx 249 (ab_putf 11 32 3)),
  (249, ab_nx 250 (ab_iload 1)),
  (250, ab_nx 251 (ab_lit (.int 1))),
  (251, ab_icmp 254 309 (fun x y => !decide (x = y))),
  (254, ab_nx 255 (ab_aload 0)),
  (255, ab_nx 258 (ab_getf 11 31)),
  (258, ab_nx 259 (ab_lit (.int 1))),
  (259, ab_nx 260 (ab_ald 1)),
  (260, ab_if 263 309 (fun x => decide (x ≤ 0))),
  (263, ab_nx 264 (ab_aload 0)),
  (264, ab_nx 267 (ab_callV 1 11 f_X11_keep 0 0 0 0)),
  (267, ab_nx 268 (ab_lit (.int 0))),
  (268, ab_nx 270 (ab_istore 4)),
  (270, ab_nx 272 (ab_iload 4)),
  (272, ab_nx 275 (ab_lit (.int 133))),
  (275, ab_icmp 278 309 (fun x y => decide (y ≤ x))),
  (278, ab_nx 279 (ab_aload 0)),
  (279, ab_nx 282 (ab_getf 11 23)),
  (282, ab_nx 285 (ab_lit (.int 133))),
  (285, ab_nx 286 (ab_aload 0)),
  (286, ab_nx 289 (ab_getf 11 25)),
  (289, ab_nx 290 (ab_lit (.int 1))),
  (290, ab_nx 291 (ab_bin (fun x y => x - y))),
  (291, ab_nx 292 (ab_bin (fun x y => x * y))),
  (292, ab_nx 294 (ab_iload 4)),
  (294, ab_nx 295 (ab_bin (fun x y => x + y))),
  (295, ab_nx 296 (ab_aload 0)),
  (296, ab_nx 299 (ab_getf 11 24)),
  (299, ab_nx 301 (ab_iload 4)),
  (301, ab_nx 302 (ab_ald 1)),
  (302, ab_nx 303 (ab_ast 1)),
  (303, ab_nx 306 (ab_iinc 4 1)),
  (306, ab_goto 270),
  (309, ab_nx 310 (ab_iload 1)),
  (310, ab_if 313 317 (fun x => !decide (x = 0))),
  (313, ab_nx 314 (ab_aload 0)),
  (314, ab_nx 317 (ab_callV 1 11 f_X11_back 0 0 0 0)),
  (317, ab_nx 318 (ab_iload 3)),
  (318, ab_ret 0 0)]
set_option maxRecDepth 100000 in
theorem dq42_0 : ([(0, .aload_n 0, 1), (1, .iconst 0, 1), (2, .putfield 1, 3), (5, .iload_n 1, 1), (6, .iconst 0, 1), (7, .iconst 1, 1), (8, .invokestatic 179, 3), (11, .ifCond .ne 7, 3), (14, .sipush (-1000), 3), (17, .ireturn, 1), (18, .aload_n 0, 1), (19, .sipush 400, 3), (22, .invokevirtual 224, 3), (25, .aload_n 0, 1), (26, .iconst 0, 1), (27, .putfield 164, 3)] : List (Nat × Instr × Nat)).all (fun q => decide (decode cX11_log q.1 = .ok q.2)) = true := by decide +kernel
set_option maxRecDepth 100000 in
theorem dq42_1 : ([(30, .aload_n 0, 1), (31, .iconst 0, 1), (32, .putfield 348, 3), (35, .aload_n 0, 1), (36, .invokevirtual 176, 3), (39, .aload_n 0, 1), (40, .getfield 147, 3), (43, .ifCond .eq 40, 3), (46, .aload_n 0, 1), (47, .invokevirtual 351, 3), (50, .ifCond .eq 12, 3), (53, .aload_n 0, 1), (54, .bipush 59, 2), (56, .invokevirtual 233, 3), (59, .ifCond .ne 11, 3), (62, .bipush (-2), 2)] : List (Nat × Instr × Nat)).all (fun q => decide (decode cX11_log q.1 = .ok q.2)) = true := by decide +kernel
set_option maxRecDepth 100000 in
theorem dq42_2 : ([(64, .aload_n 0, 1), (65, .getfield 167, 3), (68, .isub, 1), (69, .ireturn, 1), (70, .aload_n 0, 1), (71, .dup, 1), (72, .getfield 348, 3), (75, .iconst 1, 1), (76, .iadd, 1), (77, .putfield 348, 3), (80, .goto (-41), 3), (83, .aload_n 0, 1), (84, .invokevirtual 317, 3), (87, .iconst 0, 1), (88, .istore_n 2, 1), (89, .iload_n 2, 1)] : List (Nat × Instr × Nat)).all (fun q => decide (decode cX11_log q.1 = .ok q.2)) = true := by decide +kernel
set_option maxRecDepth 100000 in
theorem dq42_3 : ([(90, .iconst 4, 1), (91, .if_icmp .ge 16, 3), (94, .aload_n 0, 1), (95, .getfield 68, 3), (98, .iload_n 2, 1), (99, .iconst 0, 1), (100, .iastore, 1), (101, .iinc 2 1, 3), (104, .goto (-15), 3), (107, .aload_n 0, 1), (108, .getfield 33, 3), (111, .bipush 123, 2), (113, .iaload, 1), (114, .istore_n 2, 1), (115, .iconst (-1), 1), (116, .istore_n 3, 1)] : List (Nat × Instr × Nat)).all (fun q => decide (decode cX11_log q.1 = .ok q.2)) = true := by decide +kernel
set_option maxRecDepth 100000 in
theorem dq42_4 : ([(117, .iconst 0, 1), (118, .istore 4, 2), (120, .iload 4, 2), (122, .aload_n 0, 1), (123, .getfield 348, 3), (126, .if_icmp .ge 90, 3), (129, .iload_n 3, 1), (130, .ifCond .ge 86, 3), (133, .aload_n 0, 1), (134, .getfield 68, 3), (137, .iconst 0, 1), (138, .aload_n 0, 1), (139, .aload_n 0, 1), (140, .getfield 40, 3), (143, .iconst 4, 1), (144, .iload 4, 2)] : List (Nat × Instr × Nat)).all (fun q => decide (decode cX11_log q.1 = .ok q.2)) = true := by decide +kernel
set_option maxRecDepth 100000 in
theorem dq42_5 : ([(146, .imul, 1), (147, .iaload, 1), (148, .aload_n 0, 1), (149, .getfield 40, 3), (152, .iconst 4, 1), (153, .iload 4, 2), (155, .imul, 1), (156, .iconst 1, 1), (157, .iadd, 1), (158, .iaload, 1), (159, .aload_n 0, 1), (160, .getfield 40, 3), (163, .iconst 4, 1), (164, .iload 4, 2), (166, .imul, 1), (167, .iconst 2, 1)] : List (Nat × Instr × Nat)).all (fun q => decide (decode cX11_log q.1 = .ok q.2)) = true := by decide +kernel
set_option maxRecDepth 100000 in
theorem dq42_6 : ([(168, .iadd, 1), (169, .iaload, 1), (170, .aload_n 0, 1), (171, .getfield 40, 3), (174, .iconst 4, 1), (175, .iload 4, 2), (177, .imul, 1), (178, .iconst 3, 1), (179, .iadd, 1), (180, .iaload, 1), (181, .invokevirtual 354, 3), (184, .iastore, 1), (185, .aload_n 0, 1), (186, .getfield 68, 3), (189, .iconst 0, 1), (190, .iaload, 1)] : List (Nat × Instr × Nat)).all (fun q => decide (decode cX11_log q.1 = .ok q.2)) = true := by decide +kernel
set_option maxRecDepth 100000 in
theorem dq42_7 : ([(191, .ifCond .le 9, 3), (194, .iload 4, 2), (196, .istore_n 3, 1), (197, .goto 13, 3), (200, .aload_n 0, 1), (201, .getfield 68, 3), (204, .iconst 1, 1), (205, .dup2, 1), (206, .iaload, 1), (207, .iconst 1, 1), (208, .iadd, 1), (209, .iastore, 1), (210, .iinc 4 1, 3), (213, .goto (-93), 3), (216, .aload_n 0, 1), (217, .getfield 68, 3)] : List (Nat × Instr × Nat)).all (fun q => decide (decode cX11_log q.1 = .ok q.2)) = true := by decide +kernel
set_option maxRecDepth 100000 in
theorem dq42_8 : ([(220, .iconst 2, 1), (221, .aload_n 0, 1), (222, .getfield 33, 3), (225, .bipush 120, 2), (227, .iaload, 1), (228, .iastore, 1), (229, .aload_n 0, 1), (230, .getfield 68, 3), (233, .iconst 3, 1), (234, .aload_n 0, 1), (235, .getfield 33, 3), (238, .bipush 123, 2), (240, .iaload, 1), (241, .iload_n 2, 1), (242, .isub, 1), (243, .iastore, 1)] : List (Nat × Instr × Nat)).all (fun q => decide (decode cX11_log q.1 = .ok q.2)) = true := by decide +kernel
set_option maxRecDepth 100000 in
theorem dq42_9 : ([(244, .aload_n 0, 1), (245, .iconst 1, 1), (246, .putfield 358, 3), (249, .iload_n 1, 1), (250, .iconst 1, 1), (251, .if_icmp .ne 58, 3), (254, .aload_n 0, 1), (255, .getfield 68, 3), (258, .iconst 1, 1), (259, .iaload, 1), (260, .ifCond .le 49, 3), (263, .aload_n 0, 1), (264, .invokevirtual 304, 3), (267, .iconst 0, 1), (268, .istore 4, 2), (270, .iload 4, 2)] : List (Nat × Instr × Nat)).all (fun q => decide (decode cX11_log q.1 = .ok q.2)) = true := by decide +kernel
set_option maxRecDepth 100000 in
theorem dq42_10 : ([(272, .sipush 133, 3), (275, .if_icmp .ge 34, 3), (278, .aload_n 0, 1), (279, .getfield 53, 3), (282, .sipush 133, 3), (285, .aload_n 0, 1), (286, .getfield 236, 3), (289, .iconst 1, 1), (290, .isub, 1), (291, .imul, 1), (292, .iload 4, 2), (294, .iadd, 1), (295, .aload_n 0, 1), (296, .getfield 56, 3), (299, .iload 4, 2), (301, .iaload, 1)] : List (Nat × Instr × Nat)).all (fun q => decide (decode cX11_log q.1 = .ok q.2)) = true := by decide +kernel
set_option maxRecDepth 100000 in
theorem dq42_11 : ([(302, .iastore, 1), (303, .iinc 4 1, 3), (306, .goto (-36), 3), (309, .iload_n 1, 1), (310, .ifCond .ne 7, 3), (313, .aload_n 0, 1), (314, .invokevirtual 320, 3), (317, .iload_n 3, 1), (318, .ireturn, 1)] : List (Nat × Instr × Nat)).all (fun q => decide (decode cX11_log q.1 = .ok q.2)) = true := by decide +kernel
set_option maxRecDepth 100000 in
set_option maxHeartbeats 4000000 in
theorem M_X11_log {l : Launch} {b : ab_B} {D : va_G} {cA : Nat → ClassId} {f_X11_isIn : List Value → ab_H → Option ab_O} (h_X11_isIn : ab_M l b D ab_cl cA (ab_E0 b) yX11_isIn (Cond.code yX11_isIn cX11_isIn 3 (some .boolean) :: ab_G) ({ frames := 1, cells := 0, slots := 0, locals := 100 } : Room) f_X11_isIn) {f_X11_taken : List Value → ab_H → Option ab_O} (h_X11_taken : ab_M l b D ab_cl cA (ab_E0 b) yX11_taken (Cond.code yX11_taken cX11_taken 2 none :: ab_G) ({ frames := 1, cells := 0, slots := 0, locals := 100 } : Room) f_X11_taken) {f_X11_next : List Value → ab_H → Option ab_O} (h_X11_next : ab_M l b D ab_cl cA (ab_E0 b) yX11_next (Cond.code yX11_next cX11_next 4 none :: ab_G) ({ frames := 2, cells := 0, slots := 0, locals := 200 } : Room) f_X11_next) {f_X11_logLine : List Value → ab_H → Option ab_O} (h_X11_logLine : ab_M l b D ab_cl cA (ab_E0 b) yX11_logLine (Cond.code yX11_logLine cX11_logLine 3 (some .boolean) :: ab_G) ({ frames := 4, cells := 0, slots := 0, locals := 400 } : Room) f_X11_logLine) {f_X11_sign : List Value → ab_H → Option ab_O} (h_X11_sign : ab_M l b D ab_cl cA (ab_E0 b) yX11_sign (Cond.code yX11_sign cX11_sign 2 (some .boolean) :: ab_G) ({ frames := 3, cells := 0, slots := 0, locals := 300 } : Room) f_X11_sign) {f_X11_tries : List Value → ab_H → Option ab_O} (h_X11_tries : ab_M l b D ab_cl cA (ab_E0 b) yX11_tries (Cond.code yX11_tries cX11_tries 2 none :: ab_G) ({ frames := 1, cells := 0, slots := 0, locals := 100 } : Room) f_X11_tries) {f_X11_does : List Value → ab_H → Option ab_O} (h_X11_does : ab_M l b D ab_cl cA (ab_E0 b) yX11_does (Cond.code yX11_does cX11_does 7 (some .int) :: ab_G) ({ frames := 9, cells := 0, slots := 0, locals := 900 } : Room) f_X11_does) {f_X11_keep : List Value → ab_H → Option ab_O} (h_X11_keep : ab_M l b D ab_cl cA (ab_E0 b) yX11_keep (Cond.code yX11_keep cX11_keep 2 none :: ab_G) ({ frames := 1, cells := 0, slots := 0, locals := 100 } : Room) f_X11_keep) {f_X11_back : List Value → ab_H → Option ab_O} (h_X11_back : ab_M l b D ab_cl cA (ab_E0 b) yX11_back (Cond.code yX11_back cX11_back 2 none :: ab_G) ({ frames := 1, cells := 0, slots := 0, locals := 100 } : Room) f_X11_back) : ab_M l b D ab_cl cA (ab_E0 b) yX11_log (Cond.code yX11_log cX11_log 5 (some .int) :: ab_G) ({ frames := 10, cells := 0, slots := 0, locals := 1000 } : Room) (ab_X (ab_T (L_X11_log f_X11_isIn f_X11_taken f_X11_next f_X11_logLine f_X11_sign f_X11_tries f_X11_does f_X11_keep f_X11_back)) 5) := by
  refine ab_meth (ret := (some .int)) (L_X11_log f_X11_isIn f_X11_taken f_X11_next f_X11_logLine f_X11_sign f_X11_tries f_X11_does f_X11_keep f_X11_back) (by decide) rfl fun p e R s m args below meth c o C => ?_
  unfold L_X11_log
  refine List.forall_mem_cons.mpr ⟨ok_aload_n C (show decode cX11_log 0 = .ok (.aload_n 0, 1) from dk_at dq42_0 (i := 0) rfl) rfl rfl, ?_⟩
  refine List.forall_mem_cons.mpr ⟨ok_iconst C (show decode cX11_log 1 = .ok (.iconst 0, 1) from dk_at dq42_0 (i := 1) rfl) (by decide) rfl, ?_⟩
  refine List.forall_mem_cons.mpr ⟨ok_putf C (wi_X11) tyX11 tyX11_ok nmX11 rfl (by decide) kw_1180 (Or.inl rfl) (Or.inl ⟨rfl, rfl⟩) (show decode cX11_log 2 = .ok (.putfield 1, 3) from dk_at dq42_0 (i := 2) rfl) rfl, ?_⟩
  refine List.forall_mem_cons.mpr ⟨ok_iload_n C (show decode cX11_log 5 = .ok (.iload_n 1, 1) from dk_at dq42_0 (i := 3) rfl) rfl rfl, ?_⟩
  refine List.forall_mem_cons.mpr ⟨ok_iconst C (show decode cX11_log 6 = .ok (.iconst 0, 1) from dk_at dq42_0 (i := 4) rfl) (by decide) rfl, ?_⟩
  refine List.forall_mem_cons.mpr ⟨ok_iconst C (show decode cX11_log 7 = .ok (.iconst 1, 1) from dk_at dq42_0 (i := 5) rfl) (by decide) rfl, ?_⟩
  refine List.forall_mem_cons.mpr ⟨ok_callS C h_X11_isIn ⟨rfl, rfl⟩ kw_1355 kw_1353 kw_1354 kw_11 ds_X11_isIn ⟨by decide, by decide⟩ (show decode cX11_log 8 = .ok (.invokestatic 179, 3) from dk_at dq42_0 (i := 6) rfl) rfl, ?_⟩
  refine List.forall_mem_cons.mpr ⟨ok_ifne C (show decode cX11_log 11 = .ok (.ifCond .ne 7, 3) from dk_at dq42_0 (i := 7) rfl) (tg := 18) (by decide) rfl rfl, ?_⟩
  refine List.forall_mem_cons.mpr ⟨ok_sipush C (show decode cX11_log 14 = .ok (.sipush (-1000), 3) from dk_at dq42_0 (i := 8) rfl) (by decide) rfl, ?_⟩
  refine List.forall_mem_cons.mpr ⟨ok_ret C rfl (show decode cX11_log 17 = .ok (.ireturn, 1) from dk_at dq42_0 (i := 9) rfl), ?_⟩
  refine List.forall_mem_cons.mpr ⟨ok_aload_n C (show decode cX11_log 18 = .ok (.aload_n 0, 1) from dk_at dq42_0 (i := 10) rfl) rfl rfl, ?_⟩
  refine List.forall_mem_cons.mpr ⟨ok_sipush C (show decode cX11_log 19 = .ok (.sipush 400, 3) from dk_at dq42_0 (i := 11) rfl) (by decide) rfl, ?_⟩
  refine List.forall_mem_cons.mpr ⟨ok_callV C h_X11_taken ⟨rfl, rfl⟩ rfl kw_1318 kw_1315 kw_1317 kp_48 kw_11 rfl ds_X11_taken ⟨by decide, by decide⟩ (show decode cX11_log 22 = .ok (.invokevirtual 224, 3) from dk_at dq42_0 (i := 12) rfl) rfl, ?_⟩
  refine List.forall_mem_cons.mpr ⟨ok_aload_n C (show decode cX11_log 25 = .ok (.aload_n 0, 1) from dk_at dq42_0 (i := 13) rfl) rfl rfl, ?_⟩
  refine List.forall_mem_cons.mpr ⟨ok_iconst C (show decode cX11_log 26 = .ok (.iconst 0, 1) from dk_at dq42_0 (i := 14) rfl) (by decide) rfl, ?_⟩
  refine List.forall_mem_cons.mpr ⟨ok_putf C (wi_X11) tyX11 tyX11_ok nmX11 rfl (by decide) kw_1195 (Or.inl rfl) (Or.inl ⟨rfl, rfl⟩) (show decode cX11_log 27 = .ok (.putfield 164, 3) from dk_at dq42_0 (i := 15) rfl) rfl, ?_⟩
  refine List.forall_mem_cons.mpr ⟨ok_aload_n C (show decode cX11_log 30 = .ok (.aload_n 0, 1) from dk_at dq42_1 (i := 0) rfl) rfl rfl, ?_⟩
  refine List.forall_mem_cons.mpr ⟨ok_iconst C (show decode cX11_log 31 = .ok (.iconst 0, 1) from dk_at dq42_1 (i := 1) rfl) (by decide) rfl, ?_⟩
  refine List.forall_mem_cons.mpr ⟨ok_putf C (wi_X11) tyX11 tyX11_ok nmX11 rfl (by decide) kw_1210 (Or.inl rfl) (Or.inl ⟨rfl, rfl⟩) (show decode cX11_log 32 = .ok (.putfield 348, 3) from dk_at dq42_1 (i := 2) rfl) rfl, ?_⟩
  refine List.forall_mem_cons.mpr ⟨ok_aload_n C (show decode cX11_log 35 = .ok (.aload_n 0, 1) from dk_at dq42_1 (i := 3) rfl) rfl rfl, ?_⟩
  refine List.forall_mem_cons.mpr ⟨ok_callV C h_X11_next ⟨rfl, rfl⟩ rfl kw_1322 kw_1319 kw_1321 kp_49 kw_11 rfl ds_X11_next ⟨by decide, by decide⟩ (show decode cX11_log 36 = .ok (.invokevirtual 176, 3) from dk_at dq42_1 (i := 4) rfl) rfl, ?_⟩
  refine List.forall_mem_cons.mpr ⟨ok_aload_n C (show decode cX11_log 39 = .ok (.aload_n 0, 1) from dk_at dq42_1 (i := 5) rfl) rfl rfl, ?_⟩
  refine List.forall_mem_cons.mpr ⟨ok_getf C (wi_X11) rfl (by decide) kw_1191 (show decode cX11_log 40 = .ok (.getfield 147, 3) from dk_at dq42_1 (i := 6) rfl) rfl, ?_⟩
  refine List.forall_mem_cons.mpr ⟨ok_ifeq C (show decode cX11_log 43 = .ok (.ifCond .eq 40, 3) from dk_at dq42_1 (i := 7) rfl) (tg := 83) (by decide) rfl rfl, ?_⟩
  refine List.forall_mem_cons.mpr ⟨ok_aload_n C (show decode cX11_log 46 = .ok (.aload_n 0, 1) from dk_at dq42_1 (i := 8) rfl) rfl rfl, ?_⟩
  refine List.forall_mem_cons.mpr ⟨ok_callV C h_X11_logLine ⟨rfl, rfl⟩ rfl kw_1652 kw_1649 kw_1651 kp_94 kw_11 rfl ds_X11_logLine ⟨by decide, by decide⟩ (show decode cX11_log 47 = .ok (.invokevirtual 351, 3) from dk_at dq42_1 (i := 9) rfl) rfl, ?_⟩
  refine List.forall_mem_cons.mpr ⟨ok_ifeq C (show decode cX11_log 50 = .ok (.ifCond .eq 12, 3) from dk_at dq42_1 (i := 10) rfl) (tg := 62) (by decide) rfl rfl, ?_⟩
  refine List.forall_mem_cons.mpr ⟨ok_aload_n C (show decode cX11_log 53 = .ok (.aload_n 0, 1) from dk_at dq42_1 (i := 11) rfl) rfl rfl, ?_⟩
  refine List.forall_mem_cons.mpr ⟨ok_bipush C (show decode cX11_log 54 = .ok (.bipush 59, 2) from dk_at dq42_1 (i := 12) rfl) (by decide) rfl, ?_⟩
  refine List.forall_mem_cons.mpr ⟨ok_callV C h_X11_sign ⟨rfl, rfl⟩ rfl kw_1386 kw_1383 kw_1385 kp_62 kw_11 rfl ds_X11_sign ⟨by decide, by decide⟩ (show decode cX11_log 56 = .ok (.invokevirtual 233, 3) from dk_at dq42_1 (i := 13) rfl) rfl, ?_⟩
  refine List.forall_mem_cons.mpr ⟨ok_ifne C (show decode cX11_log 59 = .ok (.ifCond .ne 11, 3) from dk_at dq42_1 (i := 14) rfl) (tg := 70) (by decide) rfl rfl, ?_⟩
  refine List.forall_mem_cons.mpr ⟨ok_bipush C (show decode cX11_log 62 = .ok (.bipush (-2), 2) from dk_at dq42_1 (i := 15) rfl) (by decide) rfl, ?_⟩
  refine List.forall_mem_cons.mpr ⟨ok_aload_n C (show decode cX11_log 64 = .ok (.aload_n 0, 1) from dk_at dq42_2 (i := 0) rfl) rfl rfl, ?_⟩
  refine List.forall_mem_cons.mpr ⟨ok_getf C (wi_X11) rfl (by decide) kw_1196 (show decode cX11_log 65 = .ok (.getfield 167, 3) from dk_at dq42_2 (i := 1) rfl) rfl, ?_⟩
  refine List.forall_mem_cons.mpr ⟨ok_isub C (show decode cX11_log 68 = .ok (.isub, 1) from dk_at dq42_2 (i := 2) rfl) rfl, ?_⟩
  refine List.forall_mem_cons.mpr ⟨ok_ret C rfl (show decode cX11_log 69 = .ok (.ireturn, 1) from dk_at dq42_2 (i := 3) rfl), ?_⟩
  refine List.forall_mem_cons.mpr ⟨ok_aload_n C (show decode cX11_log 70 = .ok (.aload_n 0, 1) from dk_at dq42_2 (i := 4) rfl) rfl rfl, ?_⟩
  refine List.forall_mem_cons.mpr ⟨ok_dup C (show decode cX11_log 71 = .ok (.dup, 1) from dk_at dq42_2 (i := 5) rfl) rfl, ?_⟩
  refine List.forall_mem_cons.mpr ⟨ok_getf C (wi_X11) rfl (by decide) kw_1210 (show decode cX11_log 72 = .ok (.getfield 348, 3) from dk_at dq42_2 (i := 6) rfl) rfl, ?_⟩
  refine List.forall_mem_cons.mpr ⟨ok_iconst C (show decode cX11_log 75 = .ok (.iconst 1, 1) from dk_at dq42_2 (i := 7) rfl) (by decide) rfl, ?_⟩
  refine List.forall_mem_cons.mpr ⟨ok_iadd C (show decode cX11_log 76 = .ok (.iadd, 1) from dk_at dq42_2 (i := 8) rfl) rfl, ?_⟩
  refine List.forall_mem_cons.mpr ⟨ok_putf C (wi_X11) tyX11 tyX11_ok nmX11 rfl (by decide) kw_1210 (Or.inl rfl) (Or.inl ⟨rfl, rfl⟩) (show decode cX11_log 77 = .ok (.putfield 348, 3) from dk_at dq42_2 (i := 9) rfl) rfl, ?_⟩
  refine List.forall_mem_cons.mpr ⟨ok_goto C (show decode cX11_log 80 = .ok (.goto (-41), 3) from dk_at dq42_2 (i := 10) rfl) (tg := 39) (by decide) rfl, ?_⟩
  refine List.forall_mem_cons.mpr ⟨ok_aload_n C (show decode cX11_log 83 = .ok (.aload_n 0, 1) from dk_at dq42_2 (i := 11) rfl) rfl rfl, ?_⟩
  refine List.forall_mem_cons.mpr ⟨ok_callV C h_X11_tries ⟨rfl, rfl⟩ rfl kw_1556 kw_1553 kw_1555 kp_86 kw_11 rfl ds_X11_tries ⟨by decide, by decide⟩ (show decode cX11_log 84 = .ok (.invokevirtual 317, 3) from dk_at dq42_2 (i := 12) rfl) rfl, ?_⟩
  refine List.forall_mem_cons.mpr ⟨ok_iconst C (show decode cX11_log 87 = .ok (.iconst 0, 1) from dk_at dq42_2 (i := 13) rfl) (by decide) rfl, ?_⟩
  refine List.forall_mem_cons.mpr ⟨ok_istore_n C (show decode cX11_log 88 = .ok (.istore_n 2, 1) from dk_at dq42_2 (i := 14) rfl) rfl (by decide) rfl, ?_⟩
  refine List.forall_mem_cons.mpr ⟨ok_iload_n C (show decode cX11_log 89 = .ok (.iload_n 2, 1) from dk_at dq42_2 (i := 15) rfl) rfl rfl, ?_⟩
  refine List.forall_mem_cons.mpr ⟨ok_iconst C (show decode cX11_log 90 = .ok (.iconst 4, 1) from dk_at dq42_3 (i := 0) rfl) (by decide) rfl, ?_⟩
  refine List.forall_mem_cons.mpr ⟨ok_icmpge C (show decode cX11_log 91 = .ok (.if_icmp .ge 16, 3) from dk_at dq42_3 (i := 1) rfl) (tg := 107) (by decide) rfl rfl, ?_⟩
  refine List.forall_mem_cons.mpr ⟨ok_aload_n C (show decode cX11_log 94 = .ok (.aload_n 0, 1) from dk_at dq42_3 (i := 2) rfl) rfl rfl, ?_⟩
  refine List.forall_mem_cons.mpr ⟨ok_getf C (wi_X11) rfl (by decide) kw_1211 (show decode cX11_log 95 = .ok (.getfield 68, 3) from dk_at dq42_3 (i := 3) rfl) rfl, ?_⟩
  refine List.forall_mem_cons.mpr ⟨ok_iload_n C (show decode cX11_log 98 = .ok (.iload_n 2, 1) from dk_at dq42_3 (i := 4) rfl) rfl rfl, ?_⟩
  refine List.forall_mem_cons.mpr ⟨ok_iconst C (show decode cX11_log 99 = .ok (.iconst 0, 1) from dk_at dq42_3 (i := 5) rfl) (by decide) rfl, ?_⟩
  refine List.forall_mem_cons.mpr ⟨ok_iastore C (show decode cX11_log 100 = .ok (.iastore, 1) from dk_at dq42_3 (i := 6) rfl) rfl, ?_⟩
  refine List.forall_mem_cons.mpr ⟨ok_iinc C (show decode cX11_log 101 = .ok (.iinc 2 1, 3) from dk_at dq42_3 (i := 7) rfl) (by decide) (by decide) rfl, ?_⟩
  refine List.forall_mem_cons.mpr ⟨ok_goto C (show decode cX11_log 104 = .ok (.goto (-15), 3) from dk_at dq42_3 (i := 8) rfl) (tg := 89) (by decide) rfl, ?_⟩
  refine List.forall_mem_cons.mpr ⟨ok_aload_n C (show decode cX11_log 107 = .ok (.aload_n 0, 1) from dk_at dq42_3 (i := 9) rfl) rfl rfl, ?_⟩
  refine List.forall_mem_cons.mpr ⟨ok_getf C (wi_X11) rfl (by decide) kw_1186 (show decode cX11_log 108 = .ok (.getfield 33, 3) from dk_at dq42_3 (i := 10) rfl) rfl, ?_⟩
  refine List.forall_mem_cons.mpr ⟨ok_bipush C (show decode cX11_log 111 = .ok (.bipush 123, 2) from dk_at dq42_3 (i := 11) rfl) (by decide) rfl, ?_⟩
  refine List.forall_mem_cons.mpr ⟨ok_iaload C (show decode cX11_log 113 = .ok (.iaload, 1) from dk_at dq42_3 (i := 12) rfl) rfl, ?_⟩
  refine List.forall_mem_cons.mpr ⟨ok_istore_n C (show decode cX11_log 114 = .ok (.istore_n 2, 1) from dk_at dq42_3 (i := 13) rfl) rfl (by decide) rfl, ?_⟩
  refine List.forall_mem_cons.mpr ⟨ok_iconst C (show decode cX11_log 115 = .ok (.iconst (-1), 1) from dk_at dq42_3 (i := 14) rfl) (by decide) rfl, ?_⟩
  refine List.forall_mem_cons.mpr ⟨ok_istore_n C (show decode cX11_log 116 = .ok (.istore_n 3, 1) from dk_at dq42_3 (i := 15) rfl) rfl (by decide) rfl, ?_⟩
  refine List.forall_mem_cons.mpr ⟨ok_iconst C (show decode cX11_log 117 = .ok (.iconst 0, 1) from dk_at dq42_4 (i := 0) rfl) (by decide) rfl, ?_⟩
  refine List.forall_mem_cons.mpr ⟨ok_istore C (show decode cX11_log 118 = .ok (.istore 4, 2) from dk_at dq42_4 (i := 1) rfl) (by decide) rfl, ?_⟩
  refine List.forall_mem_cons.mpr ⟨ok_iload C (show decode cX11_log 120 = .ok (.iload 4, 2) from dk_at dq42_4 (i := 2) rfl) rfl, ?_⟩
  refine List.forall_mem_cons.mpr ⟨ok_aload_n C (show decode cX11_log 122 = .ok (.aload_n 0, 1) from dk_at dq42_4 (i := 3) rfl) rfl rfl, ?_⟩
  refine List.forall_mem_cons.mpr ⟨ok_getf C (wi_X11) rfl (by decide) kw_1210 (show decode cX11_log 123 = .ok (.getfield 348, 3) from dk_at dq42_4 (i := 4) rfl) rfl, ?_⟩
  refine List.forall_mem_cons.mpr ⟨ok_icmpge C (show decode cX11_log 126 = .ok (.if_icmp .ge 90, 3) from dk_at dq42_4 (i := 5) rfl) (tg := 216) (by decide) rfl rfl, ?_⟩
  refine List.forall_mem_cons.mpr ⟨ok_iload_n C (show decode cX11_log 129 = .ok (.iload_n 3, 1) from dk_at dq42_4 (i := 6) rfl) rfl rfl, ?_⟩
  refine List.forall_mem_cons.mpr ⟨ok_ifge C (show decode cX11_log 130 = .ok (.ifCond .ge 86, 3) from dk_at dq42_4 (i := 7) rfl) (tg := 216) (by decide) rfl rfl, ?_⟩
  refine List.forall_mem_cons.mpr ⟨ok_aload_n C (show decode cX11_log 133 = .ok (.aload_n 0, 1) from dk_at dq42_4 (i := 8) rfl) rfl rfl, ?_⟩
  refine List.forall_mem_cons.mpr ⟨ok_getf C (wi_X11) rfl (by decide) kw_1211 (show decode cX11_log 134 = .ok (.getfield 68, 3) from dk_at dq42_4 (i := 9) rfl) rfl, ?_⟩
  refine List.forall_mem_cons.mpr ⟨ok_iconst C (show decode cX11_log 137 = .ok (.iconst 0, 1) from dk_at dq42_4 (i := 10) rfl) (by decide) rfl, ?_⟩
  refine List.forall_mem_cons.mpr ⟨ok_aload_n C (show decode cX11_log 138 = .ok (.aload_n 0, 1) from dk_at dq42_4 (i := 11) rfl) rfl rfl, ?_⟩
  refine List.forall_mem_cons.mpr ⟨ok_aload_n C (show decode cX11_log 139 = .ok (.aload_n 0, 1) from dk_at dq42_4 (i := 12) rfl) rfl rfl, ?_⟩
  refine List.forall_mem_cons.mpr ⟨ok_getf C (wi_X11) rfl (by decide) kw_1188 (show decode cX11_log 140 = .ok (.getfield 40, 3) from dk_at dq42_4 (i := 13) rfl) rfl, ?_⟩
  refine List.forall_mem_cons.mpr ⟨ok_iconst C (show decode cX11_log 143 = .ok (.iconst 4, 1) from dk_at dq42_4 (i := 14) rfl) (by decide) rfl, ?_⟩
  refine List.forall_mem_cons.mpr ⟨ok_iload C (show decode cX11_log 144 = .ok (.iload 4, 2) from dk_at dq42_4 (i := 15) rfl) rfl, ?_⟩
  refine List.forall_mem_cons.mpr ⟨ok_imul C (show decode cX11_log 146 = .ok (.imul, 1) from dk_at dq42_5 (i := 0) rfl) rfl, ?_⟩
  refine List.forall_mem_cons.mpr ⟨ok_iaload C (show decode cX11_log 147 = .ok (.iaload, 1) from dk_at dq42_5 (i := 1) rfl) rfl, ?_⟩
  refine List.forall_mem_cons.mpr ⟨ok_aload_n C (show decode cX11_log 148 = .ok (.aload_n 0, 1) from dk_at dq42_5 (i := 2) rfl) rfl rfl, ?_⟩
  refine List.forall_mem_cons.mpr ⟨ok_getf C (wi_X11) rfl (by decide) kw_1188 (show decode cX11_log 149 = .ok (.getfield 40, 3) from dk_at dq42_5 (i := 3) rfl) rfl, ?_⟩
  refine List.forall_mem_cons.mpr ⟨ok_iconst C (show decode cX11_log 152 = .ok (.iconst 4, 1) from dk_at dq42_5 (i := 4) rfl) (by decide) rfl, ?_⟩
  refine List.forall_mem_cons.mpr ⟨ok_iload C (show decode cX11_log 153 = .ok (.iload 4, 2) from dk_at dq42_5 (i := 5) rfl) rfl, ?_⟩
  refine List.forall_mem_cons.mpr ⟨ok_imul C (show decode cX11_log 155 = .ok (.imul, 1) from dk_at dq42_5 (i := 6) rfl) rfl, ?_⟩
  refine List.forall_mem_cons.mpr ⟨ok_iconst C (show decode cX11_log 156 = .ok (.iconst 1, 1) from dk_at dq42_5 (i := 7) rfl) (by decide) rfl, ?_⟩
  refine List.forall_mem_cons.mpr ⟨ok_iadd C (show decode cX11_log 157 = .ok (.iadd, 1) from dk_at dq42_5 (i := 8) rfl) rfl, ?_⟩
  refine List.forall_mem_cons.mpr ⟨ok_iaload C (show decode cX11_log 158 = .ok (.iaload, 1) from dk_at dq42_5 (i := 9) rfl) rfl, ?_⟩
  refine List.forall_mem_cons.mpr ⟨ok_aload_n C (show decode cX11_log 159 = .ok (.aload_n 0, 1) from dk_at dq42_5 (i := 10) rfl) rfl rfl, ?_⟩
  refine List.forall_mem_cons.mpr ⟨ok_getf C (wi_X11) rfl (by decide) kw_1188 (show decode cX11_log 160 = .ok (.getfield 40, 3) from dk_at dq42_5 (i := 11) rfl) rfl, ?_⟩
  refine List.forall_mem_cons.mpr ⟨ok_iconst C (show decode cX11_log 163 = .ok (.iconst 4, 1) from dk_at dq42_5 (i := 12) rfl) (by decide) rfl, ?_⟩
  refine List.forall_mem_cons.mpr ⟨ok_iload C (show decode cX11_log 164 = .ok (.iload 4, 2) from dk_at dq42_5 (i := 13) rfl) rfl, ?_⟩
  refine List.forall_mem_cons.mpr ⟨ok_imul C (show decode cX11_log 166 = .ok (.imul, 1) from dk_at dq42_5 (i := 14) rfl) rfl, ?_⟩
  refine List.forall_mem_cons.mpr ⟨ok_iconst C (show decode cX11_log 167 = .ok (.iconst 2, 1) from dk_at dq42_5 (i := 15) rfl) (by decide) rfl, ?_⟩
  refine List.forall_mem_cons.mpr ⟨ok_iadd C (show decode cX11_log 168 = .ok (.iadd, 1) from dk_at dq42_6 (i := 0) rfl) rfl, ?_⟩
  refine List.forall_mem_cons.mpr ⟨ok_iaload C (show decode cX11_log 169 = .ok (.iaload, 1) from dk_at dq42_6 (i := 1) rfl) rfl, ?_⟩
  refine List.forall_mem_cons.mpr ⟨ok_aload_n C (show decode cX11_log 170 = .ok (.aload_n 0, 1) from dk_at dq42_6 (i := 2) rfl) rfl rfl, ?_⟩
  refine List.forall_mem_cons.mpr ⟨ok_getf C (wi_X11) rfl (by decide) kw_1188 (show decode cX11_log 171 = .ok (.getfield 40, 3) from dk_at dq42_6 (i := 3) rfl) rfl, ?_⟩
  refine List.forall_mem_cons.mpr ⟨ok_iconst C (show decode cX11_log 174 = .ok (.iconst 4, 1) from dk_at dq42_6 (i := 4) rfl) (by decide) rfl, ?_⟩
  refine List.forall_mem_cons.mpr ⟨ok_iload C (show decode cX11_log 175 = .ok (.iload 4, 2) from dk_at dq42_6 (i := 5) rfl) rfl, ?_⟩
  refine List.forall_mem_cons.mpr ⟨ok_imul C (show decode cX11_log 177 = .ok (.imul, 1) from dk_at dq42_6 (i := 6) rfl) rfl, ?_⟩
  refine List.forall_mem_cons.mpr ⟨ok_iconst C (show decode cX11_log 178 = .ok (.iconst 3, 1) from dk_at dq42_6 (i := 7) rfl) (by decide) rfl, ?_⟩
  refine List.forall_mem_cons.mpr ⟨ok_iadd C (show decode cX11_log 179 = .ok (.iadd, 1) from dk_at dq42_6 (i := 8) rfl) rfl, ?_⟩
  refine List.forall_mem_cons.mpr ⟨ok_iaload C (show decode cX11_log 180 = .ok (.iaload, 1) from dk_at dq42_6 (i := 9) rfl) rfl, ?_⟩
  refine List.forall_mem_cons.mpr ⟨ok_callV C h_X11_does ⟨rfl, rfl⟩ rfl kw_1656 kw_1653 kw_1655 kp_95 kw_11 rfl ds_X11_does ⟨by decide, by decide⟩ (show decode cX11_log 181 = .ok (.invokevirtual 354, 3) from dk_at dq42_6 (i := 10) rfl) rfl, ?_⟩
  refine List.forall_mem_cons.mpr ⟨ok_iastore C (show decode cX11_log 184 = .ok (.iastore, 1) from dk_at dq42_6 (i := 11) rfl) rfl, ?_⟩
  refine List.forall_mem_cons.mpr ⟨ok_aload_n C (show decode cX11_log 185 = .ok (.aload_n 0, 1) from dk_at dq42_6 (i := 12) rfl) rfl rfl, ?_⟩
  refine List.forall_mem_cons.mpr ⟨ok_getf C (wi_X11) rfl (by decide) kw_1211 (show decode cX11_log 186 = .ok (.getfield 68, 3) from dk_at dq42_6 (i := 13) rfl) rfl, ?_⟩
  refine List.forall_mem_cons.mpr ⟨ok_iconst C (show decode cX11_log 189 = .ok (.iconst 0, 1) from dk_at dq42_6 (i := 14) rfl) (by decide) rfl, ?_⟩
  refine List.forall_mem_cons.mpr ⟨ok_iaload C (show decode cX11_log 190 = .ok (.iaload, 1) from dk_at dq42_6 (i := 15) rfl) rfl, ?_⟩
  refine List.forall_mem_cons.mpr ⟨ok_ifle C (show decode cX11_log 191 = .ok (.ifCond .le 9, 3) from dk_at dq42_7 (i := 0) rfl) (tg := 200) (by decide) rfl rfl, ?_⟩
  refine List.forall_mem_cons.mpr ⟨ok_iload C (show decode cX11_log 194 = .ok (.iload 4, 2) from dk_at dq42_7 (i := 1) rfl) rfl, ?_⟩
  refine List.forall_mem_cons.mpr ⟨ok_istore_n C (show decode cX11_log 196 = .ok (.istore_n 3, 1) from dk_at dq42_7 (i := 2) rfl) rfl (by decide) rfl, ?_⟩
  refine List.forall_mem_cons.mpr ⟨ok_goto C (show decode cX11_log 197 = .ok (.goto 13, 3) from dk_at dq42_7 (i := 3) rfl) (tg := 210) (by decide) rfl, ?_⟩
  refine List.forall_mem_cons.mpr ⟨ok_aload_n C (show decode cX11_log 200 = .ok (.aload_n 0, 1) from dk_at dq42_7 (i := 4) rfl) rfl rfl, ?_⟩
  refine List.forall_mem_cons.mpr ⟨ok_getf C (wi_X11) rfl (by decide) kw_1211 (show decode cX11_log 201 = .ok (.getfield 68, 3) from dk_at dq42_7 (i := 5) rfl) rfl, ?_⟩
  refine List.forall_mem_cons.mpr ⟨ok_iconst C (show decode cX11_log 204 = .ok (.iconst 1, 1) from dk_at dq42_7 (i := 6) rfl) (by decide) rfl, ?_⟩
  refine List.forall_mem_cons.mpr ⟨ok_dup2 C (show decode cX11_log 205 = .ok (.dup2, 1) from dk_at dq42_7 (i := 7) rfl) rfl, ?_⟩
  refine List.forall_mem_cons.mpr ⟨ok_iaload C (show decode cX11_log 206 = .ok (.iaload, 1) from dk_at dq42_7 (i := 8) rfl) rfl, ?_⟩
  refine List.forall_mem_cons.mpr ⟨ok_iconst C (show decode cX11_log 207 = .ok (.iconst 1, 1) from dk_at dq42_7 (i := 9) rfl) (by decide) rfl, ?_⟩
  refine List.forall_mem_cons.mpr ⟨ok_iadd C (show decode cX11_log 208 = .ok (.iadd, 1) from dk_at dq42_7 (i := 10) rfl) rfl, ?_⟩
  refine List.forall_mem_cons.mpr ⟨ok_iastore C (show decode cX11_log 209 = .ok (.iastore, 1) from dk_at dq42_7 (i := 11) rfl) rfl, ?_⟩
  refine List.forall_mem_cons.mpr ⟨ok_iinc C (show decode cX11_log 210 = .ok (.iinc 4 1, 3) from dk_at dq42_7 (i := 12) rfl) (by decide) (by decide) rfl, ?_⟩
  refine List.forall_mem_cons.mpr ⟨ok_goto C (show decode cX11_log 213 = .ok (.goto (-93), 3) from dk_at dq42_7 (i := 13) rfl) (tg := 120) (by decide) rfl, ?_⟩
  refine List.forall_mem_cons.mpr ⟨ok_aload_n C (show decode cX11_log 216 = .ok (.aload_n 0, 1) from dk_at dq42_7 (i := 14) rfl) rfl rfl, ?_⟩
  refine List.forall_mem_cons.mpr ⟨ok_getf C (wi_X11) rfl (by decide) kw_1211 (show decode cX11_log 217 = .ok (.getfield 68, 3) from dk_at dq42_7 (i := 15) rfl) rfl, ?_⟩
  refine List.forall_mem_cons.mpr ⟨ok_iconst C (show decode cX11_log 220 = .ok (.iconst 2, 1) from dk_at dq42_8 (i := 0) rfl) (by decide) rfl, ?_⟩
  refine List.forall_mem_cons.mpr ⟨ok_aload_n C (show decode cX11_log 221 = .ok (.aload_n 0, 1) from dk_at dq42_8 (i := 1) rfl) rfl rfl, ?_⟩
  refine List.forall_mem_cons.mpr ⟨ok_getf C (wi_X11) rfl (by decide) kw_1186 (show decode cX11_log 222 = .ok (.getfield 33, 3) from dk_at dq42_8 (i := 2) rfl) rfl, ?_⟩
  refine List.forall_mem_cons.mpr ⟨ok_bipush C (show decode cX11_log 225 = .ok (.bipush 120, 2) from dk_at dq42_8 (i := 3) rfl) (by decide) rfl, ?_⟩
  refine List.forall_mem_cons.mpr ⟨ok_iaload C (show decode cX11_log 227 = .ok (.iaload, 1) from dk_at dq42_8 (i := 4) rfl) rfl, ?_⟩
  refine List.forall_mem_cons.mpr ⟨ok_iastore C (show decode cX11_log 228 = .ok (.iastore, 1) from dk_at dq42_8 (i := 5) rfl) rfl, ?_⟩
  refine List.forall_mem_cons.mpr ⟨ok_aload_n C (show decode cX11_log 229 = .ok (.aload_n 0, 1) from dk_at dq42_8 (i := 6) rfl) rfl rfl, ?_⟩
  refine List.forall_mem_cons.mpr ⟨ok_getf C (wi_X11) rfl (by decide) kw_1211 (show decode cX11_log 230 = .ok (.getfield 68, 3) from dk_at dq42_8 (i := 7) rfl) rfl, ?_⟩
  refine List.forall_mem_cons.mpr ⟨ok_iconst C (show decode cX11_log 233 = .ok (.iconst 3, 1) from dk_at dq42_8 (i := 8) rfl) (by decide) rfl, ?_⟩
  refine List.forall_mem_cons.mpr ⟨ok_aload_n C (show decode cX11_log 234 = .ok (.aload_n 0, 1) from dk_at dq42_8 (i := 9) rfl) rfl rfl, ?_⟩
  refine List.forall_mem_cons.mpr ⟨ok_getf C (wi_X11) rfl (by decide) kw_1186 (show decode cX11_log 235 = .ok (.getfield 33, 3) from dk_at dq42_8 (i := 10) rfl) rfl, ?_⟩
  refine List.forall_mem_cons.mpr ⟨ok_bipush C (show decode cX11_log 238 = .ok (.bipush 123, 2) from dk_at dq42_8 (i := 11) rfl) (by decide) rfl, ?_⟩
  refine List.forall_mem_cons.mpr ⟨ok_iaload C (show decode cX11_log 240 = .ok (.iaload, 1) from dk_at dq42_8 (i := 12) rfl) rfl, ?_⟩
  refine List.forall_mem_cons.mpr ⟨ok_iload_n C (show decode cX11_log 241 = .ok (.iload_n 2, 1) from dk_at dq42_8 (i := 13) rfl) rfl rfl, ?_⟩
  refine List.forall_mem_cons.mpr ⟨ok_isub C (show decode cX11_log 242 = .ok (.isub, 1) from dk_at dq42_8 (i := 14) rfl) rfl, ?_⟩
  refine List.forall_mem_cons.mpr ⟨ok_iastore C (show decode cX11_log 243 = .ok (.iastore, 1) from dk_at dq42_8 (i := 15) rfl) rfl, ?_⟩
  refine List.forall_mem_cons.mpr ⟨ok_aload_n C (show decode cX11_log 244 = .ok (.aload_n 0, 1) from dk_at dq42_9 (i := 0) rfl) rfl rfl, ?_⟩
  refine List.forall_mem_cons.mpr ⟨ok_iconst C (show decode cX11_log 245 = .ok (.iconst 1, 1) from dk_at dq42_9 (i := 1) rfl) (by decide) rfl, ?_⟩
  refine List.forall_mem_cons.mpr ⟨ok_putf C (wi_X11) tyX11 tyX11_ok nmX11 rfl (by decide) kw_1212 (Or.inl rfl) (Or.inr (Or.inr (Or.inr ⟨rfl, rfl⟩))) (show decode cX11_log 246 = .ok (.putfield 358, 3) from dk_at dq42_9 (i := 2) rfl) rfl, ?_⟩
  refine List.forall_mem_cons.mpr ⟨ok_iload_n C (show decode cX11_log 249 = .ok (.iload_n 1, 1) from dk_at dq42_9 (i := 3) rfl) rfl rfl, ?_⟩
  refine List.forall_mem_cons.mpr ⟨ok_iconst C (show decode cX11_log 250 = .ok (.iconst 1, 1) from dk_at dq42_9 (i := 4) rfl) (by decide) rfl, ?_⟩
  refine List.forall_mem_cons.mpr ⟨ok_icmpne C (show decode cX11_log 251 = .ok (.if_icmp .ne 58, 3) from dk_at dq42_9 (i := 5) rfl) (tg := 309) (by decide) rfl rfl, ?_⟩
  refine List.forall_mem_cons.mpr ⟨ok_aload_n C (show decode cX11_log 254 = .ok (.aload_n 0, 1) from dk_at dq42_9 (i := 6) rfl) rfl rfl, ?_⟩
  refine List.forall_mem_cons.mpr ⟨ok_getf C (wi_X11) rfl (by decide) kw_1211 (show decode cX11_log 255 = .ok (.getfield 68, 3) from dk_at dq42_9 (i := 7) rfl) rfl, ?_⟩
  refine List.forall_mem_cons.mpr ⟨ok_iconst C (show decode cX11_log 258 = .ok (.iconst 1, 1) from dk_at dq42_9 (i := 8) rfl) (by decide) rfl, ?_⟩
  refine List.forall_mem_cons.mpr ⟨ok_iaload C (show decode cX11_log 259 = .ok (.iaload, 1) from dk_at dq42_9 (i := 9) rfl) rfl, ?_⟩
  refine List.forall_mem_cons.mpr ⟨ok_ifle C (show decode cX11_log 260 = .ok (.ifCond .le 49, 3) from dk_at dq42_9 (i := 10) rfl) (tg := 309) (by decide) rfl rfl, ?_⟩
  refine List.forall_mem_cons.mpr ⟨ok_aload_n C (show decode cX11_log 263 = .ok (.aload_n 0, 1) from dk_at dq42_9 (i := 11) rfl) rfl rfl, ?_⟩
  refine List.forall_mem_cons.mpr ⟨ok_callV C h_X11_keep ⟨rfl, rfl⟩ rfl kw_1481 kw_1478 kw_1480 kp_78 kw_11 rfl ds_X11_keep ⟨by decide, by decide⟩ (show decode cX11_log 264 = .ok (.invokevirtual 304, 3) from dk_at dq42_9 (i := 12) rfl) rfl, ?_⟩
  refine List.forall_mem_cons.mpr ⟨ok_iconst C (show decode cX11_log 267 = .ok (.iconst 0, 1) from dk_at dq42_9 (i := 13) rfl) (by decide) rfl, ?_⟩
  refine List.forall_mem_cons.mpr ⟨ok_istore C (show decode cX11_log 268 = .ok (.istore 4, 2) from dk_at dq42_9 (i := 14) rfl) (by decide) rfl, ?_⟩
  refine List.forall_mem_cons.mpr ⟨ok_iload C (show decode cX11_log 270 = .ok (.iload 4, 2) from dk_at dq42_9 (i := 15) rfl) rfl, ?_⟩
  refine List.forall_mem_cons.mpr ⟨ok_sipush C (show decode cX11_log 272 = .ok (.sipush 133, 3) from dk_at dq42_10 (i := 0) rfl) (by decide) rfl, ?_⟩
  refine List.forall_mem_cons.mpr ⟨ok_icmpge C (show decode cX11_log 275 = .ok (.if_icmp .ge 34, 3) from dk_at dq42_10 (i := 1) rfl) (tg := 309) (by decide) rfl rfl, ?_⟩
  refine List.forall_mem_cons.mpr ⟨ok_aload_n C (show decode cX11_log 278 = .ok (.aload_n 0, 1) from dk_at dq42_10 (i := 2) rfl) rfl rfl, ?_⟩
  refine List.forall_mem_cons.mpr ⟨ok_getf C (wi_X11) rfl (by decide) kw_1203 (show decode cX11_log 279 = .ok (.getfield 53, 3) from dk_at dq42_10 (i := 3) rfl) rfl, ?_⟩
  refine List.forall_mem_cons.mpr ⟨ok_sipush C (show decode cX11_log 282 = .ok (.sipush 133, 3) from dk_at dq42_10 (i := 4) rfl) (by decide) rfl, ?_⟩
  refine List.forall_mem_cons.mpr ⟨ok_aload_n C (show decode cX11_log 285 = .ok (.aload_n 0, 1) from dk_at dq42_10 (i := 5) rfl) rfl rfl, ?_⟩
  refine List.forall_mem_cons.mpr ⟨ok_getf C (wi_X11) rfl (by decide) kw_1205 (show decode cX11_log 286 = .ok (.getfield 236, 3) from dk_at dq42_10 (i := 6) rfl) rfl, ?_⟩
  refine List.forall_mem_cons.mpr ⟨ok_iconst C (show decode cX11_log 289 = .ok (.iconst 1, 1) from dk_at dq42_10 (i := 7) rfl) (by decide) rfl, ?_⟩
  refine List.forall_mem_cons.mpr ⟨ok_isub C (show decode cX11_log 290 = .ok (.isub, 1) from dk_at dq42_10 (i := 8) rfl) rfl, ?_⟩
  refine List.forall_mem_cons.mpr ⟨ok_imul C (show decode cX11_log 291 = .ok (.imul, 1) from dk_at dq42_10 (i := 9) rfl) rfl, ?_⟩
  refine List.forall_mem_cons.mpr ⟨ok_iload C (show decode cX11_log 292 = .ok (.iload 4, 2) from dk_at dq42_10 (i := 10) rfl) rfl, ?_⟩
  refine List.forall_mem_cons.mpr ⟨ok_iadd C (show decode cX11_log 294 = .ok (.iadd, 1) from dk_at dq42_10 (i := 11) rfl) rfl, ?_⟩
  refine List.forall_mem_cons.mpr ⟨ok_aload_n C (show decode cX11_log 295 = .ok (.aload_n 0, 1) from dk_at dq42_10 (i := 12) rfl) rfl rfl, ?_⟩
  refine List.forall_mem_cons.mpr ⟨ok_getf C (wi_X11) rfl (by decide) kw_1204 (show decode cX11_log 296 = .ok (.getfield 56, 3) from dk_at dq42_10 (i := 13) rfl) rfl, ?_⟩
  refine List.forall_mem_cons.mpr ⟨ok_iload C (show decode cX11_log 299 = .ok (.iload 4, 2) from dk_at dq42_10 (i := 14) rfl) rfl, ?_⟩
  refine List.forall_mem_cons.mpr ⟨ok_iaload C (show decode cX11_log 301 = .ok (.iaload, 1) from dk_at dq42_10 (i := 15) rfl) rfl, ?_⟩
  refine List.forall_mem_cons.mpr ⟨ok_iastore C (show decode cX11_log 302 = .ok (.iastore, 1) from dk_at dq42_11 (i := 0) rfl) rfl, ?_⟩
  refine List.forall_mem_cons.mpr ⟨ok_iinc C (show decode cX11_log 303 = .ok (.iinc 4 1, 3) from dk_at dq42_11 (i := 1) rfl) (by decide) (by decide) rfl, ?_⟩
  refine List.forall_mem_cons.mpr ⟨ok_goto C (show decode cX11_log 306 = .ok (.goto (-36), 3) from dk_at dq42_11 (i := 2) rfl) (tg := 270) (by decide) rfl, ?_⟩
  refine List.forall_mem_cons.mpr ⟨ok_iload_n C (show decode cX11_log 309 = .ok (.iload_n 1, 1) from dk_at dq42_11 (i := 3) rfl) rfl rfl, ?_⟩
  refine List.forall_mem_cons.mpr ⟨ok_ifne C (show decode cX11_log 310 = .ok (.ifCond .ne 7, 3) from dk_at dq42_11 (i := 4) rfl) (tg := 317) (by decide) rfl rfl, ?_⟩
  refine List.forall_mem_cons.mpr ⟨ok_aload_n C (show decode cX11_log 313 = .ok (.aload_n 0, 1) from dk_at dq42_11 (i := 5) rfl) rfl rfl, ?_⟩
  refine List.forall_mem_cons.mpr ⟨ok_callV C h_X11_back ⟨rfl, rfl⟩ rfl kw_1560 kw_1557 kw_1559 kp_87 kw_11 rfl ds_X11_back ⟨by decide, by decide⟩ (show decode cX11_log 314 = .ok (.invokevirtual 320, 3) from dk_at dq42_11 (i := 6) rfl) rfl, ?_⟩
  refine List.forall_mem_cons.mpr ⟨ok_iload_n C (show decode cX11_log 317 = .ok (.iload_n 3, 1) from dk_at dq42_11 (i := 7) rfl) rfl rfl, ?_⟩
  refine List.forall_mem_cons.mpr ⟨ok_ret C rfl (show decode cX11_log 318 = .ok (.ireturn, 1) from dk_at dq42_11 (i := 8) rfl), ?_⟩
  exact fun _ h => absurd h List.not_mem_nil
def L_X11_logged (f_X11_isIn : List Value → ab_H → Option ab_O) : List (Nat × ab_A) := [
  (0, ab_nx 1 (ab_aload 0)),
  (1, ab_nx 2 (ab_lit (.int 0))),
  (2, ab_nx 5 (ab_putf 11 0 0)),
  (5, ab_nx 6 (ab_aload 0)),
  (6, ab_nx 9 (ab_getf 11 32)),
  (9, ab_if 12 30 (fun x => decide (x = 0))),
  (12, ab_nx 13 (ab_iload 1)),
  (13, ab_nx 14 (ab_lit (.int 0))),
  (14, ab_nx 15 (ab_lit (.int 3))),
  (15, ab_nx 18 (ab_call 3 f_X11_isIn 0 0 0 0)),
  (18, ab_if 21 30 (fun x => decide (x = 0))),
  (21, ab_nx 22 (ab_aload 0)),
  (22, ab_nx 25 (ab_getf 11 31)),
  (25, ab_nx 26 (ab_iload 1)),
  (26, ab_nx 27 (ab_ald 1)),
  (27, ab_goto 31),
  (30, ab_nx 31 (ab_lit (.int (-1)))),
  (31, ab_ret 0 0)]
set_option maxRecDepth 100000 in
theorem dq42_12 : ([(0, .aload_n 0, 1), (1, .iconst 0, 1), (2, .putfield 1, 3), (5, .aload_n 0, 1), (6, .getfield 358, 3), (9, .ifCond .eq 21, 3), (12, .iload_n 1, 1), (13, .iconst 0, 1), (14, .iconst 3, 1), (15, .invokestatic 179, 3), (18, .ifCond .eq 12, 3), (21, .aload_n 0, 1), (22, .getfield 68, 3), (25, .iload_n 1, 1), (26, .iaload, 1), (27, .goto 4, 3)] : List (Nat × Instr × Nat)).all (fun q => decide (decode cX11_logged q.1 = .ok q.2)) = true := by decide +kernel
set_option maxRecDepth 100000 in
theorem dq42_13 : ([(30, .iconst (-1), 1), (31, .ireturn, 1)] : List (Nat × Instr × Nat)).all (fun q => decide (decode cX11_logged q.1 = .ok q.2)) = true := by decide +kernel
set_option maxRecDepth 100000 in
set_option maxHeartbeats 4000000 in
theorem M_X11_logged {l : Launch} {b : ab_B} {D : va_G} {cA : Nat → ClassId} {f_X11_isIn : List Value → ab_H → Option ab_O} (h_X11_isIn : ab_M l b D ab_cl cA (ab_E0 b) yX11_isIn (Cond.code yX11_isIn cX11_isIn 3 (some .boolean) :: ab_G) ({ frames := 1, cells := 0, slots := 0, locals := 100 } : Room) f_X11_isIn) : ab_M l b D ab_cl cA (ab_E0 b) yX11_logged (Cond.code yX11_logged cX11_logged 2 (some .int) :: ab_G) ({ frames := 2, cells := 0, slots := 0, locals := 200 } : Room) (ab_X (ab_T (L_X11_logged f_X11_isIn)) 2) := by
  refine ab_meth (ret := (some .int)) (L_X11_logged f_X11_isIn) (by decide) rfl fun p e R s m args below meth c o C => ?_
  unfold L_X11_logged
  refine List.forall_mem_cons.mpr ⟨ok_aload_n C (show decode cX11_logged 0 = .ok (.aload_n 0, 1) from dk_at dq42_12 (i := 0) rfl) rfl rfl, ?_⟩
  refine List.forall_mem_cons.mpr ⟨ok_iconst C (show decode cX11_logged 1 = .ok (.iconst 0, 1) from dk_at dq42_12 (i := 1) rfl) (by decide) rfl, ?_⟩
  refine List.forall_mem_cons.mpr ⟨ok_putf C (wi_X11) tyX11 tyX11_ok nmX11 rfl (by decide) kw_1180 (Or.inl rfl) (Or.inl ⟨rfl, rfl⟩) (show decode cX11_logged 2 = .ok (.putfield 1, 3) from dk_at dq42_12 (i := 2) rfl) rfl, ?_⟩
  refine List.forall_mem_cons.mpr ⟨ok_aload_n C (show decode cX11_logged 5 = .ok (.aload_n 0, 1) from dk_at dq42_12 (i := 3) rfl) rfl rfl, ?_⟩
  refine List.forall_mem_cons.mpr ⟨ok_getf C (wi_X11) rfl (by decide) kw_1212 (show decode cX11_logged 6 = .ok (.getfield 358, 3) from dk_at dq42_12 (i := 4) rfl) rfl, ?_⟩
  refine List.forall_mem_cons.mpr ⟨ok_ifeq C (show decode cX11_logged 9 = .ok (.ifCond .eq 21, 3) from dk_at dq42_12 (i := 5) rfl) (tg := 30) (by decide) rfl rfl, ?_⟩
  refine List.forall_mem_cons.mpr ⟨ok_iload_n C (show decode cX11_logged 12 = .ok (.iload_n 1, 1) from dk_at dq42_12 (i := 6) rfl) rfl rfl, ?_⟩
  refine List.forall_mem_cons.mpr ⟨ok_iconst C (show decode cX11_logged 13 = .ok (.iconst 0, 1) from dk_at dq42_12 (i := 7) rfl) (by decide) rfl, ?_⟩
  refine List.forall_mem_cons.mpr ⟨ok_iconst C (show decode cX11_logged 14 = .ok (.iconst 3, 1) from dk_at dq42_12 (i := 8) rfl) (by decide) rfl, ?_⟩
  refine List.forall_mem_cons.mpr ⟨ok_callS C h_X11_isIn ⟨rfl, rfl⟩ kw_1355 kw_1353 kw_1354 kw_11 ds_X11_isIn ⟨by decide, by decide⟩ (show decode cX11_logged 15 = .ok (.invokestatic 179, 3) from dk_at dq42_12 (i := 9) rfl) rfl, ?_⟩
  refine List.forall_mem_cons.mpr ⟨ok_ifeq C (show decode cX11_logged 18 = .ok (.ifCond .eq 12, 3) from dk_at dq42_12 (i := 10) rfl) (tg := 30) (by decide) rfl rfl, ?_⟩
  refine List.forall_mem_cons.mpr ⟨ok_aload_n C (show decode cX11_logged 21 = .ok (.aload_n 0, 1) from dk_at dq42_12 (i := 11) rfl) rfl rfl, ?_⟩
  refine List.forall_mem_cons.mpr ⟨ok_getf C (wi_X11) rfl (by decide) kw_1211 (show decode cX11_logged 22 = .ok (.getfield 68, 3) from dk_at dq42_12 (i := 12) rfl) rfl, ?_⟩
  refine List.forall_mem_cons.mpr ⟨ok_iload_n C (show decode cX11_logged 25 = .ok (.iload_n 1, 1) from dk_at dq42_12 (i := 13) rfl) rfl rfl, ?_⟩
  refine List.forall_mem_cons.mpr ⟨ok_iaload C (show decode cX11_logged 26 = .ok (.iaload, 1) from dk_at dq42_12 (i := 14) rfl) rfl, ?_⟩
  refine List.forall_mem_cons.mpr ⟨ok_goto C (show decode cX11_logged 27 = .ok (.goto 4, 3) from dk_at dq42_12 (i := 15) rfl) (tg := 31) (by decide) rfl, ?_⟩
  refine List.forall_mem_cons.mpr ⟨ok_iconst C (show decode cX11_logged 30 = .ok (.iconst (-1), 1) from dk_at dq42_13 (i := 0) rfl) (by decide) rfl, ?_⟩
  refine List.forall_mem_cons.mpr ⟨ok_ret C rfl (show decode cX11_logged 31 = .ok (.ireturn, 1) from dk_at dq42_13 (i := 1) rfl), ?_⟩
  exact fun _ h => absurd h List.not_mem_nil
def L_X11_code : List (Nat × ab_A) := [
  (0, ab_nx 1 (ab_aload 0)),
  (1, ab_nx 4 (ab_getf 11 8)),
  (4, ab_nx 5 (ab_lit (.int 3))),
  (5, ab_nx 6 (ab_aload 0)),
  (6, ab_nx 9 (ab_getf 11 34)),
  (9, ab_nx 10 (ab_bin (fun x y => x * y))),
  (10, ab_nx 11 (ab_iload 1)),
  (11, ab_nx 12 (ab_ast 1)),
  (12, ab_nx 13 (ab_aload 0)),
  (13, ab_nx 16 (ab_getf 11 8)),
  (16, ab_nx 17 (ab_lit (.int 3))),
  (17, ab_nx 18 (ab_aload 0)),
  (18, ab_nx 21 (ab_getf 11 34)),
  (21, ab_nx 22 (ab_bin (fun x y => x * y))),
  (22, ab_nx 23 (ab_lit (.int 1))),
  (23, ab_nx 24 (ab_bin (fun x y => x + y))),
  (24, ab_nx 25 (ab_iload 2)),
  (25, ab_nx 26 (ab_ast 1)),
  (26, ab_nx 27 (ab_aload 0)),
  (27, ab_nx 30 (ab_getf 11 8)),
  (30, ab_nx 31 (ab_lit (.int 3))),
  (31, ab_nx 32 (ab_aload 0)),
  (32, ab_nx 35 (ab_getf 11 34)),
  (35, ab_nx 36 (ab_bin (fun x y => x * y))),
  (36, ab_nx 37 (ab_lit (.int 2))),
  (37, ab_nx 38 (ab_bin (fun x y => x + y))),
  (38, ab_nx 39 (ab_iload 3)),
  (39, ab_nx 40 (ab_ast 1)),
  (40, ab_nx 41 (ab_aload 0)),
  (41, ab_nx 42 ab_dup),
  (42, ab_nx 45 (ab_getf 11 34)),
  (45, ab_nx 46 (ab_lit (.int 1))),
  (46, ab_nx 47 (ab_bin (fun x y => x + y))),
  (47, ab_nx 50 (ab_putf 11 34 0)),
  (50, ab_vret 0 0)]
set_option maxRecDepth 100000 in
theorem dq42_14 : ([(0, .aload_n 0, 1), (1, .getfield 40, 3), (4, .iconst 3, 1), (5, .aload_n 0, 1), (6, .getfield 361, 3), (9, .imul, 1), (10, .iload_n 1, 1), (11, .iastore, 1), (12, .aload_n 0, 1), (13, .getfield 40, 3), (16, .iconst 3, 1), (17, .aload_n 0, 1), (18, .getfield 361, 3), (21, .imul, 1), (22, .iconst 1, 1), (23, .iadd, 1)] : List (Nat × Instr × Nat)).all (fun q => decide (decode cX11_code q.1 = .ok q.2)) = true := by decide +kernel
set_option maxRecDepth 100000 in
theorem dq42_15 : ([(24, .iload_n 2, 1), (25, .iastore, 1), (26, .aload_n 0, 1), (27, .getfield 40, 3), (30, .iconst 3, 1), (31, .aload_n 0, 1), (32, .getfield 361, 3), (35, .imul, 1), (36, .iconst 2, 1), (37, .iadd, 1), (38, .iload_n 3, 1), (39, .iastore, 1), (40, .aload_n 0, 1), (41, .dup, 1), (42, .getfield 361, 3), (45, .iconst 1, 1)] : List (Nat × Instr × Nat)).all (fun q => decide (decode cX11_code q.1 = .ok q.2)) = true := by decide +kernel
set_option maxRecDepth 100000 in
theorem dq42_16 : ([(46, .iadd, 1), (47, .putfield 361, 3), (50, .return_, 1)] : List (Nat × Instr × Nat)).all (fun q => decide (decode cX11_code q.1 = .ok q.2)) = true := by decide +kernel
set_option maxRecDepth 100000 in
set_option maxHeartbeats 4000000 in
theorem M_X11_code {l : Launch} {b : ab_B} {D : va_G} {cA : Nat → ClassId} : ab_M l b D ab_cl cA (ab_E0 b) yX11_code (Cond.code yX11_code cX11_code 4 none :: ab_G) ({ frames := 1, cells := 0, slots := 0, locals := 100 } : Room) (ab_X (ab_T L_X11_code) 4) := by
  refine ab_meth (ret := none) L_X11_code (by decide) rfl fun p e R s m args below meth c o C => ?_
  unfold L_X11_code
  refine List.forall_mem_cons.mpr ⟨ok_aload_n C (show decode cX11_code 0 = .ok (.aload_n 0, 1) from dk_at dq42_14 (i := 0) rfl) rfl rfl, ?_⟩
  refine List.forall_mem_cons.mpr ⟨ok_getf C (wi_X11) rfl (by decide) kw_1188 (show decode cX11_code 1 = .ok (.getfield 40, 3) from dk_at dq42_14 (i := 1) rfl) rfl, ?_⟩
  refine List.forall_mem_cons.mpr ⟨ok_iconst C (show decode cX11_code 4 = .ok (.iconst 3, 1) from dk_at dq42_14 (i := 2) rfl) (by decide) rfl, ?_⟩
  refine List.forall_mem_cons.mpr ⟨ok_aload_n C (show decode cX11_code 5 = .ok (.aload_n 0, 1) from dk_at dq42_14 (i := 3) rfl) rfl rfl, ?_⟩
  refine List.forall_mem_cons.mpr ⟨ok_getf C (wi_X11) rfl (by decide) kw_1214 (show decode cX11_code 6 = .ok (.getfield 361, 3) from dk_at dq42_14 (i := 4) rfl) rfl, ?_⟩
  refine List.forall_mem_cons.mpr ⟨ok_imul C (show decode cX11_code 9 = .ok (.imul, 1) from dk_at dq42_14 (i := 5) rfl) rfl, ?_⟩
  refine List.forall_mem_cons.mpr ⟨ok_iload_n C (show decode cX11_code 10 = .ok (.iload_n 1, 1) from dk_at dq42_14 (i := 6) rfl) rfl rfl, ?_⟩
  refine List.forall_mem_cons.mpr ⟨ok_iastore C (show decode cX11_code 11 = .ok (.iastore, 1) from dk_at dq42_14 (i := 7) rfl) rfl, ?_⟩
  refine List.forall_mem_cons.mpr ⟨ok_aload_n C (show decode cX11_code 12 = .ok (.aload_n 0, 1) from dk_at dq42_14 (i := 8) rfl) rfl rfl, ?_⟩
  refine List.forall_mem_cons.mpr ⟨ok_getf C (wi_X11) rfl (by decide) kw_1188 (show decode cX11_code 13 = .ok (.getfield 40, 3) from dk_at dq42_14 (i := 9) rfl) rfl, ?_⟩
  refine List.forall_mem_cons.mpr ⟨ok_iconst C (show decode cX11_code 16 = .ok (.iconst 3, 1) from dk_at dq42_14 (i := 10) rfl) (by decide) rfl, ?_⟩
  refine List.forall_mem_cons.mpr ⟨ok_aload_n C (show decode cX11_code 17 = .ok (.aload_n 0, 1) from dk_at dq42_14 (i := 11) rfl) rfl rfl, ?_⟩
  refine List.forall_mem_cons.mpr ⟨ok_getf C (wi_X11) rfl (by decide) kw_1214 (show decode cX11_code 18 = .ok (.getfield 361, 3) from dk_at dq42_14 (i := 12) rfl) rfl, ?_⟩
  refine List.forall_mem_cons.mpr ⟨ok_imul C (show decode cX11_code 21 = .ok (.imul, 1) from dk_at dq42_14 (i := 13) rfl) rfl, ?_⟩
  refine List.forall_mem_cons.mpr ⟨ok_iconst C (show decode cX11_code 22 = .ok (.iconst 1, 1) from dk_at dq42_14 (i := 14) rfl) (by decide) rfl, ?_⟩
  refine List.forall_mem_cons.mpr ⟨ok_iadd C (show decode cX11_code 23 = .ok (.iadd, 1) from dk_at dq42_14 (i := 15) rfl) rfl, ?_⟩
  refine List.forall_mem_cons.mpr ⟨ok_iload_n C (show decode cX11_code 24 = .ok (.iload_n 2, 1) from dk_at dq42_15 (i := 0) rfl) rfl rfl, ?_⟩
  refine List.forall_mem_cons.mpr ⟨ok_iastore C (show decode cX11_code 25 = .ok (.iastore, 1) from dk_at dq42_15 (i := 1) rfl) rfl, ?_⟩
  refine List.forall_mem_cons.mpr ⟨ok_aload_n C (show decode cX11_code 26 = .ok (.aload_n 0, 1) from dk_at dq42_15 (i := 2) rfl) rfl rfl, ?_⟩
  refine List.forall_mem_cons.mpr ⟨ok_getf C (wi_X11) rfl (by decide) kw_1188 (show decode cX11_code 27 = .ok (.getfield 40, 3) from dk_at dq42_15 (i := 3) rfl) rfl, ?_⟩
  refine List.forall_mem_cons.mpr ⟨ok_iconst C (show decode cX11_code 30 = .ok (.iconst 3, 1) from dk_at dq42_15 (i := 4) rfl) (by decide) rfl, ?_⟩
  refine List.forall_mem_cons.mpr ⟨ok_aload_n C (show decode cX11_code 31 = .ok (.aload_n 0, 1) from dk_at dq42_15 (i := 5) rfl) rfl rfl, ?_⟩
  refine List.forall_mem_cons.mpr ⟨ok_getf C (wi_X11) rfl (by decide) kw_1214 (show decode cX11_code 32 = .ok (.getfield 361, 3) from dk_at dq42_15 (i := 6) rfl) rfl, ?_⟩
  refine List.forall_mem_cons.mpr ⟨ok_imul C (show decode cX11_code 35 = .ok (.imul, 1) from dk_at dq42_15 (i := 7) rfl) rfl, ?_⟩
  refine List.forall_mem_cons.mpr ⟨ok_iconst C (show decode cX11_code 36 = .ok (.iconst 2, 1) from dk_at dq42_15 (i := 8) rfl) (by decide) rfl, ?_⟩
  refine List.forall_mem_cons.mpr ⟨ok_iadd C (show decode cX11_code 37 = .ok (.iadd, 1) from dk_at dq42_15 (i := 9) rfl) rfl, ?_⟩
  refine List.forall_mem_cons.mpr ⟨ok_iload_n C (show decode cX11_code 38 = .ok (.iload_n 3, 1) from dk_at dq42_15 (i := 10) rfl) rfl rfl, ?_⟩
  refine List.forall_mem_cons.mpr ⟨ok_iastore C (show decode cX11_code 39 = .ok (.iastore, 1) from dk_at dq42_15 (i := 11) rfl) rfl, ?_⟩
  refine List.forall_mem_cons.mpr ⟨ok_aload_n C (show decode cX11_code 40 = .ok (.aload_n 0, 1) from dk_at dq42_15 (i := 12) rfl) rfl rfl, ?_⟩
  refine List.forall_mem_cons.mpr ⟨ok_dup C (show decode cX11_code 41 = .ok (.dup, 1) from dk_at dq42_15 (i := 13) rfl) rfl, ?_⟩
  refine List.forall_mem_cons.mpr ⟨ok_getf C (wi_X11) rfl (by decide) kw_1214 (show decode cX11_code 42 = .ok (.getfield 361, 3) from dk_at dq42_15 (i := 14) rfl) rfl, ?_⟩
  refine List.forall_mem_cons.mpr ⟨ok_iconst C (show decode cX11_code 45 = .ok (.iconst 1, 1) from dk_at dq42_15 (i := 15) rfl) (by decide) rfl, ?_⟩
  refine List.forall_mem_cons.mpr ⟨ok_iadd C (show decode cX11_code 46 = .ok (.iadd, 1) from dk_at dq42_16 (i := 0) rfl) rfl, ?_⟩
  refine List.forall_mem_cons.mpr ⟨ok_putf C (wi_X11) tyX11 tyX11_ok nmX11 rfl (by decide) kw_1214 (Or.inl rfl) (Or.inl ⟨rfl, rfl⟩) (show decode cX11_code 47 = .ok (.putfield 361, 3) from dk_at dq42_16 (i := 1) rfl) rfl, ?_⟩
  refine List.forall_mem_cons.mpr ⟨ok_vret C rfl (show decode cX11_code 50 = .ok (.return_, 1) from dk_at dq42_16 (i := 2) rfl), ?_⟩
  exact fun _ h => absurd h List.not_mem_nil
def L_X11_joins (f_X11_code : List Value → ab_H → Option ab_O) : List (Nat × ab_A) := [
  (0, ab_nx 1 (ab_aload 0)),
  (1, ab_nx 4 (ab_getf 11 36)),
  (4, ab_if 7 73 (fun x => decide (x ≤ 0))),
  (7, ab_nx 8 (ab_aload 0)),
  (8, ab_nx 11 (ab_getf 11 33)),
  (11, ab_nx 12 (ab_aload 0)),
  (12, ab_nx 15 (ab_getf 11 36)),
  (15, ab_nx 16 (ab_lit (.int 1))),
  (16, ab_nx 17 (ab_bin (fun x y => x - y))),
  (17, ab_nx 18 (ab_ald 1)),
  (18, ab_nx 20 (ab_lit (.int 21))),
  (20, ab_icmp 23 45 (fun x y => decide (x = y))),
  (23, ab_nx 24 (ab_aload 0)),
  (24, ab_nx 27 (ab_getf 11 33)),
  (27, ab_nx 28 (ab_aload 0)),
  (28, ab_nx 31 (ab_getf 11 36)),
  (31, ab_nx 32 (ab_lit (.int 1))),
  (32, ab_nx 33 (ab_bin (fun x y => x - y))),
  (33, ab_nx 34 (ab_ald 1)),
  (34, ab_nx 36 (ab_lit (.int 22))),
  (36, ab_icmp 39 73 (fun x y => !decide (x = y))),
  (39, ab_nx 40 (ab_iload 1)),
  (40, ab_nx 42 (ab_lit (.int 22))),
  (42, ab_icmp 45 73 (fun x y => !decide (x = y))),
  (45, ab_nx 46 (ab_aload 0)),
  (46, ab_nx 47 ab_dup),
  (47, ab_nx 50 (ab_getf 11 36)),
  (50, ab_nx 51 (ab_lit (.int 1))),
  (51, ab_nx 52 (ab_bin (fun x y => x - y))),
  (52, ab_nx 55 (ab_putf 11 36 0)),
  (55, ab_nx 56 (ab_aload 0)),
  (56, ab_nx 57 (ab_aload 0)),
  (57, ab_nx 60 (ab_getf 11 33)),
  (60, ab_nx 61 (ab_aload 0)),
  (61, ab_nx 64 (ab_getf 11 36)),
  (64, ab_nx 65 (ab_ald 1)),
  (65, ab_nx 66 (ab_lit (.int 0))),
  (66, ab_nx 67 (ab_lit (.int 0))),
  (67, ab_nx 70 (ab_callV 4 11 f_X11_code 0 0 0 0)),
  (70, ab_goto 0),
  (73, ab_vret 0 0)]
set_option maxRecDepth 100000 in
theorem dq42_17 : ([(0, .aload_n 0, 1), (1, .getfield 364, 3), (4, .ifCond .le 69, 3), (7, .aload_n 0, 1), (8, .getfield 71, 3), (11, .aload_n 0, 1), (12, .getfield 364, 3), (15, .iconst 1, 1), (16, .isub, 1), (17, .iaload, 1), (18, .bipush 21, 2), (20, .if_icmp .eq 25, 3), (23, .aload_n 0, 1), (24, .getfield 71, 3), (27, .aload_n 0, 1), (28, .getfield 364, 3)] : List (Nat × Instr × Nat)).all (fun q => decide (decode cX11_joins q.1 = .ok q.2)) = true := by decide +kernel
set_option maxRecDepth 100000 in
theorem dq42_18 : ([(31, .iconst 1, 1), (32, .isub, 1), (33, .iaload, 1), (34, .bipush 22, 2), (36, .if_icmp .ne 37, 3), (39, .iload_n 1, 1), (40, .bipush 22, 2), (42, .if_icmp .ne 31, 3), (45, .aload_n 0, 1), (46, .dup, 1), (47, .getfield 364, 3), (50, .iconst 1, 1), (51, .isub, 1), (52, .putfield 364, 3), (55, .aload_n 0, 1), (56, .aload_n 0, 1)] : List (Nat × Instr × Nat)).all (fun q => decide (decode cX11_joins q.1 = .ok q.2)) = true := by decide +kernel
set_option maxRecDepth 100000 in
theorem dq42_19 : ([(57, .getfield 71, 3), (60, .aload_n 0, 1), (61, .getfield 364, 3), (64, .iaload, 1), (65, .iconst 0, 1), (66, .iconst 0, 1), (67, .invokevirtual 367, 3), (70, .goto (-70), 3), (73, .return_, 1)] : List (Nat × Instr × Nat)).all (fun q => decide (decode cX11_joins q.1 = .ok q.2)) = true := by decide +kernel
set_option maxRecDepth 100000 in
set_option maxHeartbeats 4000000 in
theorem M_X11_joins {l : Launch} {b : ab_B} {D : va_G} {cA : Nat → ClassId} {f_X11_code : List Value → ab_H → Option ab_O} (h_X11_code : ab_M l b D ab_cl cA (ab_E0 b) yX11_code (Cond.code yX11_code cX11_code 4 none :: ab_G) ({ frames := 1, cells := 0, slots := 0, locals := 100 } : Room) f_X11_code) : ab_M l b D ab_cl cA (ab_E0 b) yX11_joins (Cond.code yX11_joins cX11_joins 2 none :: ab_G) ({ frames := 2, cells := 0, slots := 0, locals := 200 } : Room) (ab_X (ab_T (L_X11_joins f_X11_code)) 2) := by
  refine ab_meth (ret := none) (L_X11_joins f_X11_code) (by decide) rfl fun p e R s m args below meth c o C => ?_
  unfold L_X11_joins
  refine List.forall_mem_cons.mpr ⟨ok_aload_n C (show decode cX11_joins 0 = .ok (.aload_n 0, 1) from dk_at dq42_17 (i := 0) rfl) rfl rfl, ?_⟩
  refine List.forall_mem_cons.mpr ⟨ok_getf C (wi_X11) rfl (by decide) kw_1216 (show decode cX11_joins 1 = .ok (.getfield 364, 3) from dk_at dq42_17 (i := 1) rfl) rfl, ?_⟩
  refine List.forall_mem_cons.mpr ⟨ok_ifle C (show decode cX11_joins 4 = .ok (.ifCond .le 69, 3) from dk_at dq42_17 (i := 2) rfl) (tg := 73) (by decide) rfl rfl, ?_⟩
  refine List.forall_mem_cons.mpr ⟨ok_aload_n C (show decode cX11_joins 7 = .ok (.aload_n 0, 1) from dk_at dq42_17 (i := 3) rfl) rfl rfl, ?_⟩
  refine List.forall_mem_cons.mpr ⟨ok_getf C (wi_X11) rfl (by decide) kw_1213 (show decode cX11_joins 8 = .ok (.getfield 71, 3) from dk_at dq42_17 (i := 4) rfl) rfl, ?_⟩
  refine List.forall_mem_cons.mpr ⟨ok_aload_n C (show decode cX11_joins 11 = .ok (.aload_n 0, 1) from dk_at dq42_17 (i := 5) rfl) rfl rfl, ?_⟩
  refine List.forall_mem_cons.mpr ⟨ok_getf C (wi_X11) rfl (by decide) kw_1216 (show decode cX11_joins 12 = .ok (.getfield 364, 3) from dk_at dq42_17 (i := 6) rfl) rfl, ?_⟩
  refine List.forall_mem_cons.mpr ⟨ok_iconst C (show decode cX11_joins 15 = .ok (.iconst 1, 1) from dk_at dq42_17 (i := 7) rfl) (by decide) rfl, ?_⟩
  refine List.forall_mem_cons.mpr ⟨ok_isub C (show decode cX11_joins 16 = .ok (.isub, 1) from dk_at dq42_17 (i := 8) rfl) rfl, ?_⟩
  refine List.forall_mem_cons.mpr ⟨ok_iaload C (show decode cX11_joins 17 = .ok (.iaload, 1) from dk_at dq42_17 (i := 9) rfl) rfl, ?_⟩
  refine List.forall_mem_cons.mpr ⟨ok_bipush C (show decode cX11_joins 18 = .ok (.bipush 21, 2) from dk_at dq42_17 (i := 10) rfl) (by decide) rfl, ?_⟩
  refine List.forall_mem_cons.mpr ⟨ok_icmpeq C (show decode cX11_joins 20 = .ok (.if_icmp .eq 25, 3) from dk_at dq42_17 (i := 11) rfl) (tg := 45) (by decide) rfl rfl, ?_⟩
  refine List.forall_mem_cons.mpr ⟨ok_aload_n C (show decode cX11_joins 23 = .ok (.aload_n 0, 1) from dk_at dq42_17 (i := 12) rfl) rfl rfl, ?_⟩
  refine List.forall_mem_cons.mpr ⟨ok_getf C (wi_X11) rfl (by decide) kw_1213 (show decode cX11_joins 24 = .ok (.getfield 71, 3) from dk_at dq42_17 (i := 13) rfl) rfl, ?_⟩
  refine List.forall_mem_cons.mpr ⟨ok_aload_n C (show decode cX11_joins 27 = .ok (.aload_n 0, 1) from dk_at dq42_17 (i := 14) rfl) rfl rfl, ?_⟩
  refine List.forall_mem_cons.mpr ⟨ok_getf C (wi_X11) rfl (by decide) kw_1216 (show decode cX11_joins 28 = .ok (.getfield 364, 3) from dk_at dq42_17 (i := 15) rfl) rfl, ?_⟩
  refine List.forall_mem_cons.mpr ⟨ok_iconst C (show decode cX11_joins 31 = .ok (.iconst 1, 1) from dk_at dq42_18 (i := 0) rfl) (by decide) rfl, ?_⟩
  refine List.forall_mem_cons.mpr ⟨ok_isub C (show decode cX11_joins 32 = .ok (.isub, 1) from dk_at dq42_18 (i := 1) rfl) rfl, ?_⟩
  refine List.forall_mem_cons.mpr ⟨ok_iaload C (show decode cX11_joins 33 = .ok (.iaload, 1) from dk_at dq42_18 (i := 2) rfl) rfl, ?_⟩
  refine List.forall_mem_cons.mpr ⟨ok_bipush C (show decode cX11_joins 34 = .ok (.bipush 22, 2) from dk_at dq42_18 (i := 3) rfl) (by decide) rfl, ?_⟩
  refine List.forall_mem_cons.mpr ⟨ok_icmpne C (show decode cX11_joins 36 = .ok (.if_icmp .ne 37, 3) from dk_at dq42_18 (i := 4) rfl) (tg := 73) (by decide) rfl rfl, ?_⟩
  refine List.forall_mem_cons.mpr ⟨ok_iload_n C (show decode cX11_joins 39 = .ok (.iload_n 1, 1) from dk_at dq42_18 (i := 5) rfl) rfl rfl, ?_⟩
  refine List.forall_mem_cons.mpr ⟨ok_bipush C (show decode cX11_joins 40 = .ok (.bipush 22, 2) from dk_at dq42_18 (i := 6) rfl) (by decide) rfl, ?_⟩
  refine List.forall_mem_cons.mpr ⟨ok_icmpne C (show decode cX11_joins 42 = .ok (.if_icmp .ne 31, 3) from dk_at dq42_18 (i := 7) rfl) (tg := 73) (by decide) rfl rfl, ?_⟩
  refine List.forall_mem_cons.mpr ⟨ok_aload_n C (show decode cX11_joins 45 = .ok (.aload_n 0, 1) from dk_at dq42_18 (i := 8) rfl) rfl rfl, ?_⟩
  refine List.forall_mem_cons.mpr ⟨ok_dup C (show decode cX11_joins 46 = .ok (.dup, 1) from dk_at dq42_18 (i := 9) rfl) rfl, ?_⟩
  refine List.forall_mem_cons.mpr ⟨ok_getf C (wi_X11) rfl (by decide) kw_1216 (show decode cX11_joins 47 = .ok (.getfield 364, 3) from dk_at dq42_18 (i := 10) rfl) rfl, ?_⟩
  refine List.forall_mem_cons.mpr ⟨ok_iconst C (show decode cX11_joins 50 = .ok (.iconst 1, 1) from dk_at dq42_18 (i := 11) rfl) (by decide) rfl, ?_⟩
  refine List.forall_mem_cons.mpr ⟨ok_isub C (show decode cX11_joins 51 = .ok (.isub, 1) from dk_at dq42_18 (i := 12) rfl) rfl, ?_⟩
  refine List.forall_mem_cons.mpr ⟨ok_putf C (wi_X11) tyX11 tyX11_ok nmX11 rfl (by decide) kw_1216 (Or.inl rfl) (Or.inl ⟨rfl, rfl⟩) (show decode cX11_joins 52 = .ok (.putfield 364, 3) from dk_at dq42_18 (i := 13) rfl) rfl, ?_⟩
  refine List.forall_mem_cons.mpr ⟨ok_aload_n C (show decode cX11_joins 55 = .ok (.aload_n 0, 1) from dk_at dq42_18 (i := 14) rfl) rfl rfl, ?_⟩
  refine List.forall_mem_cons.mpr ⟨ok_aload_n C (show decode cX11_joins 56 = .ok (.aload_n 0, 1) from dk_at dq42_18 (i := 15) rfl) rfl rfl, ?_⟩
  refine List.forall_mem_cons.mpr ⟨ok_getf C (wi_X11) rfl (by decide) kw_1213 (show decode cX11_joins 57 = .ok (.getfield 71, 3) from dk_at dq42_19 (i := 0) rfl) rfl, ?_⟩
  refine List.forall_mem_cons.mpr ⟨ok_aload_n C (show decode cX11_joins 60 = .ok (.aload_n 0, 1) from dk_at dq42_19 (i := 1) rfl) rfl rfl, ?_⟩
  refine List.forall_mem_cons.mpr ⟨ok_getf C (wi_X11) rfl (by decide) kw_1216 (show decode cX11_joins 61 = .ok (.getfield 364, 3) from dk_at dq42_19 (i := 2) rfl) rfl, ?_⟩
  refine List.forall_mem_cons.mpr ⟨ok_iaload C (show decode cX11_joins 64 = .ok (.iaload, 1) from dk_at dq42_19 (i := 3) rfl) rfl, ?_⟩
  refine List.forall_mem_cons.mpr ⟨ok_iconst C (show decode cX11_joins 65 = .ok (.iconst 0, 1) from dk_at dq42_19 (i := 4) rfl) (by decide) rfl, ?_⟩
  refine List.forall_mem_cons.mpr ⟨ok_iconst C (show decode cX11_joins 66 = .ok (.iconst 0, 1) from dk_at dq42_19 (i := 5) rfl) (by decide) rfl, ?_⟩
  refine List.forall_mem_cons.mpr ⟨ok_callV C h_X11_code ⟨rfl, rfl⟩ rfl kw_1672 kw_1669 kw_1671 kp_97 kw_11 rfl ds_X11_code ⟨by decide, by decide⟩ (show decode cX11_joins 67 = .ok (.invokevirtual 367, 3) from dk_at dq42_19 (i := 6) rfl) rfl, ?_⟩
  refine List.forall_mem_cons.mpr ⟨ok_goto C (show decode cX11_joins 70 = .ok (.goto (-70), 3) from dk_at dq42_19 (i := 7) rfl) (tg := 0) (by decide) rfl, ?_⟩
  refine List.forall_mem_cons.mpr ⟨ok_vret C rfl (show decode cX11_joins 73 = .ok (.return_, 1) from dk_at dq42_19 (i := 8) rfl), ?_⟩
  exact fun _ h => absurd h List.not_mem_nil
def L_X11_nots (f_X11_code : List Value → ab_H → Option ab_O) : List (Nat × ab_A) := [
  (0, ab_nx 1 (ab_aload 0)),
  (1, ab_nx 4 (ab_getf 11 36)),
  (4, ab_if 7 54 (fun x => decide (x ≤ 0))),
  (7, ab_nx 8 (ab_aload 0)),
  (8, ab_nx 11 (ab_getf 11 33)),
  (11, ab_nx 12 (ab_aload 0)),
  (12, ab_nx 15 (ab_getf 11 36)),
  (15, ab_nx 16 (ab_lit (.int 1))),
  (16, ab_nx 17 (ab_bin (fun x y => x - y))),
  (17, ab_nx 18 (ab_ald 1)),
  (18, ab_nx 20 (ab_lit (.int 20))),
  (20, ab_icmp 23 54 (fun x y => !decide (x = y))),
  (23, ab_nx 24 (ab_aload 0)),
  (24, ab_nx 25 ab_dup),
  (25, ab_nx 28 (ab_getf 11 36)),
  (28, ab_nx 29 (ab_lit (.int 1))),
  (29, ab_nx 30 (ab_bin (fun x y => x - y))),
  (30, ab_nx 33 (ab_putf 11 36 0)),
  (33, ab_nx 34 (ab_aload 0)),
  (34, ab_nx 35 ab_dup),
  (35, ab_nx 38 (ab_getf 11 37)),
  (38, ab_nx 39 (ab_lit (.int 1))),
  (39, ab_nx 40 (ab_bin (fun x y => x - y))),
  (40, ab_nx 43 (ab_putf 11 37 0)),
  (43, ab_nx 44 (ab_aload 0)),
  (44, ab_nx 46 (ab_lit (.int 20))),
  (46, ab_nx 47 (ab_lit (.int 0))),
  (47, ab_nx 48 (ab_lit (.int 0))),
  (48, ab_nx 51 (ab_callV 4 11 f_X11_code 0 0 0 0)),
  (51, ab_goto 0),
  (54, ab_vret 0 0)]
set_option maxRecDepth 100000 in
theorem dq42_20 : ([(0, .aload_n 0, 1), (1, .getfield 364, 3), (4, .ifCond .le 50, 3), (7, .aload_n 0, 1), (8, .getfield 71, 3), (11, .aload_n 0, 1), (12, .getfield 364, 3), (15, .iconst 1, 1), (16, .isub, 1), (17, .iaload, 1), (18, .bipush 20, 2), (20, .if_icmp .ne 34, 3), (23, .aload_n 0, 1), (24, .dup, 1), (25, .getfield 364, 3), (28, .iconst 1, 1)] : List (Nat × Instr × Nat)).all (fun q => decide (decode cX11_nots q.1 = .ok q.2)) = true := by decide +kernel
set_option maxRecDepth 100000 in
theorem dq42_21 : ([(29, .isub, 1), (30, .putfield 364, 3), (33, .aload_n 0, 1), (34, .dup, 1), (35, .getfield 371, 3), (38, .iconst 1, 1), (39, .isub, 1), (40, .putfield 371, 3), (43, .aload_n 0, 1), (44, .bipush 20, 2), (46, .iconst 0, 1), (47, .iconst 0, 1), (48, .invokevirtual 367, 3), (51, .goto (-51), 3), (54, .return_, 1)] : List (Nat × Instr × Nat)).all (fun q => decide (decode cX11_nots q.1 = .ok q.2)) = true := by decide +kernel
set_option maxRecDepth 100000 in
set_option maxHeartbeats 4000000 in
theorem M_X11_nots {l : Launch} {b : ab_B} {D : va_G} {cA : Nat → ClassId} {f_X11_code : List Value → ab_H → Option ab_O} (h_X11_code : ab_M l b D ab_cl cA (ab_E0 b) yX11_code (Cond.code yX11_code cX11_code 4 none :: ab_G) ({ frames := 1, cells := 0, slots := 0, locals := 100 } : Room) f_X11_code) : ab_M l b D ab_cl cA (ab_E0 b) yX11_nots (Cond.code yX11_nots cX11_nots 1 none :: ab_G) ({ frames := 2, cells := 0, slots := 0, locals := 200 } : Room) (ab_X (ab_T (L_X11_nots f_X11_code)) 1) := by
  refine ab_meth (ret := none) (L_X11_nots f_X11_code) (by decide) rfl fun p e R s m args below meth c o C => ?_
  unfold L_X11_nots
  refine List.forall_mem_cons.mpr ⟨ok_aload_n C (show decode cX11_nots 0 = .ok (.aload_n 0, 1) from dk_at dq42_20 (i := 0) rfl) rfl rfl, ?_⟩
  refine List.forall_mem_cons.mpr ⟨ok_getf C (wi_X11) rfl (by decide) kw_1216 (show decode cX11_nots 1 = .ok (.getfield 364, 3) from dk_at dq42_20 (i := 1) rfl) rfl, ?_⟩
  refine List.forall_mem_cons.mpr ⟨ok_ifle C (show decode cX11_nots 4 = .ok (.ifCond .le 50, 3) from dk_at dq42_20 (i := 2) rfl) (tg := 54) (by decide) rfl rfl, ?_⟩
  refine List.forall_mem_cons.mpr ⟨ok_aload_n C (show decode cX11_nots 7 = .ok (.aload_n 0, 1) from dk_at dq42_20 (i := 3) rfl) rfl rfl, ?_⟩
  refine List.forall_mem_cons.mpr ⟨ok_getf C (wi_X11) rfl (by decide) kw_1213 (show decode cX11_nots 8 = .ok (.getfield 71, 3) from dk_at dq42_20 (i := 4) rfl) rfl, ?_⟩
  refine List.forall_mem_cons.mpr ⟨ok_aload_n C (show decode cX11_nots 11 = .ok (.aload_n 0, 1) from dk_at dq42_20 (i := 5) rfl) rfl rfl, ?_⟩
  refine List.forall_mem_cons.mpr ⟨ok_getf C (wi_X11) rfl (by decide) kw_1216 (show decode cX11_nots 12 = .ok (.getfield 364, 3) from dk_at dq42_20 (i := 6) rfl) rfl, ?_⟩
  refine List.forall_mem_cons.mpr ⟨ok_iconst C (show decode cX11_nots 15 = .ok (.iconst 1, 1) from dk_at dq42_20 (i := 7) rfl) (by decide) rfl, ?_⟩
  refine List.forall_mem_cons.mpr ⟨ok_isub C (show decode cX11_nots 16 = .ok (.isub, 1) from dk_at dq42_20 (i := 8) rfl) rfl, ?_⟩
  refine List.forall_mem_cons.mpr ⟨ok_iaload C (show decode cX11_nots 17 = .ok (.iaload, 1) from dk_at dq42_20 (i := 9) rfl) rfl, ?_⟩
  refine List.forall_mem_cons.mpr ⟨ok_bipush C (show decode cX11_nots 18 = .ok (.bipush 20, 2) from dk_at dq42_20 (i := 10) rfl) (by decide) rfl, ?_⟩
  refine List.forall_mem_cons.mpr ⟨ok_icmpne C (show decode cX11_nots 20 = .ok (.if_icmp .ne 34, 3) from dk_at dq42_20 (i := 11) rfl) (tg := 54) (by decide) rfl rfl, ?_⟩
  refine List.forall_mem_cons.mpr ⟨ok_aload_n C (show decode cX11_nots 23 = .ok (.aload_n 0, 1) from dk_at dq42_20 (i := 12) rfl) rfl rfl, ?_⟩
  refine List.forall_mem_cons.mpr ⟨ok_dup C (show decode cX11_nots 24 = .ok (.dup, 1) from dk_at dq42_20 (i := 13) rfl) rfl, ?_⟩
  refine List.forall_mem_cons.mpr ⟨ok_getf C (wi_X11) rfl (by decide) kw_1216 (show decode cX11_nots 25 = .ok (.getfield 364, 3) from dk_at dq42_20 (i := 14) rfl) rfl, ?_⟩
  refine List.forall_mem_cons.mpr ⟨ok_iconst C (show decode cX11_nots 28 = .ok (.iconst 1, 1) from dk_at dq42_20 (i := 15) rfl) (by decide) rfl, ?_⟩
  refine List.forall_mem_cons.mpr ⟨ok_isub C (show decode cX11_nots 29 = .ok (.isub, 1) from dk_at dq42_21 (i := 0) rfl) rfl, ?_⟩
  refine List.forall_mem_cons.mpr ⟨ok_putf C (wi_X11) tyX11 tyX11_ok nmX11 rfl (by decide) kw_1216 (Or.inl rfl) (Or.inl ⟨rfl, rfl⟩) (show decode cX11_nots 30 = .ok (.putfield 364, 3) from dk_at dq42_21 (i := 1) rfl) rfl, ?_⟩
  refine List.forall_mem_cons.mpr ⟨ok_aload_n C (show decode cX11_nots 33 = .ok (.aload_n 0, 1) from dk_at dq42_21 (i := 2) rfl) rfl rfl, ?_⟩
  refine List.forall_mem_cons.mpr ⟨ok_dup C (show decode cX11_nots 34 = .ok (.dup, 1) from dk_at dq42_21 (i := 3) rfl) rfl, ?_⟩
  refine List.forall_mem_cons.mpr ⟨ok_getf C (wi_X11) rfl (by decide) kw_1217 (show decode cX11_nots 35 = .ok (.getfield 371, 3) from dk_at dq42_21 (i := 4) rfl) rfl, ?_⟩
  refine List.forall_mem_cons.mpr ⟨ok_iconst C (show decode cX11_nots 38 = .ok (.iconst 1, 1) from dk_at dq42_21 (i := 5) rfl) (by decide) rfl, ?_⟩
  refine List.forall_mem_cons.mpr ⟨ok_isub C (show decode cX11_nots 39 = .ok (.isub, 1) from dk_at dq42_21 (i := 6) rfl) rfl, ?_⟩
  refine List.forall_mem_cons.mpr ⟨ok_putf C (wi_X11) tyX11 tyX11_ok nmX11 rfl (by decide) kw_1217 (Or.inl rfl) (Or.inl ⟨rfl, rfl⟩) (show decode cX11_nots 40 = .ok (.putfield 371, 3) from dk_at dq42_21 (i := 7) rfl) rfl, ?_⟩
  refine List.forall_mem_cons.mpr ⟨ok_aload_n C (show decode cX11_nots 43 = .ok (.aload_n 0, 1) from dk_at dq42_21 (i := 8) rfl) rfl rfl, ?_⟩
  refine List.forall_mem_cons.mpr ⟨ok_bipush C (show decode cX11_nots 44 = .ok (.bipush 20, 2) from dk_at dq42_21 (i := 9) rfl) (by decide) rfl, ?_⟩
  refine List.forall_mem_cons.mpr ⟨ok_iconst C (show decode cX11_nots 46 = .ok (.iconst 0, 1) from dk_at dq42_21 (i := 10) rfl) (by decide) rfl, ?_⟩
  refine List.forall_mem_cons.mpr ⟨ok_iconst C (show decode cX11_nots 47 = .ok (.iconst 0, 1) from dk_at dq42_21 (i := 11) rfl) (by decide) rfl, ?_⟩
  refine List.forall_mem_cons.mpr ⟨ok_callV C h_X11_code ⟨rfl, rfl⟩ rfl kw_1672 kw_1669 kw_1671 kp_97 kw_11 rfl ds_X11_code ⟨by decide, by decide⟩ (show decode cX11_nots 48 = .ok (.invokevirtual 367, 3) from dk_at dq42_21 (i := 12) rfl) rfl, ?_⟩
  refine List.forall_mem_cons.mpr ⟨ok_goto C (show decode cX11_nots 51 = .ok (.goto (-51), 3) from dk_at dq42_21 (i := 13) rfl) (tg := 0) (by decide) rfl, ?_⟩
  refine List.forall_mem_cons.mpr ⟨ok_vret C rfl (show decode cX11_nots 54 = .ok (.return_, 1) from dk_at dq42_21 (i := 14) rfl), ?_⟩
  exact fun _ h => absurd h List.not_mem_nil
def L_X11_leafOf (f_X11_isWord : List Value → ab_H → Option ab_O) : List (Nat × ab_A) := [
  (0, ab_nx 1 (ab_aload 0)),
  (1, ab_nx 4 (ab_lit (.long 119165535610212))),
  (4, ab_nx 7 (ab_callV 2 11 f_X11_isWord 0 0 0 0)),
  (7, ab_if 10 14 (fun x => decide (x = 0))),
  (10, ab_nx 11 (ab_lit (.int 0))),
  (11, ab_goto 130),
  (14, ab_nx 15 (ab_aload 0)),
  (15, ab_nx 18 (ab_lit (.long 29395861899601252))),
  (18, ab_nx 21 (ab_callV 2 11 f_X11_isWord 0 0 0 0)),
  (21, ab_if 24 28 (fun x => decide (x = 0))),
  (24, ab_nx 25 (ab_lit (.int 1))),
  (25, ab_goto 130),
  (28, ab_nx 29 (ab_aload 0)),
  (29, ab_nx 32 (ab_lit (.long 1835099237))),
  (32, ab_nx 35 (ab_callV 2 11 f_X11_isWord 0 0 0 0)),
  (35, ab_if 38 42 (fun x => decide (x = 0))),
  (38, ab_nx 39 (ab_lit (.int 2))),
  (39, ab_goto 130),
  (42, ab_nx 43 (ab_aload 0)),
  (43, ab_nx 46 (ab_lit (.long 435426714990))),
  (46, ab_nx 49 (ab_callV 2 11 f_X11_isWord 0 0 0 0)),
  (49, ab_if 52 56 (fun x => decide (x = 0))),
  (52, ab_nx 53 (ab_lit (.int 3))),
  (53, ab_goto 130),
  (56, ab_nx 57 (ab_aload 0)),
  (57, ab_nx 60 (ab_lit (.long 439721161573))),
  (60, ab_nx 63 (ab_callV 2 11 f_X11_isWord 0 0 0 0)),
  (63, ab_if 66 70 (fun x => decide (x = 0))),
  (66, ab_nx 67 (ab_lit (.int 4))),
  (67, ab_goto 130),
  (70, ab_nx 71 (ab_aload 0)),
  (71, ab_nx 74 (ab_lit (.long 1852137842))),
  (74, ab_nx 77 (ab_callV 2 11 f_X11_isWord 0 0 0 0)),
  (77, ab_if 80 84 (fun x => decide (x = 0))),
  (80, ab_nx 81 (ab_lit (.int 5))),
  (81, ab_goto 130),
  (84, ab_nx 85 (ab_aload 0)),
  (85, ab_nx 88 (ab_lit (.long 6709618))),
  (88, ab_nx 91 (ab_callV 2 11 f_X11_isWord 0 0 0 0)),
  (91, ab_if 94 99 (fun x => decide (x = 0))),
  (94, ab_nx 96 (ab_lit (.int 6))),
  (96, ab_goto 130),
  (99, ab_nx 100 (ab_aload 0)),
  (100, ab_nx 103 (ab_lit (.long 27991845698233700))),
  (103, ab_nx 106 (ab_callV 2 11 f_X11_isWord 0 0 0 0)),
  (106, ab_if 109 114 (fun x => decide (x = 0))),
  (109, ab_nx 111 (ab_lit (.int 7))),
  (111, ab_goto 130),
  (114, ab_nx 115 (ab_aload 0)),
  (115, ab_nx 118 (ab_lit (.long 121450625394034))),
  (118, ab_nx 121 (ab_callV 2 11 f_X11_isWord 0 0 0 0)),
  (121, ab_if 124 129 (fun x => decide (x = 0))),
  (124, ab_nx 126 (ab_lit (.int 8))),
  (126, ab_goto 130),
  (129, ab_nx 130 (ab_lit (.int (-1)))),
  (130, ab_ret 0 0)]
set_option maxRecDepth 100000 in
theorem dq42_22 : ([(0, .aload_n 0, 1), (1, .ldc2_w 119, 3), (4, .invokevirtual 201, 3), (7, .ifCond .eq 7, 3), (10, .iconst 0, 1), (11, .goto 119, 3), (14, .aload_n 0, 1), (15, .ldc2_w 121, 3), (18, .invokevirtual 201, 3), (21, .ifCond .eq 7, 3), (24, .iconst 1, 1), (25, .goto 105, 3), (28, .aload_n 0, 1), (29, .ldc2_w 123, 3), (32, .invokevirtual 201, 3), (35, .ifCond .eq 7, 3)] : List (Nat × Instr × Nat)).all (fun q => decide (decode cX11_leafOf q.1 = .ok q.2)) = true := by decide +kernel
set_option maxRecDepth 100000 in
theorem dq42_23 : ([(38, .iconst 2, 1), (39, .goto 91, 3), (42, .aload_n 0, 1), (43, .ldc2_w 125, 3), (46, .invokevirtual 201, 3), (49, .ifCond .eq 7, 3), (52, .iconst 3, 1), (53, .goto 77, 3), (56, .aload_n 0, 1), (57, .ldc2_w 127, 3), (60, .invokevirtual 201, 3), (63, .ifCond .eq 7, 3), (66, .iconst 4, 1), (67, .goto 63, 3), (70, .aload_n 0, 1), (71, .ldc2_w 129, 3)] : List (Nat × Instr × Nat)).all (fun q => decide (decode cX11_leafOf q.1 = .ok q.2)) = true := by decide +kernel
set_option maxRecDepth 100000 in
theorem dq42_24 : ([(74, .invokevirtual 201, 3), (77, .ifCond .eq 7, 3), (80, .iconst 5, 1), (81, .goto 49, 3), (84, .aload_n 0, 1), (85, .ldc2_w 131, 3), (88, .invokevirtual 201, 3), (91, .ifCond .eq 8, 3), (94, .bipush 6, 2), (96, .goto 34, 3), (99, .aload_n 0, 1), (100, .ldc2_w 133, 3), (103, .invokevirtual 201, 3), (106, .ifCond .eq 8, 3), (109, .bipush 7, 2), (111, .goto 19, 3)] : List (Nat × Instr × Nat)).all (fun q => decide (decode cX11_leafOf q.1 = .ok q.2)) = true := by decide +kernel
set_option maxRecDepth 100000 in
theorem dq42_25 : ([(114, .aload_n 0, 1), (115, .ldc2_w 135, 3), (118, .invokevirtual 201, 3), (121, .ifCond .eq 8, 3), (124, .bipush 8, 2), (126, .goto 4, 3), (129, .iconst (-1), 1), (130, .ireturn, 1)] : List (Nat × Instr × Nat)).all (fun q => decide (decode cX11_leafOf q.1 = .ok q.2)) = true := by decide +kernel
set_option maxRecDepth 100000 in
set_option maxHeartbeats 4000000 in
theorem M_X11_leafOf {l : Launch} {b : ab_B} {D : va_G} {cA : Nat → ClassId} {f_X11_isWord : List Value → ab_H → Option ab_O} (h_X11_isWord : ab_M l b D ab_cl cA (ab_E0 b) yX11_isWord (Cond.code yX11_isWord cX11_isWord 3 (some .boolean) :: ab_G) ({ frames := 1, cells := 0, slots := 0, locals := 100 } : Room) f_X11_isWord) : ab_M l b D ab_cl cA (ab_E0 b) yX11_leafOf (Cond.code yX11_leafOf cX11_leafOf 1 (some .int) :: ab_G) ({ frames := 2, cells := 0, slots := 0, locals := 200 } : Room) (ab_X (ab_T (L_X11_leafOf f_X11_isWord)) 1) := by
  refine ab_meth (ret := (some .int)) (L_X11_leafOf f_X11_isWord) (by decide) rfl fun p e R s m args below meth c o C => ?_
  unfold L_X11_leafOf
  refine List.forall_mem_cons.mpr ⟨ok_aload_n C (show decode cX11_leafOf 0 = .ok (.aload_n 0, 1) from dk_at dq42_22 (i := 0) rfl) rfl rfl, ?_⟩
  refine List.forall_mem_cons.mpr ⟨ok_ldc2 C (show decode cX11_leafOf 1 = .ok (.ldc2_w 119, 3) from dk_at dq42_22 (i := 1) rfl) (gm kw_1171) rfl, ?_⟩
  refine List.forall_mem_cons.mpr ⟨ok_callV C h_X11_isWord ⟨rfl, rfl⟩ rfl kw_1340 kw_1337 kw_1339 kp_52 kw_11 rfl ds_X11_isWord ⟨by decide, by decide⟩ (show decode cX11_leafOf 4 = .ok (.invokevirtual 201, 3) from dk_at dq42_22 (i := 2) rfl) rfl, ?_⟩
  refine List.forall_mem_cons.mpr ⟨ok_ifeq C (show decode cX11_leafOf 7 = .ok (.ifCond .eq 7, 3) from dk_at dq42_22 (i := 3) rfl) (tg := 14) (by decide) rfl rfl, ?_⟩
  refine List.forall_mem_cons.mpr ⟨ok_iconst C (show decode cX11_leafOf 10 = .ok (.iconst 0, 1) from dk_at dq42_22 (i := 4) rfl) (by decide) rfl, ?_⟩
  refine List.forall_mem_cons.mpr ⟨ok_goto C (show decode cX11_leafOf 11 = .ok (.goto 119, 3) from dk_at dq42_22 (i := 5) rfl) (tg := 130) (by decide) rfl, ?_⟩
  refine List.forall_mem_cons.mpr ⟨ok_aload_n C (show decode cX11_leafOf 14 = .ok (.aload_n 0, 1) from dk_at dq42_22 (i := 6) rfl) rfl rfl, ?_⟩
  refine List.forall_mem_cons.mpr ⟨ok_ldc2 C (show decode cX11_leafOf 15 = .ok (.ldc2_w 121, 3) from dk_at dq42_22 (i := 7) rfl) (gm kw_1172) rfl, ?_⟩
  refine List.forall_mem_cons.mpr ⟨ok_callV C h_X11_isWord ⟨rfl, rfl⟩ rfl kw_1340 kw_1337 kw_1339 kp_52 kw_11 rfl ds_X11_isWord ⟨by decide, by decide⟩ (show decode cX11_leafOf 18 = .ok (.invokevirtual 201, 3) from dk_at dq42_22 (i := 8) rfl) rfl, ?_⟩
  refine List.forall_mem_cons.mpr ⟨ok_ifeq C (show decode cX11_leafOf 21 = .ok (.ifCond .eq 7, 3) from dk_at dq42_22 (i := 9) rfl) (tg := 28) (by decide) rfl rfl, ?_⟩
  refine List.forall_mem_cons.mpr ⟨ok_iconst C (show decode cX11_leafOf 24 = .ok (.iconst 1, 1) from dk_at dq42_22 (i := 10) rfl) (by decide) rfl, ?_⟩
  refine List.forall_mem_cons.mpr ⟨ok_goto C (show decode cX11_leafOf 25 = .ok (.goto 105, 3) from dk_at dq42_22 (i := 11) rfl) (tg := 130) (by decide) rfl, ?_⟩
  refine List.forall_mem_cons.mpr ⟨ok_aload_n C (show decode cX11_leafOf 28 = .ok (.aload_n 0, 1) from dk_at dq42_22 (i := 12) rfl) rfl rfl, ?_⟩
  refine List.forall_mem_cons.mpr ⟨ok_ldc2 C (show decode cX11_leafOf 29 = .ok (.ldc2_w 123, 3) from dk_at dq42_22 (i := 13) rfl) (gm kw_1173) rfl, ?_⟩
  refine List.forall_mem_cons.mpr ⟨ok_callV C h_X11_isWord ⟨rfl, rfl⟩ rfl kw_1340 kw_1337 kw_1339 kp_52 kw_11 rfl ds_X11_isWord ⟨by decide, by decide⟩ (show decode cX11_leafOf 32 = .ok (.invokevirtual 201, 3) from dk_at dq42_22 (i := 14) rfl) rfl, ?_⟩
  refine List.forall_mem_cons.mpr ⟨ok_ifeq C (show decode cX11_leafOf 35 = .ok (.ifCond .eq 7, 3) from dk_at dq42_22 (i := 15) rfl) (tg := 42) (by decide) rfl rfl, ?_⟩
  refine List.forall_mem_cons.mpr ⟨ok_iconst C (show decode cX11_leafOf 38 = .ok (.iconst 2, 1) from dk_at dq42_23 (i := 0) rfl) (by decide) rfl, ?_⟩
  refine List.forall_mem_cons.mpr ⟨ok_goto C (show decode cX11_leafOf 39 = .ok (.goto 91, 3) from dk_at dq42_23 (i := 1) rfl) (tg := 130) (by decide) rfl, ?_⟩
  refine List.forall_mem_cons.mpr ⟨ok_aload_n C (show decode cX11_leafOf 42 = .ok (.aload_n 0, 1) from dk_at dq42_23 (i := 2) rfl) rfl rfl, ?_⟩
  refine List.forall_mem_cons.mpr ⟨ok_ldc2 C (show decode cX11_leafOf 43 = .ok (.ldc2_w 125, 3) from dk_at dq42_23 (i := 3) rfl) (gm kw_1174) rfl, ?_⟩
  refine List.forall_mem_cons.mpr ⟨ok_callV C h_X11_isWord ⟨rfl, rfl⟩ rfl kw_1340 kw_1337 kw_1339 kp_52 kw_11 rfl ds_X11_isWord ⟨by decide, by decide⟩ (show decode cX11_leafOf 46 = .ok (.invokevirtual 201, 3) from dk_at dq42_23 (i := 4) rfl) rfl, ?_⟩
  refine List.forall_mem_cons.mpr ⟨ok_ifeq C (show decode cX11_leafOf 49 = .ok (.ifCond .eq 7, 3) from dk_at dq42_23 (i := 5) rfl) (tg := 56) (by decide) rfl rfl, ?_⟩
  refine List.forall_mem_cons.mpr ⟨ok_iconst C (show decode cX11_leafOf 52 = .ok (.iconst 3, 1) from dk_at dq42_23 (i := 6) rfl) (by decide) rfl, ?_⟩
  refine List.forall_mem_cons.mpr ⟨ok_goto C (show decode cX11_leafOf 53 = .ok (.goto 77, 3) from dk_at dq42_23 (i := 7) rfl) (tg := 130) (by decide) rfl, ?_⟩
  refine List.forall_mem_cons.mpr ⟨ok_aload_n C (show decode cX11_leafOf 56 = .ok (.aload_n 0, 1) from dk_at dq42_23 (i := 8) rfl) rfl rfl, ?_⟩
  refine List.forall_mem_cons.mpr ⟨ok_ldc2 C (show decode cX11_leafOf 57 = .ok (.ldc2_w 127, 3) from dk_at dq42_23 (i := 9) rfl) (gm kw_1175) rfl, ?_⟩
  refine List.forall_mem_cons.mpr ⟨ok_callV C h_X11_isWord ⟨rfl, rfl⟩ rfl kw_1340 kw_1337 kw_1339 kp_52 kw_11 rfl ds_X11_isWord ⟨by decide, by decide⟩ (show decode cX11_leafOf 60 = .ok (.invokevirtual 201, 3) from dk_at dq42_23 (i := 10) rfl) rfl, ?_⟩
  refine List.forall_mem_cons.mpr ⟨ok_ifeq C (show decode cX11_leafOf 63 = .ok (.ifCond .eq 7, 3) from dk_at dq42_23 (i := 11) rfl) (tg := 70) (by decide) rfl rfl, ?_⟩
  refine List.forall_mem_cons.mpr ⟨ok_iconst C (show decode cX11_leafOf 66 = .ok (.iconst 4, 1) from dk_at dq42_23 (i := 12) rfl) (by decide) rfl, ?_⟩
  refine List.forall_mem_cons.mpr ⟨ok_goto C (show decode cX11_leafOf 67 = .ok (.goto 63, 3) from dk_at dq42_23 (i := 13) rfl) (tg := 130) (by decide) rfl, ?_⟩
  refine List.forall_mem_cons.mpr ⟨ok_aload_n C (show decode cX11_leafOf 70 = .ok (.aload_n 0, 1) from dk_at dq42_23 (i := 14) rfl) rfl rfl, ?_⟩
  refine List.forall_mem_cons.mpr ⟨ok_ldc2 C (show decode cX11_leafOf 71 = .ok (.ldc2_w 129, 3) from dk_at dq42_23 (i := 15) rfl) (gm kw_1176) rfl, ?_⟩
  refine List.forall_mem_cons.mpr ⟨ok_callV C h_X11_isWord ⟨rfl, rfl⟩ rfl kw_1340 kw_1337 kw_1339 kp_52 kw_11 rfl ds_X11_isWord ⟨by decide, by decide⟩ (show decode cX11_leafOf 74 = .ok (.invokevirtual 201, 3) from dk_at dq42_24 (i := 0) rfl) rfl, ?_⟩
  refine List.forall_mem_cons.mpr ⟨ok_ifeq C (show decode cX11_leafOf 77 = .ok (.ifCond .eq 7, 3) from dk_at dq42_24 (i := 1) rfl) (tg := 84) (by decide) rfl rfl, ?_⟩
  refine List.forall_mem_cons.mpr ⟨ok_iconst C (show decode cX11_leafOf 80 = .ok (.iconst 5, 1) from dk_at dq42_24 (i := 2) rfl) (by decide) rfl, ?_⟩
  refine List.forall_mem_cons.mpr ⟨ok_goto C (show decode cX11_leafOf 81 = .ok (.goto 49, 3) from dk_at dq42_24 (i := 3) rfl) (tg := 130) (by decide) rfl, ?_⟩
  refine List.forall_mem_cons.mpr ⟨ok_aload_n C (show decode cX11_leafOf 84 = .ok (.aload_n 0, 1) from dk_at dq42_24 (i := 4) rfl) rfl rfl, ?_⟩
  refine List.forall_mem_cons.mpr ⟨ok_ldc2 C (show decode cX11_leafOf 85 = .ok (.ldc2_w 131, 3) from dk_at dq42_24 (i := 5) rfl) (gm kw_1177) rfl, ?_⟩
  refine List.forall_mem_cons.mpr ⟨ok_callV C h_X11_isWord ⟨rfl, rfl⟩ rfl kw_1340 kw_1337 kw_1339 kp_52 kw_11 rfl ds_X11_isWord ⟨by decide, by decide⟩ (show decode cX11_leafOf 88 = .ok (.invokevirtual 201, 3) from dk_at dq42_24 (i := 6) rfl) rfl, ?_⟩
  refine List.forall_mem_cons.mpr ⟨ok_ifeq C (show decode cX11_leafOf 91 = .ok (.ifCond .eq 8, 3) from dk_at dq42_24 (i := 7) rfl) (tg := 99) (by decide) rfl rfl, ?_⟩
  refine List.forall_mem_cons.mpr ⟨ok_bipush C (show decode cX11_leafOf 94 = .ok (.bipush 6, 2) from dk_at dq42_24 (i := 8) rfl) (by decide) rfl, ?_⟩
  refine List.forall_mem_cons.mpr ⟨ok_goto C (show decode cX11_leafOf 96 = .ok (.goto 34, 3) from dk_at dq42_24 (i := 9) rfl) (tg := 130) (by decide) rfl, ?_⟩
  refine List.forall_mem_cons.mpr ⟨ok_aload_n C (show decode cX11_leafOf 99 = .ok (.aload_n 0, 1) from dk_at dq42_24 (i := 10) rfl) rfl rfl, ?_⟩
  refine List.forall_mem_cons.mpr ⟨ok_ldc2 C (show decode cX11_leafOf 100 = .ok (.ldc2_w 133, 3) from dk_at dq42_24 (i := 11) rfl) (gm kw_1178) rfl, ?_⟩
  refine List.forall_mem_cons.mpr ⟨ok_callV C h_X11_isWord ⟨rfl, rfl⟩ rfl kw_1340 kw_1337 kw_1339 kp_52 kw_11 rfl ds_X11_isWord ⟨by decide, by decide⟩ (show decode cX11_leafOf 103 = .ok (.invokevirtual 201, 3) from dk_at dq42_24 (i := 12) rfl) rfl, ?_⟩
  refine List.forall_mem_cons.mpr ⟨ok_ifeq C (show decode cX11_leafOf 106 = .ok (.ifCond .eq 8, 3) from dk_at dq42_24 (i := 13) rfl) (tg := 114) (by decide) rfl rfl, ?_⟩
  refine List.forall_mem_cons.mpr ⟨ok_bipush C (show decode cX11_leafOf 109 = .ok (.bipush 7, 2) from dk_at dq42_24 (i := 14) rfl) (by decide) rfl, ?_⟩
  refine List.forall_mem_cons.mpr ⟨ok_goto C (show decode cX11_leafOf 111 = .ok (.goto 19, 3) from dk_at dq42_24 (i := 15) rfl) (tg := 130) (by decide) rfl, ?_⟩
  refine List.forall_mem_cons.mpr ⟨ok_aload_n C (show decode cX11_leafOf 114 = .ok (.aload_n 0, 1) from dk_at dq42_25 (i := 0) rfl) rfl rfl, ?_⟩
  refine List.forall_mem_cons.mpr ⟨ok_ldc2 C (show decode cX11_leafOf 115 = .ok (.ldc2_w 135, 3) from dk_at dq42_25 (i := 1) rfl) (gm kw_1179) rfl, ?_⟩
  refine List.forall_mem_cons.mpr ⟨ok_callV C h_X11_isWord ⟨rfl, rfl⟩ rfl kw_1340 kw_1337 kw_1339 kp_52 kw_11 rfl ds_X11_isWord ⟨by decide, by decide⟩ (show decode cX11_leafOf 118 = .ok (.invokevirtual 201, 3) from dk_at dq42_25 (i := 2) rfl) rfl, ?_⟩
  refine List.forall_mem_cons.mpr ⟨ok_ifeq C (show decode cX11_leafOf 121 = .ok (.ifCond .eq 8, 3) from dk_at dq42_25 (i := 3) rfl) (tg := 129) (by decide) rfl rfl, ?_⟩
  refine List.forall_mem_cons.mpr ⟨ok_bipush C (show decode cX11_leafOf 124 = .ok (.bipush 8, 2) from dk_at dq42_25 (i := 4) rfl) (by decide) rfl, ?_⟩
  refine List.forall_mem_cons.mpr ⟨ok_goto C (show decode cX11_leafOf 126 = .ok (.goto 4, 3) from dk_at dq42_25 (i := 5) rfl) (tg := 130) (by decide) rfl, ?_⟩
  refine List.forall_mem_cons.mpr ⟨ok_iconst C (show decode cX11_leafOf 129 = .ok (.iconst (-1), 1) from dk_at dq42_25 (i := 6) rfl) (by decide) rfl, ?_⟩
  refine List.forall_mem_cons.mpr ⟨ok_ret C rfl (show decode cX11_leafOf 130 = .ok (.ireturn, 1) from dk_at dq42_25 (i := 7) rfl), ?_⟩
  exact fun _ h => absurd h List.not_mem_nil
end
-- 43.m23.lean.txt
section
def L_X11_operand (f_X11_isWord : List Value → ab_H → Option ab_O) (f_X11_isSign : List Value → ab_H → Option ab_O) (f_X11_leafOf : List Value → ab_H → Option ab_O) (f_X11_bad : List Value → ab_H → Option ab_O) (f_X11_next : List Value → ab_H → Option ab_O) (f_X11_takes : List Value → ab_H → Option ab_O) (f_X11_code : List Value → ab_H → Option ab_O) : List (Nat × ab_A) := [
  (0, ab_nx 1 (ab_aload 0)),
  (1, ab_nx 4 (ab_lit (.long 7237492))),
  (4, ab_nx 7 (ab_callV 2 11 f_X11_isWord 0 0 0 0)),
  (7, ab_nx 8 (ab_istore 1)),
  (8, ab_nx 9 (ab_aload 0)),
  (9, ab_nx 11 (ab_lit (.int 40))),
  (11, ab_nx 14 (ab_callV 2 11 f_X11_isSign 0 0 0 0)),
  (14, ab_nx 15 (ab_istore 2)),
  (15, ab_nx 16 (ab_aload 0)),
  (16, ab_nx 19 (ab_callV 1 11 f_X11_leafOf 0 0 0 0)),
  (19, ab_nx 20 (ab_istore 3)),
  (20, ab_nx 21 (ab_iload 1)),
  (21, ab_if 24 38 (fun x => !decide (x = 0))),
  (24, ab_nx 25 (ab_iload 2)),
  (25, ab_if 28 38 (fun x => !decide (x = 0))),
  (28, ab_nx 29 (ab_iload 3)),
  (29, ab_if 32 38 (fun x => decide (0 ≤ x))),
  (32, ab_nx 33 (ab_aload 0)),
  (33, ab_nx 34 (ab_lit (.int 1))),
  (34, ab_nx 37 (ab_callV 2 11 f_X11_bad 0 0 0 0)),
  (37, ab_zret 0 0),
  (38, ab_nx 39 (ab_aload 0)),
  (39, ab_nx 42 (ab_getf 11 35)),
  (42, ab_nx 44 (ab_lit (.int 20))),
  (44, ab_icmp 47 56 (fun x y => decide (x = y))),
  (47, ab_nx 48 (ab_aload 0)),
  (48, ab_nx 51 (ab_getf 11 37)),
  (51, ab_nx 53 (ab_lit (.int 8))),
  (53, ab_icmp 56 62 (fun x y => decide (x ≤ y))),
  (56, ab_nx 57 (ab_aload 0)),
  (57, ab_nx 58 (ab_lit (.int 4))),
  (58, ab_nx 61 (ab_callV 2 11 f_X11_bad 0 0 0 0)),
  (61, ab_zret 0 0),
  (62, ab_nx 63 (ab_aload 0)),
  (63, ab_nx 64 ab_dup),
  (64, ab_nx 67 (ab_getf 11 35)),
  (67, ab_nx 68 (ab_lit (.int 1))),
  (68, ab_nx 69 (ab_bin (fun x y => x + y))),
  (69, ab_nx 72 (ab_putf 11 35 0)),
  (72, ab_nx 73 (ab_aload 0)),
  (73, ab_nx 76 (ab_callV 1 11 f_X11_next 0 0 0 0)),
  (76, ab_nx 77 (ab_iload 1)),
  (77, ab_if 80 84 (fun x => !decide (x = 0))),
  (80, ab_nx 81 (ab_iload 2)),
  (81, ab_if 84 126 (fun x => decide (x = 0))),
  (84, ab_nx 85 (ab_aload 0)),
  (85, ab_nx 88 (ab_getf 11 33)),
  (88, ab_nx 89 (ab_aload 0)),
  (89, ab_nx 92 (ab_getf 11 36)),
  (92, ab_nx 93 (ab_iload 1)),
  (93, ab_if 96 101 (fun x => decide (x = 0))),
  (96, ab_nx 98 (ab_lit (.int 20))),
  (98, ab_goto 103),
  (101, ab_nx 103 (ab_lit (.int 23))),
  (103, ab_nx 104 (ab_ast 1)),
  (104, ab_nx 105 (ab_aload 0)),
  (105, ab_nx 106 ab_dup),
  (106, ab_nx 109 (ab_getf 11 36)),
  (109, ab_nx 110 (ab_lit (.int 1))),
  (110, ab_nx 111 (ab_bin (fun x y => x + y))),
  (111, ab_nx 114 (ab_putf 11 36 0)),
  (114, ab_nx 115 (ab_aload 0)),
  (115, ab_nx 116 ab_dup),
  (116, ab_nx 119 (ab_getf 11 37)),
  (119, ab_nx 120 (ab_lit (.int 1))),
  (120, ab_nx 121 (ab_bin (fun x y => x + y))),
  (121, ab_nx 124 (ab_putf 11 37 0)),
  (124, ab_nx 125 (ab_lit (.int 1))),
  (125, ab_zret 0 0),
  (126, ab_nx 127 (ab_aload 0)),
  (127, ab_nx 128 (ab_lit (.int 1))),
  (128, ab_nx 131 (ab_putf 11 38 3)),
  (131, ab_nx 132 (ab_iload 3)),
  (132, ab_nx 133 (ab_lit (.int 5))),
  (133, ab_icmp 136 159 (fun x y => decide (y ≤ x))),
  (136, ab_nx 137 (ab_aload 0)),
  (137, ab_nx 138 (ab_lit (.int 0))),
  (138, ab_nx 139 (ab_lit (.int 1))),
  (139, ab_nx 142 (ab_callV 3 11 f_X11_takes 0 0 0 0)),
  (142, ab_if 145 147 (fun x => !decide (x = 0))),
  (145, ab_nx 146 (ab_lit (.int 0))),
  (146, ab_zret 0 0),
  (147, ab_nx 148 (ab_aload 0)),
  (148, ab_nx 149 (ab_iload 3)),
  (149, ab_nx 150 (ab_lit (.int 0))),
  (150, ab_nx 151 (ab_aload 0)),
  (151, ab_nx 154 (ab_getf 11 18)),
  (154, ab_nx 157 (ab_callV 4 11 f_X11_code 0 0 0 0)),
  (157, ab_nx 158 (ab_lit (.int 1))),
  (158, ab_zret 0 0),
  (159, ab_nx 160 (ab_aload 0)),
  (160, ab_nx 163 (ab_getf 11 11)),
  (163, ab_nx 164 (ab_lit (.int 3))),
  (164, ab_icmp 167 185 (fun x y => !decide (x = y))),
  (167, ab_nx 168 (ab_aload 0)),
  (168, ab_nx 171 (ab_getf 11 14)),
  (171, ab_nx 173 (ab_lit (.int 60))),
  (173, ab_icmp 176 185 (fun x y => decide (x < y))),
  (176, ab_nx 177 (ab_aload 0)),
  (177, ab_nx 180 (ab_getf 11 14)),
  (180, ab_nx 182 (ab_lit (.int 62))),
  (182, ab_icmp 185 191 (fun x y => decide (x ≤ y))),
  (185, ab_nx 186 (ab_aload 0)),
  (186, ab_nx 187 (ab_lit (.int 1))),
  (187, ab_nx 190 (ab_callV 2 11 f_X11_bad 0 0 0 0)),
  (190, ab_zret 0 0),
  (191, ab_nx 192 (ab_aload 0)),
  (192, ab_nx 195 (ab_getf 11 14)),
  (195, ab_nx 197 (ab_istore 4)),
  (197, ab_nx 198 (ab_aload 0)),
  (198, ab_nx 201 (ab_callV 1 11 f_X11_next 0 0 0 0)),
  (201, ab_nx 202 (ab_aload 0)),
  (202, ab_nx 205 (ab_getf 11 11)),
  (205, ab_nx 206 (ab_lit (.int 2))),
  (206, ab_icmp 209 215 (fun x y => decide (x = y))),
  (209, ab_nx 210 (ab_aload 0)),
  (210, ab_nx 211 (ab_lit (.int 1))),
  (211, ab_nx 214 (ab_callV 2 11 f_X11_bad 0 0 0 0)),
  (214, ab_zret 0 0),
  (215, ab_nx 216 (ab_aload 0)),
  (216, ab_nx 217 (ab_iload 3)),
  (217, ab_nx 219 (ab_iload 4)),
  (219, ab_nx 220 (ab_aload 0)),
  (220, ab_nx 223 (ab_getf 11 14)),
  (223, ab_nx 226 (ab_callV 4 11 f_X11_code 0 0 0 0)),
  (226, ab_nx 227 (ab_aload 0)),
  (227, ab_nx 230 (ab_callV 1 11 f_X11_next 0 0 0 0)),
  (230, ab_nx 231 (ab_lit (.int 1))),
  (231, ab_zret 0 0)]
set_option maxRecDepth 100000 in
theorem dq43_0 : ([(0, .aload_n 0, 1), (1, .ldc2_w 117, 3), (4, .invokevirtual 201, 3), (7, .istore_n 1, 1), (8, .aload_n 0, 1), (9, .bipush 40, 2), (11, .invokevirtual 170, 3), (14, .istore_n 2, 1), (15, .aload_n 0, 1), (16, .invokevirtual 374, 3), (19, .istore_n 3, 1), (20, .iload_n 1, 1), (21, .ifCond .ne 17, 3), (24, .iload_n 2, 1), (25, .ifCond .ne 13, 3), (28, .iload_n 3, 1)] : List (Nat × Instr × Nat)).all (fun q => decide (decode cX11_operand q.1 = .ok q.2)) = true := by decide +kernel
set_option maxRecDepth 100000 in
theorem dq43_1 : ([(29, .ifCond .ge 9, 3), (32, .aload_n 0, 1), (33, .iconst 1, 1), (34, .invokevirtual 173, 3), (37, .ireturn, 1), (38, .aload_n 0, 1), (39, .getfield 377, 3), (42, .bipush 20, 2), (44, .if_icmp .eq 12, 3), (47, .aload_n 0, 1), (48, .getfield 371, 3), (51, .bipush 8, 2), (53, .if_icmp .le 9, 3), (56, .aload_n 0, 1), (57, .iconst 4, 1), (58, .invokevirtual 173, 3)] : List (Nat × Instr × Nat)).all (fun q => decide (decode cX11_operand q.1 = .ok q.2)) = true := by decide +kernel
set_option maxRecDepth 100000 in
theorem dq43_2 : ([(61, .ireturn, 1), (62, .aload_n 0, 1), (63, .dup, 1), (64, .getfield 377, 3), (67, .iconst 1, 1), (68, .iadd, 1), (69, .putfield 377, 3), (72, .aload_n 0, 1), (73, .invokevirtual 176, 3), (76, .iload_n 1, 1), (77, .ifCond .ne 7, 3), (80, .iload_n 2, 1), (81, .ifCond .eq 45, 3), (84, .aload_n 0, 1), (85, .getfield 71, 3), (88, .aload_n 0, 1)] : List (Nat × Instr × Nat)).all (fun q => decide (decode cX11_operand q.1 = .ok q.2)) = true := by decide +kernel
set_option maxRecDepth 100000 in
theorem dq43_3 : ([(89, .getfield 364, 3), (92, .iload_n 1, 1), (93, .ifCond .eq 8, 3), (96, .bipush 20, 2), (98, .goto 5, 3), (101, .bipush 23, 2), (103, .iastore, 1), (104, .aload_n 0, 1), (105, .dup, 1), (106, .getfield 364, 3), (109, .iconst 1, 1), (110, .iadd, 1), (111, .putfield 364, 3), (114, .aload_n 0, 1), (115, .dup, 1), (116, .getfield 371, 3)] : List (Nat × Instr × Nat)).all (fun q => decide (decode cX11_operand q.1 = .ok q.2)) = true := by decide +kernel
set_option maxRecDepth 100000 in
theorem dq43_4 : ([(119, .iconst 1, 1), (120, .iadd, 1), (121, .putfield 371, 3), (124, .iconst 1, 1), (125, .ireturn, 1), (126, .aload_n 0, 1), (127, .iconst 1, 1), (128, .putfield 380, 3), (131, .iload_n 3, 1), (132, .iconst 5, 1), (133, .if_icmp .ge 26, 3), (136, .aload_n 0, 1), (137, .iconst 0, 1), (138, .iconst 1, 1), (139, .invokevirtual 186, 3), (142, .ifCond .ne 5, 3)] : List (Nat × Instr × Nat)).all (fun q => decide (decode cX11_operand q.1 = .ok q.2)) = true := by decide +kernel
set_option maxRecDepth 100000 in
theorem dq43_5 : ([(145, .iconst 0, 1), (146, .ireturn, 1), (147, .aload_n 0, 1), (148, .iload_n 3, 1), (149, .iconst 0, 1), (150, .aload_n 0, 1), (151, .getfield 183, 3), (154, .invokevirtual 367, 3), (157, .iconst 1, 1), (158, .ireturn, 1), (159, .aload_n 0, 1), (160, .getfield 147, 3), (163, .iconst 3, 1), (164, .if_icmp .ne 21, 3), (167, .aload_n 0, 1), (168, .getfield 157, 3)] : List (Nat × Instr × Nat)).all (fun q => decide (decode cX11_operand q.1 = .ok q.2)) = true := by decide +kernel
set_option maxRecDepth 100000 in
theorem dq43_6 : ([(171, .bipush 60, 2), (173, .if_icmp .lt 12, 3), (176, .aload_n 0, 1), (177, .getfield 157, 3), (180, .bipush 62, 2), (182, .if_icmp .le 9, 3), (185, .aload_n 0, 1), (186, .iconst 1, 1), (187, .invokevirtual 173, 3), (190, .ireturn, 1), (191, .aload_n 0, 1), (192, .getfield 157, 3), (195, .istore 4, 2), (197, .aload_n 0, 1), (198, .invokevirtual 176, 3), (201, .aload_n 0, 1)] : List (Nat × Instr × Nat)).all (fun q => decide (decode cX11_operand q.1 = .ok q.2)) = true := by decide +kernel
set_option maxRecDepth 100000 in
theorem dq43_7 : ([(202, .getfield 147, 3), (205, .iconst 2, 1), (206, .if_icmp .eq 9, 3), (209, .aload_n 0, 1), (210, .iconst 1, 1), (211, .invokevirtual 173, 3), (214, .ireturn, 1), (215, .aload_n 0, 1), (216, .iload_n 3, 1), (217, .iload 4, 2), (219, .aload_n 0, 1), (220, .getfield 157, 3), (223, .invokevirtual 367, 3), (226, .aload_n 0, 1), (227, .invokevirtual 176, 3), (230, .iconst 1, 1)] : List (Nat × Instr × Nat)).all (fun q => decide (decode cX11_operand q.1 = .ok q.2)) = true := by decide +kernel
set_option maxRecDepth 100000 in
theorem dq43_8 : ([(231, .ireturn, 1)] : List (Nat × Instr × Nat)).all (fun q => decide (decode cX11_operand q.1 = .ok q.2)) = true := by decide +kernel
set_option maxRecDepth 100000 in
set_option maxHeartbeats 4000000 in
theorem M_X11_operand {l : Launch} {b : ab_B} {D : va_G} {cA : Nat → ClassId} {f_X11_isWord : List Value → ab_H → Option ab_O} (h_X11_isWord : ab_M l b D ab_cl cA (ab_E0 b) yX11_isWord (Cond.code yX11_isWord cX11_isWord 3 (some .boolean) :: ab_G) ({ frames := 1, cells := 0, slots := 0, locals := 100 } : Room) f_X11_isWord) {f_X11_isSign : List Value → ab_H → Option ab_O} (h_X11_isSign : ab_M l b D ab_cl cA (ab_E0 b) yX11_isSign (Cond.code yX11_isSign cX11_isSign 2 (some .boolean) :: ab_G) ({ frames := 1, cells := 0, slots := 0, locals := 100 } : Room) f_X11_isSign) {f_X11_leafOf : List Value → ab_H → Option ab_O} (h_X11_leafOf : ab_M l b D ab_cl cA (ab_E0 b) yX11_leafOf (Cond.code yX11_leafOf cX11_leafOf 1 (some .int) :: ab_G) ({ frames := 2, cells := 0, slots := 0, locals := 200 } : Room) f_X11_leafOf) {f_X11_bad : List Value → ab_H → Option ab_O} (h_X11_bad : ab_M l b D ab_cl cA (ab_E0 b) yX11_bad (Cond.code yX11_bad cX11_bad 2 (some .boolean) :: ab_G) ({ frames := 1, cells := 0, slots := 0, locals := 100 } : Room) f_X11_bad) {f_X11_next : List Value → ab_H → Option ab_O} (h_X11_next : ab_M l b D ab_cl cA (ab_E0 b) yX11_next (Cond.code yX11_next cX11_next 4 none :: ab_G) ({ frames := 2, cells := 0, slots := 0, locals := 200 } : Room) f_X11_next) {f_X11_takes : List Value → ab_H → Option ab_O} (h_X11_takes : ab_M l b D ab_cl cA (ab_E0 b) yX11_takes (Cond.code yX11_takes cX11_takes 3 (some .boolean) :: ab_G) ({ frames := 3, cells := 0, slots := 0, locals := 300 } : Room) f_X11_takes) {f_X11_code : List Value → ab_H → Option ab_O} (h_X11_code : ab_M l b D ab_cl cA (ab_E0 b) yX11_code (Cond.code yX11_code cX11_code 4 none :: ab_G) ({ frames := 1, cells := 0, slots := 0, locals := 100 } : Room) f_X11_code) : ab_M l b D ab_cl cA (ab_E0 b) yX11_operand (Cond.code yX11_operand cX11_operand 5 (some .boolean) :: ab_G) ({ frames := 4, cells := 0, slots := 0, locals := 400 } : Room) (ab_X (ab_T (L_X11_operand f_X11_isWord f_X11_isSign f_X11_leafOf f_X11_bad f_X11_next f_X11_takes f_X11_code)) 5) := by
  refine ab_meth (ret := (some .boolean)) (L_X11_operand f_X11_isWord f_X11_isSign f_X11_leafOf f_X11_bad f_X11_next f_X11_takes f_X11_code) (by decide) rfl fun p e R s m args below meth c o C => ?_
  unfold L_X11_operand
  refine List.forall_mem_cons.mpr ⟨ok_aload_n C (show decode cX11_operand 0 = .ok (.aload_n 0, 1) from dk_at dq43_0 (i := 0) rfl) rfl rfl, ?_⟩
  refine List.forall_mem_cons.mpr ⟨ok_ldc2 C (show decode cX11_operand 1 = .ok (.ldc2_w 117, 3) from dk_at dq43_0 (i := 1) rfl) (gm kw_1170) rfl, ?_⟩
  refine List.forall_mem_cons.mpr ⟨ok_callV C h_X11_isWord ⟨rfl, rfl⟩ rfl kw_1340 kw_1337 kw_1339 kp_52 kw_11 rfl ds_X11_isWord ⟨by decide, by decide⟩ (show decode cX11_operand 4 = .ok (.invokevirtual 201, 3) from dk_at dq43_0 (i := 2) rfl) rfl, ?_⟩
  refine List.forall_mem_cons.mpr ⟨ok_istore_n C (show decode cX11_operand 7 = .ok (.istore_n 1, 1) from dk_at dq43_0 (i := 3) rfl) rfl (by decide) rfl, ?_⟩
  refine List.forall_mem_cons.mpr ⟨ok_aload_n C (show decode cX11_operand 8 = .ok (.aload_n 0, 1) from dk_at dq43_0 (i := 4) rfl) rfl rfl, ?_⟩
  refine List.forall_mem_cons.mpr ⟨ok_bipush C (show decode cX11_operand 9 = .ok (.bipush 40, 2) from dk_at dq43_0 (i := 5) rfl) (by decide) rfl, ?_⟩
  refine List.forall_mem_cons.mpr ⟨ok_callV C h_X11_isSign ⟨rfl, rfl⟩ rfl kw_1390 kw_1387 kw_1389 kp_63 kw_11 rfl ds_X11_isSign ⟨by decide, by decide⟩ (show decode cX11_operand 11 = .ok (.invokevirtual 170, 3) from dk_at dq43_0 (i := 6) rfl) rfl, ?_⟩
  refine List.forall_mem_cons.mpr ⟨ok_istore_n C (show decode cX11_operand 14 = .ok (.istore_n 2, 1) from dk_at dq43_0 (i := 7) rfl) rfl (by decide) rfl, ?_⟩
  refine List.forall_mem_cons.mpr ⟨ok_aload_n C (show decode cX11_operand 15 = .ok (.aload_n 0, 1) from dk_at dq43_0 (i := 8) rfl) rfl rfl, ?_⟩
  refine List.forall_mem_cons.mpr ⟨ok_callV C h_X11_leafOf ⟨rfl, rfl⟩ rfl kw_1688 kw_1685 kw_1687 kp_101 kw_11 rfl ds_X11_leafOf ⟨by decide, by decide⟩ (show decode cX11_operand 16 = .ok (.invokevirtual 374, 3) from dk_at dq43_0 (i := 9) rfl) rfl, ?_⟩
  refine List.forall_mem_cons.mpr ⟨ok_istore_n C (show decode cX11_operand 19 = .ok (.istore_n 3, 1) from dk_at dq43_0 (i := 10) rfl) rfl (by decide) rfl, ?_⟩
  refine List.forall_mem_cons.mpr ⟨ok_iload_n C (show decode cX11_operand 20 = .ok (.iload_n 1, 1) from dk_at dq43_0 (i := 11) rfl) rfl rfl, ?_⟩
  refine List.forall_mem_cons.mpr ⟨ok_ifne C (show decode cX11_operand 21 = .ok (.ifCond .ne 17, 3) from dk_at dq43_0 (i := 12) rfl) (tg := 38) (by decide) rfl rfl, ?_⟩
  refine List.forall_mem_cons.mpr ⟨ok_iload_n C (show decode cX11_operand 24 = .ok (.iload_n 2, 1) from dk_at dq43_0 (i := 13) rfl) rfl rfl, ?_⟩
  refine List.forall_mem_cons.mpr ⟨ok_ifne C (show decode cX11_operand 25 = .ok (.ifCond .ne 13, 3) from dk_at dq43_0 (i := 14) rfl) (tg := 38) (by decide) rfl rfl, ?_⟩
  refine List.forall_mem_cons.mpr ⟨ok_iload_n C (show decode cX11_operand 28 = .ok (.iload_n 3, 1) from dk_at dq43_0 (i := 15) rfl) rfl rfl, ?_⟩
  refine List.forall_mem_cons.mpr ⟨ok_ifge C (show decode cX11_operand 29 = .ok (.ifCond .ge 9, 3) from dk_at dq43_1 (i := 0) rfl) (tg := 38) (by decide) rfl rfl, ?_⟩
  refine List.forall_mem_cons.mpr ⟨ok_aload_n C (show decode cX11_operand 32 = .ok (.aload_n 0, 1) from dk_at dq43_1 (i := 1) rfl) rfl rfl, ?_⟩
  refine List.forall_mem_cons.mpr ⟨ok_iconst C (show decode cX11_operand 33 = .ok (.iconst 1, 1) from dk_at dq43_1 (i := 2) rfl) (by decide) rfl, ?_⟩
  refine List.forall_mem_cons.mpr ⟨ok_callV C h_X11_bad ⟨rfl, rfl⟩ rfl kw_1344 kw_1341 kw_1343 kp_53 kw_11 rfl ds_X11_bad ⟨by decide, by decide⟩ (show decode cX11_operand 34 = .ok (.invokevirtual 173, 3) from dk_at dq43_1 (i := 3) rfl) rfl, ?_⟩
  refine List.forall_mem_cons.mpr ⟨ok_zret C rfl (show decode cX11_operand 37 = .ok (.ireturn, 1) from dk_at dq43_1 (i := 4) rfl), ?_⟩
  refine List.forall_mem_cons.mpr ⟨ok_aload_n C (show decode cX11_operand 38 = .ok (.aload_n 0, 1) from dk_at dq43_1 (i := 5) rfl) rfl rfl, ?_⟩
  refine List.forall_mem_cons.mpr ⟨ok_getf C (wi_X11) rfl (by decide) kw_1215 (show decode cX11_operand 39 = .ok (.getfield 377, 3) from dk_at dq43_1 (i := 6) rfl) rfl, ?_⟩
  refine List.forall_mem_cons.mpr ⟨ok_bipush C (show decode cX11_operand 42 = .ok (.bipush 20, 2) from dk_at dq43_1 (i := 7) rfl) (by decide) rfl, ?_⟩
  refine List.forall_mem_cons.mpr ⟨ok_icmpeq C (show decode cX11_operand 44 = .ok (.if_icmp .eq 12, 3) from dk_at dq43_1 (i := 8) rfl) (tg := 56) (by decide) rfl rfl, ?_⟩
  refine List.forall_mem_cons.mpr ⟨ok_aload_n C (show decode cX11_operand 47 = .ok (.aload_n 0, 1) from dk_at dq43_1 (i := 9) rfl) rfl rfl, ?_⟩
  refine List.forall_mem_cons.mpr ⟨ok_getf C (wi_X11) rfl (by decide) kw_1217 (show decode cX11_operand 48 = .ok (.getfield 371, 3) from dk_at dq43_1 (i := 10) rfl) rfl, ?_⟩
  refine List.forall_mem_cons.mpr ⟨ok_bipush C (show decode cX11_operand 51 = .ok (.bipush 8, 2) from dk_at dq43_1 (i := 11) rfl) (by decide) rfl, ?_⟩
  refine List.forall_mem_cons.mpr ⟨ok_icmple C (show decode cX11_operand 53 = .ok (.if_icmp .le 9, 3) from dk_at dq43_1 (i := 12) rfl) (tg := 62) (by decide) rfl rfl, ?_⟩
  refine List.forall_mem_cons.mpr ⟨ok_aload_n C (show decode cX11_operand 56 = .ok (.aload_n 0, 1) from dk_at dq43_1 (i := 13) rfl) rfl rfl, ?_⟩
  refine List.forall_mem_cons.mpr ⟨ok_iconst C (show decode cX11_operand 57 = .ok (.iconst 4, 1) from dk_at dq43_1 (i := 14) rfl) (by decide) rfl, ?_⟩
  refine List.forall_mem_cons.mpr ⟨ok_callV C h_X11_bad ⟨rfl, rfl⟩ rfl kw_1344 kw_1341 kw_1343 kp_53 kw_11 rfl ds_X11_bad ⟨by decide, by decide⟩ (show decode cX11_operand 58 = .ok (.invokevirtual 173, 3) from dk_at dq43_1 (i := 15) rfl) rfl, ?_⟩
  refine List.forall_mem_cons.mpr ⟨ok_zret C rfl (show decode cX11_operand 61 = .ok (.ireturn, 1) from dk_at dq43_2 (i := 0) rfl), ?_⟩
  refine List.forall_mem_cons.mpr ⟨ok_aload_n C (show decode cX11_operand 62 = .ok (.aload_n 0, 1) from dk_at dq43_2 (i := 1) rfl) rfl rfl, ?_⟩
  refine List.forall_mem_cons.mpr ⟨ok_dup C (show decode cX11_operand 63 = .ok (.dup, 1) from dk_at dq43_2 (i := 2) rfl) rfl, ?_⟩
  refine List.forall_mem_cons.mpr ⟨ok_getf C (wi_X11) rfl (by decide) kw_1215 (show decode cX11_operand 64 = .ok (.getfield 377, 3) from dk_at dq43_2 (i := 3) rfl) rfl, ?_⟩
  refine List.forall_mem_cons.mpr ⟨ok_iconst C (show decode cX11_operand 67 = .ok (.iconst 1, 1) from dk_at dq43_2 (i := 4) rfl) (by decide) rfl, ?_⟩
  refine List.forall_mem_cons.mpr ⟨ok_iadd C (show decode cX11_operand 68 = .ok (.iadd, 1) from dk_at dq43_2 (i := 5) rfl) rfl, ?_⟩
  refine List.forall_mem_cons.mpr ⟨ok_putf C (wi_X11) tyX11 tyX11_ok nmX11 rfl (by decide) kw_1215 (Or.inl rfl) (Or.inl ⟨rfl, rfl⟩) (show decode cX11_operand 69 = .ok (.putfield 377, 3) from dk_at dq43_2 (i := 6) rfl) rfl, ?_⟩
  refine List.forall_mem_cons.mpr ⟨ok_aload_n C (show decode cX11_operand 72 = .ok (.aload_n 0, 1) from dk_at dq43_2 (i := 7) rfl) rfl rfl, ?_⟩
  refine List.forall_mem_cons.mpr ⟨ok_callV C h_X11_next ⟨rfl, rfl⟩ rfl kw_1322 kw_1319 kw_1321 kp_49 kw_11 rfl ds_X11_next ⟨by decide, by decide⟩ (show decode cX11_operand 73 = .ok (.invokevirtual 176, 3) from dk_at dq43_2 (i := 8) rfl) rfl, ?_⟩
  refine List.forall_mem_cons.mpr ⟨ok_iload_n C (show decode cX11_operand 76 = .ok (.iload_n 1, 1) from dk_at dq43_2 (i := 9) rfl) rfl rfl, ?_⟩
  refine List.forall_mem_cons.mpr ⟨ok_ifne C (show decode cX11_operand 77 = .ok (.ifCond .ne 7, 3) from dk_at dq43_2 (i := 10) rfl) (tg := 84) (by decide) rfl rfl, ?_⟩
  refine List.forall_mem_cons.mpr ⟨ok_iload_n C (show decode cX11_operand 80 = .ok (.iload_n 2, 1) from dk_at dq43_2 (i := 11) rfl) rfl rfl, ?_⟩
  refine List.forall_mem_cons.mpr ⟨ok_ifeq C (show decode cX11_operand 81 = .ok (.ifCond .eq 45, 3) from dk_at dq43_2 (i := 12) rfl) (tg := 126) (by decide) rfl rfl, ?_⟩
  refine List.forall_mem_cons.mpr ⟨ok_aload_n C (show decode cX11_operand 84 = .ok (.aload_n 0, 1) from dk_at dq43_2 (i := 13) rfl) rfl rfl, ?_⟩
  refine List.forall_mem_cons.mpr ⟨ok_getf C (wi_X11) rfl (by decide) kw_1213 (show decode cX11_operand 85 = .ok (.getfield 71, 3) from dk_at dq43_2 (i := 14) rfl) rfl, ?_⟩
  refine List.forall_mem_cons.mpr ⟨ok_aload_n C (show decode cX11_operand 88 = .ok (.aload_n 0, 1) from dk_at dq43_2 (i := 15) rfl) rfl rfl, ?_⟩
  refine List.forall_mem_cons.mpr ⟨ok_getf C (wi_X11) rfl (by decide) kw_1216 (show decode cX11_operand 89 = .ok (.getfield 364, 3) from dk_at dq43_3 (i := 0) rfl) rfl, ?_⟩
  refine List.forall_mem_cons.mpr ⟨ok_iload_n C (show decode cX11_operand 92 = .ok (.iload_n 1, 1) from dk_at dq43_3 (i := 1) rfl) rfl rfl, ?_⟩
  refine List.forall_mem_cons.mpr ⟨ok_ifeq C (show decode cX11_operand 93 = .ok (.ifCond .eq 8, 3) from dk_at dq43_3 (i := 2) rfl) (tg := 101) (by decide) rfl rfl, ?_⟩
  refine List.forall_mem_cons.mpr ⟨ok_bipush C (show decode cX11_operand 96 = .ok (.bipush 20, 2) from dk_at dq43_3 (i := 3) rfl) (by decide) rfl, ?_⟩
  refine List.forall_mem_cons.mpr ⟨ok_goto C (show decode cX11_operand 98 = .ok (.goto 5, 3) from dk_at dq43_3 (i := 4) rfl) (tg := 103) (by decide) rfl, ?_⟩
  refine List.forall_mem_cons.mpr ⟨ok_bipush C (show decode cX11_operand 101 = .ok (.bipush 23, 2) from dk_at dq43_3 (i := 5) rfl) (by decide) rfl, ?_⟩
  refine List.forall_mem_cons.mpr ⟨ok_iastore C (show decode cX11_operand 103 = .ok (.iastore, 1) from dk_at dq43_3 (i := 6) rfl) rfl, ?_⟩
  refine List.forall_mem_cons.mpr ⟨ok_aload_n C (show decode cX11_operand 104 = .ok (.aload_n 0, 1) from dk_at dq43_3 (i := 7) rfl) rfl rfl, ?_⟩
  refine List.forall_mem_cons.mpr ⟨ok_dup C (show decode cX11_operand 105 = .ok (.dup, 1) from dk_at dq43_3 (i := 8) rfl) rfl, ?_⟩
  refine List.forall_mem_cons.mpr ⟨ok_getf C (wi_X11) rfl (by decide) kw_1216 (show decode cX11_operand 106 = .ok (.getfield 364, 3) from dk_at dq43_3 (i := 9) rfl) rfl, ?_⟩
  refine List.forall_mem_cons.mpr ⟨ok_iconst C (show decode cX11_operand 109 = .ok (.iconst 1, 1) from dk_at dq43_3 (i := 10) rfl) (by decide) rfl, ?_⟩
  refine List.forall_mem_cons.mpr ⟨ok_iadd C (show decode cX11_operand 110 = .ok (.iadd, 1) from dk_at dq43_3 (i := 11) rfl) rfl, ?_⟩
  refine List.forall_mem_cons.mpr ⟨ok_putf C (wi_X11) tyX11 tyX11_ok nmX11 rfl (by decide) kw_1216 (Or.inl rfl) (Or.inl ⟨rfl, rfl⟩) (show decode cX11_operand 111 = .ok (.putfield 364, 3) from dk_at dq43_3 (i := 12) rfl) rfl, ?_⟩
  refine List.forall_mem_cons.mpr ⟨ok_aload_n C (show decode cX11_operand 114 = .ok (.aload_n 0, 1) from dk_at dq43_3 (i := 13) rfl) rfl rfl, ?_⟩
  refine List.forall_mem_cons.mpr ⟨ok_dup C (show decode cX11_operand 115 = .ok (.dup, 1) from dk_at dq43_3 (i := 14) rfl) rfl, ?_⟩
  refine List.forall_mem_cons.mpr ⟨ok_getf C (wi_X11) rfl (by decide) kw_1217 (show decode cX11_operand 116 = .ok (.getfield 371, 3) from dk_at dq43_3 (i := 15) rfl) rfl, ?_⟩
  refine List.forall_mem_cons.mpr ⟨ok_iconst C (show decode cX11_operand 119 = .ok (.iconst 1, 1) from dk_at dq43_4 (i := 0) rfl) (by decide) rfl, ?_⟩
  refine List.forall_mem_cons.mpr ⟨ok_iadd C (show decode cX11_operand 120 = .ok (.iadd, 1) from dk_at dq43_4 (i := 1) rfl) rfl, ?_⟩
  refine List.forall_mem_cons.mpr ⟨ok_putf C (wi_X11) tyX11 tyX11_ok nmX11 rfl (by decide) kw_1217 (Or.inl rfl) (Or.inl ⟨rfl, rfl⟩) (show decode cX11_operand 121 = .ok (.putfield 371, 3) from dk_at dq43_4 (i := 2) rfl) rfl, ?_⟩
  refine List.forall_mem_cons.mpr ⟨ok_iconst C (show decode cX11_operand 124 = .ok (.iconst 1, 1) from dk_at dq43_4 (i := 3) rfl) (by decide) rfl, ?_⟩
  refine List.forall_mem_cons.mpr ⟨ok_zret C rfl (show decode cX11_operand 125 = .ok (.ireturn, 1) from dk_at dq43_4 (i := 4) rfl), ?_⟩
  refine List.forall_mem_cons.mpr ⟨ok_aload_n C (show decode cX11_operand 126 = .ok (.aload_n 0, 1) from dk_at dq43_4 (i := 5) rfl) rfl rfl, ?_⟩
  refine List.forall_mem_cons.mpr ⟨ok_iconst C (show decode cX11_operand 127 = .ok (.iconst 1, 1) from dk_at dq43_4 (i := 6) rfl) (by decide) rfl, ?_⟩
  refine List.forall_mem_cons.mpr ⟨ok_putf C (wi_X11) tyX11 tyX11_ok nmX11 rfl (by decide) kw_1218 (Or.inl rfl) (Or.inr (Or.inr (Or.inr ⟨rfl, rfl⟩))) (show decode cX11_operand 128 = .ok (.putfield 380, 3) from dk_at dq43_4 (i := 7) rfl) rfl, ?_⟩
  refine List.forall_mem_cons.mpr ⟨ok_iload_n C (show decode cX11_operand 131 = .ok (.iload_n 3, 1) from dk_at dq43_4 (i := 8) rfl) rfl rfl, ?_⟩
  refine List.forall_mem_cons.mpr ⟨ok_iconst C (show decode cX11_operand 132 = .ok (.iconst 5, 1) from dk_at dq43_4 (i := 9) rfl) (by decide) rfl, ?_⟩
  refine List.forall_mem_cons.mpr ⟨ok_icmpge C (show decode cX11_operand 133 = .ok (.if_icmp .ge 26, 3) from dk_at dq43_4 (i := 10) rfl) (tg := 159) (by decide) rfl rfl, ?_⟩
  refine List.forall_mem_cons.mpr ⟨ok_aload_n C (show decode cX11_operand 136 = .ok (.aload_n 0, 1) from dk_at dq43_4 (i := 11) rfl) rfl rfl, ?_⟩
  refine List.forall_mem_cons.mpr ⟨ok_iconst C (show decode cX11_operand 137 = .ok (.iconst 0, 1) from dk_at dq43_4 (i := 12) rfl) (by decide) rfl, ?_⟩
  refine List.forall_mem_cons.mpr ⟨ok_iconst C (show decode cX11_operand 138 = .ok (.iconst 1, 1) from dk_at dq43_4 (i := 13) rfl) (by decide) rfl, ?_⟩
  refine List.forall_mem_cons.mpr ⟨ok_callV C h_X11_takes ⟨rfl, rfl⟩ rfl kw_1352 kw_1349 kw_1351 kp_55 kw_11 rfl ds_X11_takes ⟨by decide, by decide⟩ (show decode cX11_operand 139 = .ok (.invokevirtual 186, 3) from dk_at dq43_4 (i := 14) rfl) rfl, ?_⟩
  refine List.forall_mem_cons.mpr ⟨ok_ifne C (show decode cX11_operand 142 = .ok (.ifCond .ne 5, 3) from dk_at dq43_4 (i := 15) rfl) (tg := 147) (by decide) rfl rfl, ?_⟩
  refine List.forall_mem_cons.mpr ⟨ok_iconst C (show decode cX11_operand 145 = .ok (.iconst 0, 1) from dk_at dq43_5 (i := 0) rfl) (by decide) rfl, ?_⟩
  refine List.forall_mem_cons.mpr ⟨ok_zret C rfl (show decode cX11_operand 146 = .ok (.ireturn, 1) from dk_at dq43_5 (i := 1) rfl), ?_⟩
  refine List.forall_mem_cons.mpr ⟨ok_aload_n C (show decode cX11_operand 147 = .ok (.aload_n 0, 1) from dk_at dq43_5 (i := 2) rfl) rfl rfl, ?_⟩
  refine List.forall_mem_cons.mpr ⟨ok_iload_n C (show decode cX11_operand 148 = .ok (.iload_n 3, 1) from dk_at dq43_5 (i := 3) rfl) rfl rfl, ?_⟩
  refine List.forall_mem_cons.mpr ⟨ok_iconst C (show decode cX11_operand 149 = .ok (.iconst 0, 1) from dk_at dq43_5 (i := 4) rfl) (by decide) rfl, ?_⟩
  refine List.forall_mem_cons.mpr ⟨ok_aload_n C (show decode cX11_operand 150 = .ok (.aload_n 0, 1) from dk_at dq43_5 (i := 5) rfl) rfl rfl, ?_⟩
  refine List.forall_mem_cons.mpr ⟨ok_getf C (wi_X11) rfl (by decide) kw_1198 (show decode cX11_operand 151 = .ok (.getfield 183, 3) from dk_at dq43_5 (i := 6) rfl) rfl, ?_⟩
  refine List.forall_mem_cons.mpr ⟨ok_callV C h_X11_code ⟨rfl, rfl⟩ rfl kw_1672 kw_1669 kw_1671 kp_97 kw_11 rfl ds_X11_code ⟨by decide, by decide⟩ (show decode cX11_operand 154 = .ok (.invokevirtual 367, 3) from dk_at dq43_5 (i := 7) rfl) rfl, ?_⟩
  refine List.forall_mem_cons.mpr ⟨ok_iconst C (show decode cX11_operand 157 = .ok (.iconst 1, 1) from dk_at dq43_5 (i := 8) rfl) (by decide) rfl, ?_⟩
  refine List.forall_mem_cons.mpr ⟨ok_zret C rfl (show decode cX11_operand 158 = .ok (.ireturn, 1) from dk_at dq43_5 (i := 9) rfl), ?_⟩
  refine List.forall_mem_cons.mpr ⟨ok_aload_n C (show decode cX11_operand 159 = .ok (.aload_n 0, 1) from dk_at dq43_5 (i := 10) rfl) rfl rfl, ?_⟩
  refine List.forall_mem_cons.mpr ⟨ok_getf C (wi_X11) rfl (by decide) kw_1191 (show decode cX11_operand 160 = .ok (.getfield 147, 3) from dk_at dq43_5 (i := 11) rfl) rfl, ?_⟩
  refine List.forall_mem_cons.mpr ⟨ok_iconst C (show decode cX11_operand 163 = .ok (.iconst 3, 1) from dk_at dq43_5 (i := 12) rfl) (by decide) rfl, ?_⟩
  refine List.forall_mem_cons.mpr ⟨ok_icmpne C (show decode cX11_operand 164 = .ok (.if_icmp .ne 21, 3) from dk_at dq43_5 (i := 13) rfl) (tg := 185) (by decide) rfl rfl, ?_⟩
  refine List.forall_mem_cons.mpr ⟨ok_aload_n C (show decode cX11_operand 167 = .ok (.aload_n 0, 1) from dk_at dq43_5 (i := 14) rfl) rfl rfl, ?_⟩
  refine List.forall_mem_cons.mpr ⟨ok_getf C (wi_X11) rfl (by decide) kw_1194 (show decode cX11_operand 168 = .ok (.getfield 157, 3) from dk_at dq43_5 (i := 15) rfl) rfl, ?_⟩
  refine List.forall_mem_cons.mpr ⟨ok_bipush C (show decode cX11_operand 171 = .ok (.bipush 60, 2) from dk_at dq43_6 (i := 0) rfl) (by decide) rfl, ?_⟩
  refine List.forall_mem_cons.mpr ⟨ok_icmplt C (show decode cX11_operand 173 = .ok (.if_icmp .lt 12, 3) from dk_at dq43_6 (i := 1) rfl) (tg := 185) (by decide) rfl rfl, ?_⟩
  refine List.forall_mem_cons.mpr ⟨ok_aload_n C (show decode cX11_operand 176 = .ok (.aload_n 0, 1) from dk_at dq43_6 (i := 2) rfl) rfl rfl, ?_⟩
  refine List.forall_mem_cons.mpr ⟨ok_getf C (wi_X11) rfl (by decide) kw_1194 (show decode cX11_operand 177 = .ok (.getfield 157, 3) from dk_at dq43_6 (i := 3) rfl) rfl, ?_⟩
  refine List.forall_mem_cons.mpr ⟨ok_bipush C (show decode cX11_operand 180 = .ok (.bipush 62, 2) from dk_at dq43_6 (i := 4) rfl) (by decide) rfl, ?_⟩
  refine List.forall_mem_cons.mpr ⟨ok_icmple C (show decode cX11_operand 182 = .ok (.if_icmp .le 9, 3) from dk_at dq43_6 (i := 5) rfl) (tg := 191) (by decide) rfl rfl, ?_⟩
  refine List.forall_mem_cons.mpr ⟨ok_aload_n C (show decode cX11_operand 185 = .ok (.aload_n 0, 1) from dk_at dq43_6 (i := 6) rfl) rfl rfl, ?_⟩
  refine List.forall_mem_cons.mpr ⟨ok_iconst C (show decode cX11_operand 186 = .ok (.iconst 1, 1) from dk_at dq43_6 (i := 7) rfl) (by decide) rfl, ?_⟩
  refine List.forall_mem_cons.mpr ⟨ok_callV C h_X11_bad ⟨rfl, rfl⟩ rfl kw_1344 kw_1341 kw_1343 kp_53 kw_11 rfl ds_X11_bad ⟨by decide, by decide⟩ (show decode cX11_operand 187 = .ok (.invokevirtual 173, 3) from dk_at dq43_6 (i := 8) rfl) rfl, ?_⟩
  refine List.forall_mem_cons.mpr ⟨ok_zret C rfl (show decode cX11_operand 190 = .ok (.ireturn, 1) from dk_at dq43_6 (i := 9) rfl), ?_⟩
  refine List.forall_mem_cons.mpr ⟨ok_aload_n C (show decode cX11_operand 191 = .ok (.aload_n 0, 1) from dk_at dq43_6 (i := 10) rfl) rfl rfl, ?_⟩
  refine List.forall_mem_cons.mpr ⟨ok_getf C (wi_X11) rfl (by decide) kw_1194 (show decode cX11_operand 192 = .ok (.getfield 157, 3) from dk_at dq43_6 (i := 11) rfl) rfl, ?_⟩
  refine List.forall_mem_cons.mpr ⟨ok_istore C (show decode cX11_operand 195 = .ok (.istore 4, 2) from dk_at dq43_6 (i := 12) rfl) (by decide) rfl, ?_⟩
  refine List.forall_mem_cons.mpr ⟨ok_aload_n C (show decode cX11_operand 197 = .ok (.aload_n 0, 1) from dk_at dq43_6 (i := 13) rfl) rfl rfl, ?_⟩
  refine List.forall_mem_cons.mpr ⟨ok_callV C h_X11_next ⟨rfl, rfl⟩ rfl kw_1322 kw_1319 kw_1321 kp_49 kw_11 rfl ds_X11_next ⟨by decide, by decide⟩ (show decode cX11_operand 198 = .ok (.invokevirtual 176, 3) from dk_at dq43_6 (i := 14) rfl) rfl, ?_⟩
  refine List.forall_mem_cons.mpr ⟨ok_aload_n C (show decode cX11_operand 201 = .ok (.aload_n 0, 1) from dk_at dq43_6 (i := 15) rfl) rfl rfl, ?_⟩
  refine List.forall_mem_cons.mpr ⟨ok_getf C (wi_X11) rfl (by decide) kw_1191 (show decode cX11_operand 202 = .ok (.getfield 147, 3) from dk_at dq43_7 (i := 0) rfl) rfl, ?_⟩
  refine List.forall_mem_cons.mpr ⟨ok_iconst C (show decode cX11_operand 205 = .ok (.iconst 2, 1) from dk_at dq43_7 (i := 1) rfl) (by decide) rfl, ?_⟩
  refine List.forall_mem_cons.mpr ⟨ok_icmpeq C (show decode cX11_operand 206 = .ok (.if_icmp .eq 9, 3) from dk_at dq43_7 (i := 2) rfl) (tg := 215) (by decide) rfl rfl, ?_⟩
  refine List.forall_mem_cons.mpr ⟨ok_aload_n C (show decode cX11_operand 209 = .ok (.aload_n 0, 1) from dk_at dq43_7 (i := 3) rfl) rfl rfl, ?_⟩
  refine List.forall_mem_cons.mpr ⟨ok_iconst C (show decode cX11_operand 210 = .ok (.iconst 1, 1) from dk_at dq43_7 (i := 4) rfl) (by decide) rfl, ?_⟩
  refine List.forall_mem_cons.mpr ⟨ok_callV C h_X11_bad ⟨rfl, rfl⟩ rfl kw_1344 kw_1341 kw_1343 kp_53 kw_11 rfl ds_X11_bad ⟨by decide, by decide⟩ (show decode cX11_operand 211 = .ok (.invokevirtual 173, 3) from dk_at dq43_7 (i := 5) rfl) rfl, ?_⟩
  refine List.forall_mem_cons.mpr ⟨ok_zret C rfl (show decode cX11_operand 214 = .ok (.ireturn, 1) from dk_at dq43_7 (i := 6) rfl), ?_⟩
  refine List.forall_mem_cons.mpr ⟨ok_aload_n C (show decode cX11_operand 215 = .ok (.aload_n 0, 1) from dk_at dq43_7 (i := 7) rfl) rfl rfl, ?_⟩
  refine List.forall_mem_cons.mpr ⟨ok_iload_n C (show decode cX11_operand 216 = .ok (.iload_n 3, 1) from dk_at dq43_7 (i := 8) rfl) rfl rfl, ?_⟩
  refine List.forall_mem_cons.mpr ⟨ok_iload C (show decode cX11_operand 217 = .ok (.iload 4, 2) from dk_at dq43_7 (i := 9) rfl) rfl, ?_⟩
  refine List.forall_mem_cons.mpr ⟨ok_aload_n C (show decode cX11_operand 219 = .ok (.aload_n 0, 1) from dk_at dq43_7 (i := 10) rfl) rfl rfl, ?_⟩
  refine List.forall_mem_cons.mpr ⟨ok_getf C (wi_X11) rfl (by decide) kw_1194 (show decode cX11_operand 220 = .ok (.getfield 157, 3) from dk_at dq43_7 (i := 11) rfl) rfl, ?_⟩
  refine List.forall_mem_cons.mpr ⟨ok_callV C h_X11_code ⟨rfl, rfl⟩ rfl kw_1672 kw_1669 kw_1671 kp_97 kw_11 rfl ds_X11_code ⟨by decide, by decide⟩ (show decode cX11_operand 223 = .ok (.invokevirtual 367, 3) from dk_at dq43_7 (i := 12) rfl) rfl, ?_⟩
  refine List.forall_mem_cons.mpr ⟨ok_aload_n C (show decode cX11_operand 226 = .ok (.aload_n 0, 1) from dk_at dq43_7 (i := 13) rfl) rfl rfl, ?_⟩
  refine List.forall_mem_cons.mpr ⟨ok_callV C h_X11_next ⟨rfl, rfl⟩ rfl kw_1322 kw_1319 kw_1321 kp_49 kw_11 rfl ds_X11_next ⟨by decide, by decide⟩ (show decode cX11_operand 227 = .ok (.invokevirtual 176, 3) from dk_at dq43_7 (i := 14) rfl) rfl, ?_⟩
  refine List.forall_mem_cons.mpr ⟨ok_iconst C (show decode cX11_operand 230 = .ok (.iconst 1, 1) from dk_at dq43_7 (i := 15) rfl) (by decide) rfl, ?_⟩
  refine List.forall_mem_cons.mpr ⟨ok_zret C rfl (show decode cX11_operand 231 = .ok (.ireturn, 1) from dk_at dq43_8 (i := 0) rfl), ?_⟩
  exact fun _ h => absurd h List.not_mem_nil
def L_X11_behind (f_X11_nots : List Value → ab_H → Option ab_O) (f_X11_isWord : List Value → ab_H → Option ab_O) (f_X11_joins : List Value → ab_H → Option ab_O) (f_X11_next : List Value → ab_H → Option ab_O) (f_X11_isSign : List Value → ab_H → Option ab_O) (f_X11_bad : List Value → ab_H → Option ab_O) : List (Nat × ab_A) := [
  (0, ab_nx 1 (ab_aload 0)),
  (1, ab_nx 4 (ab_callV 1 11 f_X11_nots 0 0 0 0)),
  (4, ab_nx 5 (ab_aload 0)),
  (5, ab_nx 8 (ab_lit (.long 6385252))),
  (8, ab_nx 11 (ab_callV 2 11 f_X11_isWord 0 0 0 0)),
  (11, ab_if 14 24 (fun x => !decide (x = 0))),
  (14, ab_nx 15 (ab_aload 0)),
  (15, ab_nx 18 (ab_lit (.long 28530))),
  (18, ab_nx 21 (ab_callV 2 11 f_X11_isWord 0 0 0 0)),
  (21, ab_if 24 92 (fun x => decide (x = 0))),
  (24, ab_nx 25 (ab_aload 0)),
  (25, ab_nx 26 (ab_aload 0)),
  (26, ab_nx 29 (ab_lit (.long 6385252))),
  (29, ab_nx 32 (ab_callV 2 11 f_X11_isWord 0 0 0 0)),
  (32, ab_if 35 40 (fun x => decide (x = 0))),
  (35, ab_nx 37 (ab_lit (.int 21))),
  (37, ab_goto 42),
  (40, ab_nx 42 (ab_lit (.int 22))),
  (42, ab_nx 45 (ab_callV 2 11 f_X11_joins 0 0 0 0)),
  (45, ab_nx 46 (ab_aload 0)),
  (46, ab_nx 49 (ab_getf 11 33)),
  (49, ab_nx 50 (ab_aload 0)),
  (50, ab_nx 53 (ab_getf 11 36)),
  (53, ab_nx 54 (ab_aload 0)),
  (54, ab_nx 57 (ab_lit (.long 6385252))),
  (57, ab_nx 60 (ab_callV 2 11 f_X11_isWord 0 0 0 0)),
  (60, ab_if 63 68 (fun x => decide (x = 0))),
  (63, ab_nx 65 (ab_lit (.int 21))),
  (65, ab_goto 70),
  (68, ab_nx 70 (ab_lit (.int 22))),
  (70, ab_nx 71 (ab_ast 1)),
  (71, ab_nx 72 (ab_aload 0)),
  (72, ab_nx 73 ab_dup),
  (73, ab_nx 76 (ab_getf 11 36)),
  (76, ab_nx 77 (ab_lit (.int 1))),
  (77, ab_nx 78 (ab_bin (fun x y => x + y))),
  (78, ab_nx 81 (ab_putf 11 36 0)),
  (81, ab_nx 82 (ab_aload 0)),
  (82, ab_nx 83 (ab_lit (.int 0))),
  (83, ab_nx 86 (ab_putf 11 38 3)),
  (86, ab_nx 87 (ab_aload 0)),
  (87, ab_nx 90 (ab_callV 1 11 f_X11_next 0 0 0 0)),
  (90, ab_nx 91 (ab_lit (.int 1))),
  (91, ab_zret 0 0),
  (92, ab_nx 93 (ab_aload 0)),
  (93, ab_nx 95 (ab_lit (.int 22))),
  (95, ab_nx 98 (ab_callV 2 11 f_X11_joins 0 0 0 0)),
  (98, ab_nx 99 (ab_aload 0)),
  (99, ab_nx 101 (ab_lit (.int 41))),
  (101, ab_nx 104 (ab_callV 2 11 f_X11_isSign 0 0 0 0)),
  (104, ab_if 107 114 (fun x => decide (x = 0))),
  (107, ab_nx 108 (ab_aload 0)),
  (108, ab_nx 111 (ab_getf 11 36)),
  (111, ab_if 114 120 (fun x => !decide (x = 0))),
  (114, ab_nx 115 (ab_aload 0)),
  (115, ab_nx 116 (ab_lit (.int 1))),
  (116, ab_nx 119 (ab_callV 2 11 f_X11_bad 0 0 0 0)),
  (119, ab_zret 0 0),
  (120, ab_nx 121 (ab_aload 0)),
  (121, ab_nx 122 ab_dup),
  (122, ab_nx 125 (ab_getf 11 36)),
  (125, ab_nx 126 (ab_lit (.int 1))),
  (126, ab_nx 127 (ab_bin (fun x y => x - y))),
  (127, ab_nx 130 (ab_putf 11 36 0)),
  (130, ab_nx 131 (ab_aload 0)),
  (131, ab_nx 132 ab_dup),
  (132, ab_nx 135 (ab_getf 11 37)),
  (135, ab_nx 136 (ab_lit (.int 1))),
  (136, ab_nx 137 (ab_bin (fun x y => x - y))),
  (137, ab_nx 140 (ab_putf 11 37 0)),
  (140, ab_nx 141 (ab_aload 0)),
  (141, ab_nx 144 (ab_callV 1 11 f_X11_next 0 0 0 0)),
  (144, ab_nx 145 (ab_lit (.int 1))),
  (145, ab_zret 0 0)]
set_option maxRecDepth 100000 in
theorem dq43_9 : ([(0, .aload_n 0, 1), (1, .invokevirtual 383, 3), (4, .aload_n 0, 1), (5, .ldc2_w 115, 3), (8, .invokevirtual 201, 3), (11, .ifCond .ne 13, 3), (14, .aload_n 0, 1), (15, .ldc2_w 113, 3), (18, .invokevirtual 201, 3), (21, .ifCond .eq 71, 3), (24, .aload_n 0, 1), (25, .aload_n 0, 1), (26, .ldc2_w 115, 3), (29, .invokevirtual 201, 3), (32, .ifCond .eq 8, 3), (35, .bipush 21, 2)] : List (Nat × Instr × Nat)).all (fun q => decide (decode cX11_behind q.1 = .ok q.2)) = true := by decide +kernel
set_option maxRecDepth 100000 in
theorem dq43_10 : ([(37, .goto 5, 3), (40, .bipush 22, 2), (42, .invokevirtual 386, 3), (45, .aload_n 0, 1), (46, .getfield 71, 3), (49, .aload_n 0, 1), (50, .getfield 364, 3), (53, .aload_n 0, 1), (54, .ldc2_w 115, 3), (57, .invokevirtual 201, 3), (60, .ifCond .eq 8, 3), (63, .bipush 21, 2), (65, .goto 5, 3), (68, .bipush 22, 2), (70, .iastore, 1), (71, .aload_n 0, 1)] : List (Nat × Instr × Nat)).all (fun q => decide (decode cX11_behind q.1 = .ok q.2)) = true := by decide +kernel
set_option maxRecDepth 100000 in
theorem dq43_11 : ([(72, .dup, 1), (73, .getfield 364, 3), (76, .iconst 1, 1), (77, .iadd, 1), (78, .putfield 364, 3), (81, .aload_n 0, 1), (82, .iconst 0, 1), (83, .putfield 380, 3), (86, .aload_n 0, 1), (87, .invokevirtual 176, 3), (90, .iconst 1, 1), (91, .ireturn, 1), (92, .aload_n 0, 1), (93, .bipush 22, 2), (95, .invokevirtual 386, 3), (98, .aload_n 0, 1)] : List (Nat × Instr × Nat)).all (fun q => decide (decode cX11_behind q.1 = .ok q.2)) = true := by decide +kernel
set_option maxRecDepth 100000 in
theorem dq43_12 : ([(99, .bipush 41, 2), (101, .invokevirtual 170, 3), (104, .ifCond .eq 10, 3), (107, .aload_n 0, 1), (108, .getfield 364, 3), (111, .ifCond .ne 9, 3), (114, .aload_n 0, 1), (115, .iconst 1, 1), (116, .invokevirtual 173, 3), (119, .ireturn, 1), (120, .aload_n 0, 1), (121, .dup, 1), (122, .getfield 364, 3), (125, .iconst 1, 1), (126, .isub, 1), (127, .putfield 364, 3)] : List (Nat × Instr × Nat)).all (fun q => decide (decode cX11_behind q.1 = .ok q.2)) = true := by decide +kernel
set_option maxRecDepth 100000 in
theorem dq43_13 : ([(130, .aload_n 0, 1), (131, .dup, 1), (132, .getfield 371, 3), (135, .iconst 1, 1), (136, .isub, 1), (137, .putfield 371, 3), (140, .aload_n 0, 1), (141, .invokevirtual 176, 3), (144, .iconst 1, 1), (145, .ireturn, 1)] : List (Nat × Instr × Nat)).all (fun q => decide (decode cX11_behind q.1 = .ok q.2)) = true := by decide +kernel
set_option maxRecDepth 100000 in
set_option maxHeartbeats 4000000 in
theorem M_X11_behind {l : Launch} {b : ab_B} {D : va_G} {cA : Nat → ClassId} {f_X11_nots : List Value → ab_H → Option ab_O} (h_X11_nots : ab_M l b D ab_cl cA (ab_E0 b) yX11_nots (Cond.code yX11_nots cX11_nots 1 none :: ab_G) ({ frames := 2, cells := 0, slots := 0, locals := 200 } : Room) f_X11_nots) {f_X11_isWord : List Value → ab_H → Option ab_O} (h_X11_isWord : ab_M l b D ab_cl cA (ab_E0 b) yX11_isWord (Cond.code yX11_isWord cX11_isWord 3 (some .boolean) :: ab_G) ({ frames := 1, cells := 0, slots := 0, locals := 100 } : Room) f_X11_isWord) {f_X11_joins : List Value → ab_H → Option ab_O} (h_X11_joins : ab_M l b D ab_cl cA (ab_E0 b) yX11_joins (Cond.code yX11_joins cX11_joins 2 none :: ab_G) ({ frames := 2, cells := 0, slots := 0, locals := 200 } : Room) f_X11_joins) {f_X11_next : List Value → ab_H → Option ab_O} (h_X11_next : ab_M l b D ab_cl cA (ab_E0 b) yX11_next (Cond.code yX11_next cX11_next 4 none :: ab_G) ({ frames := 2, cells := 0, slots := 0, locals := 200 } : Room) f_X11_next) {f_X11_isSign : List Value → ab_H → Option ab_O} (h_X11_isSign : ab_M l b D ab_cl cA (ab_E0 b) yX11_isSign (Cond.code yX11_isSign cX11_isSign 2 (some .boolean) :: ab_G) ({ frames := 1, cells := 0, slots := 0, locals := 100 } : Room) f_X11_isSign) {f_X11_bad : List Value → ab_H → Option ab_O} (h_X11_bad : ab_M l b D ab_cl cA (ab_E0 b) yX11_bad (Cond.code yX11_bad cX11_bad 2 (some .boolean) :: ab_G) ({ frames := 1, cells := 0, slots := 0, locals := 100 } : Room) f_X11_bad) : ab_M l b D ab_cl cA (ab_E0 b) yX11_behind (Cond.code yX11_behind cX11_behind 1 (some .boolean) :: ab_G) ({ frames := 3, cells := 0, slots := 0, locals := 300 } : Room) (ab_X (ab_T (L_X11_behind f_X11_nots f_X11_isWord f_X11_joins f_X11_next f_X11_isSign f_X11_bad)) 1) := by
  refine ab_meth (ret := (some .boolean)) (L_X11_behind f_X11_nots f_X11_isWord f_X11_joins f_X11_next f_X11_isSign f_X11_bad) (by decide) rfl fun p e R s m args below meth c o C => ?_
  unfold L_X11_behind
  refine List.forall_mem_cons.mpr ⟨ok_aload_n C (show decode cX11_behind 0 = .ok (.aload_n 0, 1) from dk_at dq43_9 (i := 0) rfl) rfl rfl, ?_⟩
  refine List.forall_mem_cons.mpr ⟨ok_callV C h_X11_nots ⟨rfl, rfl⟩ rfl kw_1668 kw_1665 kw_1667 kp_96 kw_11 rfl ds_X11_nots ⟨by decide, by decide⟩ (show decode cX11_behind 1 = .ok (.invokevirtual 383, 3) from dk_at dq43_9 (i := 1) rfl) rfl, ?_⟩
  refine List.forall_mem_cons.mpr ⟨ok_aload_n C (show decode cX11_behind 4 = .ok (.aload_n 0, 1) from dk_at dq43_9 (i := 2) rfl) rfl rfl, ?_⟩
  refine List.forall_mem_cons.mpr ⟨ok_ldc2 C (show decode cX11_behind 5 = .ok (.ldc2_w 115, 3) from dk_at dq43_9 (i := 3) rfl) (gm kw_1169) rfl, ?_⟩
  refine List.forall_mem_cons.mpr ⟨ok_callV C h_X11_isWord ⟨rfl, rfl⟩ rfl kw_1340 kw_1337 kw_1339 kp_52 kw_11 rfl ds_X11_isWord ⟨by decide, by decide⟩ (show decode cX11_behind 8 = .ok (.invokevirtual 201, 3) from dk_at dq43_9 (i := 4) rfl) rfl, ?_⟩
  refine List.forall_mem_cons.mpr ⟨ok_ifne C (show decode cX11_behind 11 = .ok (.ifCond .ne 13, 3) from dk_at dq43_9 (i := 5) rfl) (tg := 24) (by decide) rfl rfl, ?_⟩
  refine List.forall_mem_cons.mpr ⟨ok_aload_n C (show decode cX11_behind 14 = .ok (.aload_n 0, 1) from dk_at dq43_9 (i := 6) rfl) rfl rfl, ?_⟩
  refine List.forall_mem_cons.mpr ⟨ok_ldc2 C (show decode cX11_behind 15 = .ok (.ldc2_w 113, 3) from dk_at dq43_9 (i := 7) rfl) (gm kw_1168) rfl, ?_⟩
  refine List.forall_mem_cons.mpr ⟨ok_callV C h_X11_isWord ⟨rfl, rfl⟩ rfl kw_1340 kw_1337 kw_1339 kp_52 kw_11 rfl ds_X11_isWord ⟨by decide, by decide⟩ (show decode cX11_behind 18 = .ok (.invokevirtual 201, 3) from dk_at dq43_9 (i := 8) rfl) rfl, ?_⟩
  refine List.forall_mem_cons.mpr ⟨ok_ifeq C (show decode cX11_behind 21 = .ok (.ifCond .eq 71, 3) from dk_at dq43_9 (i := 9) rfl) (tg := 92) (by decide) rfl rfl, ?_⟩
  refine List.forall_mem_cons.mpr ⟨ok_aload_n C (show decode cX11_behind 24 = .ok (.aload_n 0, 1) from dk_at dq43_9 (i := 10) rfl) rfl rfl, ?_⟩
  refine List.forall_mem_cons.mpr ⟨ok_aload_n C (show decode cX11_behind 25 = .ok (.aload_n 0, 1) from dk_at dq43_9 (i := 11) rfl) rfl rfl, ?_⟩
  refine List.forall_mem_cons.mpr ⟨ok_ldc2 C (show decode cX11_behind 26 = .ok (.ldc2_w 115, 3) from dk_at dq43_9 (i := 12) rfl) (gm kw_1169) rfl, ?_⟩
  refine List.forall_mem_cons.mpr ⟨ok_callV C h_X11_isWord ⟨rfl, rfl⟩ rfl kw_1340 kw_1337 kw_1339 kp_52 kw_11 rfl ds_X11_isWord ⟨by decide, by decide⟩ (show decode cX11_behind 29 = .ok (.invokevirtual 201, 3) from dk_at dq43_9 (i := 13) rfl) rfl, ?_⟩
  refine List.forall_mem_cons.mpr ⟨ok_ifeq C (show decode cX11_behind 32 = .ok (.ifCond .eq 8, 3) from dk_at dq43_9 (i := 14) rfl) (tg := 40) (by decide) rfl rfl, ?_⟩
  refine List.forall_mem_cons.mpr ⟨ok_bipush C (show decode cX11_behind 35 = .ok (.bipush 21, 2) from dk_at dq43_9 (i := 15) rfl) (by decide) rfl, ?_⟩
  refine List.forall_mem_cons.mpr ⟨ok_goto C (show decode cX11_behind 37 = .ok (.goto 5, 3) from dk_at dq43_10 (i := 0) rfl) (tg := 42) (by decide) rfl, ?_⟩
  refine List.forall_mem_cons.mpr ⟨ok_bipush C (show decode cX11_behind 40 = .ok (.bipush 22, 2) from dk_at dq43_10 (i := 1) rfl) (by decide) rfl, ?_⟩
  refine List.forall_mem_cons.mpr ⟨ok_callV C h_X11_joins ⟨rfl, rfl⟩ rfl kw_1676 kw_1673 kw_1675 kp_98 kw_11 rfl ds_X11_joins ⟨by decide, by decide⟩ (show decode cX11_behind 42 = .ok (.invokevirtual 386, 3) from dk_at dq43_10 (i := 2) rfl) rfl, ?_⟩
  refine List.forall_mem_cons.mpr ⟨ok_aload_n C (show decode cX11_behind 45 = .ok (.aload_n 0, 1) from dk_at dq43_10 (i := 3) rfl) rfl rfl, ?_⟩
  refine List.forall_mem_cons.mpr ⟨ok_getf C (wi_X11) rfl (by decide) kw_1213 (show decode cX11_behind 46 = .ok (.getfield 71, 3) from dk_at dq43_10 (i := 4) rfl) rfl, ?_⟩
  refine List.forall_mem_cons.mpr ⟨ok_aload_n C (show decode cX11_behind 49 = .ok (.aload_n 0, 1) from dk_at dq43_10 (i := 5) rfl) rfl rfl, ?_⟩
  refine List.forall_mem_cons.mpr ⟨ok_getf C (wi_X11) rfl (by decide) kw_1216 (show decode cX11_behind 50 = .ok (.getfield 364, 3) from dk_at dq43_10 (i := 6) rfl) rfl, ?_⟩
  refine List.forall_mem_cons.mpr ⟨ok_aload_n C (show decode cX11_behind 53 = .ok (.aload_n 0, 1) from dk_at dq43_10 (i := 7) rfl) rfl rfl, ?_⟩
  refine List.forall_mem_cons.mpr ⟨ok_ldc2 C (show decode cX11_behind 54 = .ok (.ldc2_w 115, 3) from dk_at dq43_10 (i := 8) rfl) (gm kw_1169) rfl, ?_⟩
  refine List.forall_mem_cons.mpr ⟨ok_callV C h_X11_isWord ⟨rfl, rfl⟩ rfl kw_1340 kw_1337 kw_1339 kp_52 kw_11 rfl ds_X11_isWord ⟨by decide, by decide⟩ (show decode cX11_behind 57 = .ok (.invokevirtual 201, 3) from dk_at dq43_10 (i := 9) rfl) rfl, ?_⟩
  refine List.forall_mem_cons.mpr ⟨ok_ifeq C (show decode cX11_behind 60 = .ok (.ifCond .eq 8, 3) from dk_at dq43_10 (i := 10) rfl) (tg := 68) (by decide) rfl rfl, ?_⟩
  refine List.forall_mem_cons.mpr ⟨ok_bipush C (show decode cX11_behind 63 = .ok (.bipush 21, 2) from dk_at dq43_10 (i := 11) rfl) (by decide) rfl, ?_⟩
  refine List.forall_mem_cons.mpr ⟨ok_goto C (show decode cX11_behind 65 = .ok (.goto 5, 3) from dk_at dq43_10 (i := 12) rfl) (tg := 70) (by decide) rfl, ?_⟩
  refine List.forall_mem_cons.mpr ⟨ok_bipush C (show decode cX11_behind 68 = .ok (.bipush 22, 2) from dk_at dq43_10 (i := 13) rfl) (by decide) rfl, ?_⟩
  refine List.forall_mem_cons.mpr ⟨ok_iastore C (show decode cX11_behind 70 = .ok (.iastore, 1) from dk_at dq43_10 (i := 14) rfl) rfl, ?_⟩
  refine List.forall_mem_cons.mpr ⟨ok_aload_n C (show decode cX11_behind 71 = .ok (.aload_n 0, 1) from dk_at dq43_10 (i := 15) rfl) rfl rfl, ?_⟩
  refine List.forall_mem_cons.mpr ⟨ok_dup C (show decode cX11_behind 72 = .ok (.dup, 1) from dk_at dq43_11 (i := 0) rfl) rfl, ?_⟩
  refine List.forall_mem_cons.mpr ⟨ok_getf C (wi_X11) rfl (by decide) kw_1216 (show decode cX11_behind 73 = .ok (.getfield 364, 3) from dk_at dq43_11 (i := 1) rfl) rfl, ?_⟩
  refine List.forall_mem_cons.mpr ⟨ok_iconst C (show decode cX11_behind 76 = .ok (.iconst 1, 1) from dk_at dq43_11 (i := 2) rfl) (by decide) rfl, ?_⟩
  refine List.forall_mem_cons.mpr ⟨ok_iadd C (show decode cX11_behind 77 = .ok (.iadd, 1) from dk_at dq43_11 (i := 3) rfl) rfl, ?_⟩
  refine List.forall_mem_cons.mpr ⟨ok_putf C (wi_X11) tyX11 tyX11_ok nmX11 rfl (by decide) kw_1216 (Or.inl rfl) (Or.inl ⟨rfl, rfl⟩) (show decode cX11_behind 78 = .ok (.putfield 364, 3) from dk_at dq43_11 (i := 4) rfl) rfl, ?_⟩
  refine List.forall_mem_cons.mpr ⟨ok_aload_n C (show decode cX11_behind 81 = .ok (.aload_n 0, 1) from dk_at dq43_11 (i := 5) rfl) rfl rfl, ?_⟩
  refine List.forall_mem_cons.mpr ⟨ok_iconst C (show decode cX11_behind 82 = .ok (.iconst 0, 1) from dk_at dq43_11 (i := 6) rfl) (by decide) rfl, ?_⟩
  refine List.forall_mem_cons.mpr ⟨ok_putf C (wi_X11) tyX11 tyX11_ok nmX11 rfl (by decide) kw_1218 (Or.inl rfl) (Or.inr (Or.inr (Or.inr ⟨rfl, rfl⟩))) (show decode cX11_behind 83 = .ok (.putfield 380, 3) from dk_at dq43_11 (i := 7) rfl) rfl, ?_⟩
  refine List.forall_mem_cons.mpr ⟨ok_aload_n C (show decode cX11_behind 86 = .ok (.aload_n 0, 1) from dk_at dq43_11 (i := 8) rfl) rfl rfl, ?_⟩
  refine List.forall_mem_cons.mpr ⟨ok_callV C h_X11_next ⟨rfl, rfl⟩ rfl kw_1322 kw_1319 kw_1321 kp_49 kw_11 rfl ds_X11_next ⟨by decide, by decide⟩ (show decode cX11_behind 87 = .ok (.invokevirtual 176, 3) from dk_at dq43_11 (i := 9) rfl) rfl, ?_⟩
  refine List.forall_mem_cons.mpr ⟨ok_iconst C (show decode cX11_behind 90 = .ok (.iconst 1, 1) from dk_at dq43_11 (i := 10) rfl) (by decide) rfl, ?_⟩
  refine List.forall_mem_cons.mpr ⟨ok_zret C rfl (show decode cX11_behind 91 = .ok (.ireturn, 1) from dk_at dq43_11 (i := 11) rfl), ?_⟩
  refine List.forall_mem_cons.mpr ⟨ok_aload_n C (show decode cX11_behind 92 = .ok (.aload_n 0, 1) from dk_at dq43_11 (i := 12) rfl) rfl rfl, ?_⟩
  refine List.forall_mem_cons.mpr ⟨ok_bipush C (show decode cX11_behind 93 = .ok (.bipush 22, 2) from dk_at dq43_11 (i := 13) rfl) (by decide) rfl, ?_⟩
  refine List.forall_mem_cons.mpr ⟨ok_callV C h_X11_joins ⟨rfl, rfl⟩ rfl kw_1676 kw_1673 kw_1675 kp_98 kw_11 rfl ds_X11_joins ⟨by decide, by decide⟩ (show decode cX11_behind 95 = .ok (.invokevirtual 386, 3) from dk_at dq43_11 (i := 14) rfl) rfl, ?_⟩
  refine List.forall_mem_cons.mpr ⟨ok_aload_n C (show decode cX11_behind 98 = .ok (.aload_n 0, 1) from dk_at dq43_11 (i := 15) rfl) rfl rfl, ?_⟩
  refine List.forall_mem_cons.mpr ⟨ok_bipush C (show decode cX11_behind 99 = .ok (.bipush 41, 2) from dk_at dq43_12 (i := 0) rfl) (by decide) rfl, ?_⟩
  refine List.forall_mem_cons.mpr ⟨ok_callV C h_X11_isSign ⟨rfl, rfl⟩ rfl kw_1390 kw_1387 kw_1389 kp_63 kw_11 rfl ds_X11_isSign ⟨by decide, by decide⟩ (show decode cX11_behind 101 = .ok (.invokevirtual 170, 3) from dk_at dq43_12 (i := 1) rfl) rfl, ?_⟩
  refine List.forall_mem_cons.mpr ⟨ok_ifeq C (show decode cX11_behind 104 = .ok (.ifCond .eq 10, 3) from dk_at dq43_12 (i := 2) rfl) (tg := 114) (by decide) rfl rfl, ?_⟩
  refine List.forall_mem_cons.mpr ⟨ok_aload_n C (show decode cX11_behind 107 = .ok (.aload_n 0, 1) from dk_at dq43_12 (i := 3) rfl) rfl rfl, ?_⟩
  refine List.forall_mem_cons.mpr ⟨ok_getf C (wi_X11) rfl (by decide) kw_1216 (show decode cX11_behind 108 = .ok (.getfield 364, 3) from dk_at dq43_12 (i := 4) rfl) rfl, ?_⟩
  refine List.forall_mem_cons.mpr ⟨ok_ifne C (show decode cX11_behind 111 = .ok (.ifCond .ne 9, 3) from dk_at dq43_12 (i := 5) rfl) (tg := 120) (by decide) rfl rfl, ?_⟩
  refine List.forall_mem_cons.mpr ⟨ok_aload_n C (show decode cX11_behind 114 = .ok (.aload_n 0, 1) from dk_at dq43_12 (i := 6) rfl) rfl rfl, ?_⟩
  refine List.forall_mem_cons.mpr ⟨ok_iconst C (show decode cX11_behind 115 = .ok (.iconst 1, 1) from dk_at dq43_12 (i := 7) rfl) (by decide) rfl, ?_⟩
  refine List.forall_mem_cons.mpr ⟨ok_callV C h_X11_bad ⟨rfl, rfl⟩ rfl kw_1344 kw_1341 kw_1343 kp_53 kw_11 rfl ds_X11_bad ⟨by decide, by decide⟩ (show decode cX11_behind 116 = .ok (.invokevirtual 173, 3) from dk_at dq43_12 (i := 8) rfl) rfl, ?_⟩
  refine List.forall_mem_cons.mpr ⟨ok_zret C rfl (show decode cX11_behind 119 = .ok (.ireturn, 1) from dk_at dq43_12 (i := 9) rfl), ?_⟩
  refine List.forall_mem_cons.mpr ⟨ok_aload_n C (show decode cX11_behind 120 = .ok (.aload_n 0, 1) from dk_at dq43_12 (i := 10) rfl) rfl rfl, ?_⟩
  refine List.forall_mem_cons.mpr ⟨ok_dup C (show decode cX11_behind 121 = .ok (.dup, 1) from dk_at dq43_12 (i := 11) rfl) rfl, ?_⟩
  refine List.forall_mem_cons.mpr ⟨ok_getf C (wi_X11) rfl (by decide) kw_1216 (show decode cX11_behind 122 = .ok (.getfield 364, 3) from dk_at dq43_12 (i := 12) rfl) rfl, ?_⟩
  refine List.forall_mem_cons.mpr ⟨ok_iconst C (show decode cX11_behind 125 = .ok (.iconst 1, 1) from dk_at dq43_12 (i := 13) rfl) (by decide) rfl, ?_⟩
  refine List.forall_mem_cons.mpr ⟨ok_isub C (show decode cX11_behind 126 = .ok (.isub, 1) from dk_at dq43_12 (i := 14) rfl) rfl, ?_⟩
  refine List.forall_mem_cons.mpr ⟨ok_putf C (wi_X11) tyX11 tyX11_ok nmX11 rfl (by decide) kw_1216 (Or.inl rfl) (Or.inl ⟨rfl, rfl⟩) (show decode cX11_behind 127 = .ok (.putfield 364, 3) from dk_at dq43_12 (i := 15) rfl) rfl, ?_⟩
  refine List.forall_mem_cons.mpr ⟨ok_aload_n C (show decode cX11_behind 130 = .ok (.aload_n 0, 1) from dk_at dq43_13 (i := 0) rfl) rfl rfl, ?_⟩
  refine List.forall_mem_cons.mpr ⟨ok_dup C (show decode cX11_behind 131 = .ok (.dup, 1) from dk_at dq43_13 (i := 1) rfl) rfl, ?_⟩
  refine List.forall_mem_cons.mpr ⟨ok_getf C (wi_X11) rfl (by decide) kw_1217 (show decode cX11_behind 132 = .ok (.getfield 371, 3) from dk_at dq43_13 (i := 2) rfl) rfl, ?_⟩
  refine List.forall_mem_cons.mpr ⟨ok_iconst C (show decode cX11_behind 135 = .ok (.iconst 1, 1) from dk_at dq43_13 (i := 3) rfl) (by decide) rfl, ?_⟩
  refine List.forall_mem_cons.mpr ⟨ok_isub C (show decode cX11_behind 136 = .ok (.isub, 1) from dk_at dq43_13 (i := 4) rfl) rfl, ?_⟩
  refine List.forall_mem_cons.mpr ⟨ok_putf C (wi_X11) tyX11 tyX11_ok nmX11 rfl (by decide) kw_1217 (Or.inl rfl) (Or.inl ⟨rfl, rfl⟩) (show decode cX11_behind 137 = .ok (.putfield 371, 3) from dk_at dq43_13 (i := 5) rfl) rfl, ?_⟩
  refine List.forall_mem_cons.mpr ⟨ok_aload_n C (show decode cX11_behind 140 = .ok (.aload_n 0, 1) from dk_at dq43_13 (i := 6) rfl) rfl rfl, ?_⟩
  refine List.forall_mem_cons.mpr ⟨ok_callV C h_X11_next ⟨rfl, rfl⟩ rfl kw_1322 kw_1319 kw_1321 kp_49 kw_11 rfl ds_X11_next ⟨by decide, by decide⟩ (show decode cX11_behind 141 = .ok (.invokevirtual 176, 3) from dk_at dq43_13 (i := 7) rfl) rfl, ?_⟩
  refine List.forall_mem_cons.mpr ⟨ok_iconst C (show decode cX11_behind 144 = .ok (.iconst 1, 1) from dk_at dq43_13 (i := 8) rfl) (by decide) rfl, ?_⟩
  refine List.forall_mem_cons.mpr ⟨ok_zret C rfl (show decode cX11_behind 145 = .ok (.ireturn, 1) from dk_at dq43_13 (i := 9) rfl), ?_⟩
  exact fun _ h => absurd h List.not_mem_nil
def L_X11_sentence (f_X11_taken : List Value → ab_H → Option ab_O) (f_X11_next : List Value → ab_H → Option ab_O) (f_X11_nots : List Value → ab_H → Option ab_O) (f_X11_joins : List Value → ab_H → Option ab_O) (f_X11_bad : List Value → ab_H → Option ab_O) (f_X11_behind : List Value → ab_H → Option ab_O) (f_X11_operand : List Value → ab_H → Option ab_O) : List (Nat × ab_A) := [
  (0, ab_nx 1 (ab_aload 0)),
  (1, ab_nx 2 (ab_lit (.int 0))),
  (2, ab_nx 5 (ab_putf 11 0 0)),
  (5, ab_nx 6 (ab_aload 0)),
  (6, ab_nx 9 (ab_lit (.int 200))),
  (9, ab_nx 12 (ab_callV 2 11 f_X11_taken 0 0 0 0)),
  (12, ab_nx 13 (ab_aload 0)),
  (13, ab_nx 14 (ab_lit (.int 0))),
  (14, ab_nx 17 (ab_putf 11 15 0)),
  (17, ab_nx 18 (ab_aload 0)),
  (18, ab_nx 19 (ab_lit (.int 0))),
  (19, ab_nx 22 (ab_putf 11 34 0)),
  (22, ab_nx 23 (ab_aload 0)),
  (23, ab_nx 24 (ab_lit (.int 0))),
  (24, ab_nx 27 (ab_putf 11 35 0)),
  (27, ab_nx 28 (ab_aload 0)),
  (28, ab_nx 29 (ab_lit (.int 0))),
  (29, ab_nx 32 (ab_putf 11 36 0)),
  (32, ab_nx 33 (ab_aload 0)),
  (33, ab_nx 34 (ab_lit (.int 1))),
  (34, ab_nx 37 (ab_putf 11 37 0)),
  (37, ab_nx 38 (ab_aload 0)),
  (38, ab_nx 39 (ab_lit (.int 0))),
  (39, ab_nx 42 (ab_putf 11 38 3)),
  (42, ab_nx 43 (ab_aload 0)),
  (43, ab_nx 46 (ab_callV 1 11 f_X11_next 0 0 0 0)),
  (46, ab_nx 47 (ab_lit (.int 1))),
  (47, ab_nx 48 (ab_istore 1)),
  (48, ab_nx 49 (ab_iload 1)),
  (49, ab_if 52 132 (fun x => decide (x = 0))),
  (52, ab_nx 53 (ab_aload 0)),
  (53, ab_nx 56 (ab_getf 11 38)),
  (56, ab_if 59 101 (fun x => decide (x = 0))),
  (59, ab_nx 60 (ab_aload 0)),
  (60, ab_nx 63 (ab_getf 11 11)),
  (63, ab_if 66 101 (fun x => !decide (x = 0))),
  (66, ab_nx 67 (ab_aload 0)),
  (67, ab_nx 70 (ab_callV 1 11 f_X11_nots 0 0 0 0)),
  (70, ab_nx 71 (ab_aload 0)),
  (71, ab_nx 73 (ab_lit (.int 22))),
  (73, ab_nx 76 (ab_callV 2 11 f_X11_joins 0 0 0 0)),
  (76, ab_nx 77 (ab_aload 0)),
  (77, ab_nx 80 (ab_getf 11 36)),
  (80, ab_if 83 96 (fun x => decide (x ≤ 0))),
  (83, ab_nx 84 (ab_aload 0)),
  (84, ab_nx 85 (ab_lit (.int 1))),
  (85, ab_nx 88 (ab_callV 2 11 f_X11_bad 0 0 0 0)),
  (88, ab_nx 89 ab_pop),
  (89, ab_nx 90 (ab_lit (.int (-1)))),
  (90, ab_nx 91 (ab_aload 0)),
  (91, ab_nx 94 (ab_getf 11 16)),
  (94, ab_nx 95 (ab_bin (fun x y => x - y))),
  (95, ab_ret 0 0),
  (96, ab_nx 97 (ab_lit (.int 0))),
  (97, ab_nx 98 (ab_istore 1)),
  (98, ab_goto 48),
  (101, ab_nx 102 (ab_aload 0)),
  (102, ab_nx 105 (ab_getf 11 38)),
  (105, ab_if 108 118 (fun x => decide (x = 0))),
  (108, ab_nx 109 (ab_aload 0)),
  (109, ab_nx 112 (ab_callV 1 11 f_X11_behind 0 0 0 0)),
  (112, ab_if 115 48 (fun x => !decide (x = 0))),
  (115, ab_goto 125),
  (118, ab_nx 119 (ab_aload 0)),
  (119, ab_nx 122 (ab_callV 1 11 f_X11_operand 0 0 0 0)),
  (122, ab_if 125 48 (fun x => !decide (x = 0))),
  (125, ab_nx 126 (ab_lit (.int (-1)))),
  (126, ab_nx 127 (ab_aload 0)),
  (127, ab_nx 130 (ab_getf 11 16)),
  (130, ab_nx 131 (ab_bin (fun x y => x - y))),
  (131, ab_ret 0 0),
  (132, ab_nx 133 (ab_aload 0)),
  (133, ab_nx 136 (ab_getf 11 6)),
  (136, ab_nx 139 (ab_lit (.int 253))),
  (139, ab_nx 140 (ab_aload 0)),
  (140, ab_nx 143 (ab_getf 11 34)),
  (143, ab_nx 144 (ab_ast 1)),
  (144, ab_nx 145 (ab_lit (.int 0))),
  (145, ab_nx 146 (ab_istore 2)),
  (146, ab_nx 147 (ab_iload 2)),
  (147, ab_nx 148 (ab_lit (.int 3))),
  (148, ab_nx 149 (ab_aload 0)),
  (149, ab_nx 152 (ab_getf 11 34)),
  (152, ab_nx 153 (ab_bin (fun x y => x * y))),
  (153, ab_icmp 156 178 (fun x y => decide (y ≤ x))),
  (156, ab_nx 157 (ab_aload 0)),
  (157, ab_nx 160 (ab_getf 11 6)),
  (160, ab_nx 163 (ab_lit (.int 254))),
  (163, ab_nx 164 (ab_iload 2)),
  (164, ab_nx 165 (ab_bin (fun x y => x + y))),
  (165, ab_nx 166 (ab_aload 0)),
  (166, ab_nx 169 (ab_getf 11 8)),
  (169, ab_nx 170 (ab_iload 2)),
  (170, ab_nx 171 (ab_ald 1)),
  (171, ab_nx 172 (ab_ast 1)),
  (172, ab_nx 175 (ab_iinc 2 1)),
  (175, ab_goto 146),
  (178, ab_nx 179 (ab_aload 0)),
  (179, ab_nx 182 (ab_getf 11 35)),
  (182, ab_ret 0 0)]
set_option maxRecDepth 100000 in
theorem dq43_14 : ([(0, .aload_n 0, 1), (1, .iconst 0, 1), (2, .putfield 1, 3), (5, .aload_n 0, 1), (6, .sipush 200, 3), (9, .invokevirtual 224, 3), (12, .aload_n 0, 1), (13, .iconst 0, 1), (14, .putfield 164, 3), (17, .aload_n 0, 1), (18, .iconst 0, 1), (19, .putfield 361, 3), (22, .aload_n 0, 1), (23, .iconst 0, 1), (24, .putfield 377, 3), (27, .aload_n 0, 1)] : List (Nat × Instr × Nat)).all (fun q => decide (decode cX11_sentence q.1 = .ok q.2)) = true := by decide +kernel
set_option maxRecDepth 100000 in
theorem dq43_15 : ([(28, .iconst 0, 1), (29, .putfield 364, 3), (32, .aload_n 0, 1), (33, .iconst 1, 1), (34, .putfield 371, 3), (37, .aload_n 0, 1), (38, .iconst 0, 1), (39, .putfield 380, 3), (42, .aload_n 0, 1), (43, .invokevirtual 176, 3), (46, .iconst 1, 1), (47, .istore_n 1, 1), (48, .iload_n 1, 1), (49, .ifCond .eq 83, 3), (52, .aload_n 0, 1), (53, .getfield 380, 3)] : List (Nat × Instr × Nat)).all (fun q => decide (decode cX11_sentence q.1 = .ok q.2)) = true := by decide +kernel
set_option maxRecDepth 100000 in
theorem dq43_16 : ([(56, .ifCond .eq 45, 3), (59, .aload_n 0, 1), (60, .getfield 147, 3), (63, .ifCond .ne 38, 3), (66, .aload_n 0, 1), (67, .invokevirtual 383, 3), (70, .aload_n 0, 1), (71, .bipush 22, 2), (73, .invokevirtual 386, 3), (76, .aload_n 0, 1), (77, .getfield 364, 3), (80, .ifCond .le 16, 3), (83, .aload_n 0, 1), (84, .iconst 1, 1), (85, .invokevirtual 173, 3), (88, .pop, 1)] : List (Nat × Instr × Nat)).all (fun q => decide (decode cX11_sentence q.1 = .ok q.2)) = true := by decide +kernel
set_option maxRecDepth 100000 in
theorem dq43_17 : ([(89, .iconst (-1), 1), (90, .aload_n 0, 1), (91, .getfield 167, 3), (94, .isub, 1), (95, .ireturn, 1), (96, .iconst 0, 1), (97, .istore_n 1, 1), (98, .goto (-50), 3), (101, .aload_n 0, 1), (102, .getfield 380, 3), (105, .ifCond .eq 13, 3), (108, .aload_n 0, 1), (109, .invokevirtual 389, 3), (112, .ifCond .ne (-64), 3), (115, .goto 10, 3), (118, .aload_n 0, 1)] : List (Nat × Instr × Nat)).all (fun q => decide (decode cX11_sentence q.1 = .ok q.2)) = true := by decide +kernel
set_option maxRecDepth 100000 in
theorem dq43_18 : ([(119, .invokevirtual 392, 3), (122, .ifCond .ne (-74), 3), (125, .iconst (-1), 1), (126, .aload_n 0, 1), (127, .getfield 167, 3), (130, .isub, 1), (131, .ireturn, 1), (132, .aload_n 0, 1), (133, .getfield 33, 3), (136, .sipush 253, 3), (139, .aload_n 0, 1), (140, .getfield 361, 3), (143, .iastore, 1), (144, .iconst 0, 1), (145, .istore_n 2, 1), (146, .iload_n 2, 1)] : List (Nat × Instr × Nat)).all (fun q => decide (decode cX11_sentence q.1 = .ok q.2)) = true := by decide +kernel
set_option maxRecDepth 100000 in
theorem dq43_19 : ([(147, .iconst 3, 1), (148, .aload_n 0, 1), (149, .getfield 361, 3), (152, .imul, 1), (153, .if_icmp .ge 25, 3), (156, .aload_n 0, 1), (157, .getfield 33, 3), (160, .sipush 254, 3), (163, .iload_n 2, 1), (164, .iadd, 1), (165, .aload_n 0, 1), (166, .getfield 40, 3), (169, .iload_n 2, 1), (170, .iaload, 1), (171, .iastore, 1), (172, .iinc 2 1, 3)] : List (Nat × Instr × Nat)).all (fun q => decide (decode cX11_sentence q.1 = .ok q.2)) = true := by decide +kernel
set_option maxRecDepth 100000 in
theorem dq43_20 : ([(175, .goto (-29), 3), (178, .aload_n 0, 1), (179, .getfield 377, 3), (182, .ireturn, 1)] : List (Nat × Instr × Nat)).all (fun q => decide (decode cX11_sentence q.1 = .ok q.2)) = true := by decide +kernel
set_option maxRecDepth 100000 in
set_option maxHeartbeats 4000000 in
theorem M_X11_sentence {l : Launch} {b : ab_B} {D : va_G} {cA : Nat → ClassId} {f_X11_taken : List Value → ab_H → Option ab_O} (h_X11_taken : ab_M l b D ab_cl cA (ab_E0 b) yX11_taken (Cond.code yX11_taken cX11_taken 2 none :: ab_G) ({ frames := 1, cells := 0, slots := 0, locals := 100 } : Room) f_X11_taken) {f_X11_next : List Value → ab_H → Option ab_O} (h_X11_next : ab_M l b D ab_cl cA (ab_E0 b) yX11_next (Cond.code yX11_next cX11_next 4 none :: ab_G) ({ frames := 2, cells := 0, slots := 0, locals := 200 } : Room) f_X11_next) {f_X11_nots : List Value → ab_H → Option ab_O} (h_X11_nots : ab_M l b D ab_cl cA (ab_E0 b) yX11_nots (Cond.code yX11_nots cX11_nots 1 none :: ab_G) ({ frames := 2, cells := 0, slots := 0, locals := 200 } : Room) f_X11_nots) {f_X11_joins : List Value → ab_H → Option ab_O} (h_X11_joins : ab_M l b D ab_cl cA (ab_E0 b) yX11_joins (Cond.code yX11_joins cX11_joins 2 none :: ab_G) ({ frames := 2, cells := 0, slots := 0, locals := 200 } : Room) f_X11_joins) {f_X11_bad : List Value → ab_H → Option ab_O} (h_X11_bad : ab_M l b D ab_cl cA (ab_E0 b) yX11_bad (Cond.code yX11_bad cX11_bad 2 (some .boolean) :: ab_G) ({ frames := 1, cells := 0, slots := 0, locals := 100 } : Room) f_X11_bad) {f_X11_behind : List Value → ab_H → Option ab_O} (h_X11_behind : ab_M l b D ab_cl cA (ab_E0 b) yX11_behind (Cond.code yX11_behind cX11_behind 1 (some .boolean) :: ab_G) ({ frames := 3, cells := 0, slots := 0, locals := 300 } : Room) f_X11_behind) {f_X11_operand : List Value → ab_H → Option ab_O} (h_X11_operand : ab_M l b D ab_cl cA (ab_E0 b) yX11_operand (Cond.code yX11_operand cX11_operand 5 (some .boolean) :: ab_G) ({ frames := 4, cells := 0, slots := 0, locals := 400 } : Room) f_X11_operand) : ab_M l b D ab_cl cA (ab_E0 b) yX11_sentence (Cond.code yX11_sentence cX11_sentence 3 (some .int) :: ab_G) ({ frames := 5, cells := 0, slots := 0, locals := 500 } : Room) (ab_X (ab_T (L_X11_sentence f_X11_taken f_X11_next f_X11_nots f_X11_joins f_X11_bad f_X11_behind f_X11_operand)) 3) := by
  refine ab_meth (ret := (some .int)) (L_X11_sentence f_X11_taken f_X11_next f_X11_nots f_X11_joins f_X11_bad f_X11_behind f_X11_operand) (by decide) rfl fun p e R s m args below meth c o C => ?_
  unfold L_X11_sentence
  refine List.forall_mem_cons.mpr ⟨ok_aload_n C (show decode cX11_sentence 0 = .ok (.aload_n 0, 1) from dk_at dq43_14 (i := 0) rfl) rfl rfl, ?_⟩
  refine List.forall_mem_cons.mpr ⟨ok_iconst C (show decode cX11_sentence 1 = .ok (.iconst 0, 1) from dk_at dq43_14 (i := 1) rfl) (by decide) rfl, ?_⟩
  refine List.forall_mem_cons.mpr ⟨ok_putf C (wi_X11) tyX11 tyX11_ok nmX11 rfl (by decide) kw_1180 (Or.inl rfl) (Or.inl ⟨rfl, rfl⟩) (show decode cX11_sentence 2 = .ok (.putfield 1, 3) from dk_at dq43_14 (i := 2) rfl) rfl, ?_⟩
  refine List.forall_mem_cons.mpr ⟨ok_aload_n C (show decode cX11_sentence 5 = .ok (.aload_n 0, 1) from dk_at dq43_14 (i := 3) rfl) rfl rfl, ?_⟩
  refine List.forall_mem_cons.mpr ⟨ok_sipush C (show decode cX11_sentence 6 = .ok (.sipush 200, 3) from dk_at dq43_14 (i := 4) rfl) (by decide) rfl, ?_⟩
  refine List.forall_mem_cons.mpr ⟨ok_callV C h_X11_taken ⟨rfl, rfl⟩ rfl kw_1318 kw_1315 kw_1317 kp_48 kw_11 rfl ds_X11_taken ⟨by decide, by decide⟩ (show decode cX11_sentence 9 = .ok (.invokevirtual 224, 3) from dk_at dq43_14 (i := 5) rfl) rfl, ?_⟩
  refine List.forall_mem_cons.mpr ⟨ok_aload_n C (show decode cX11_sentence 12 = .ok (.aload_n 0, 1) from dk_at dq43_14 (i := 6) rfl) rfl rfl, ?_⟩
  refine List.forall_mem_cons.mpr ⟨ok_iconst C (show decode cX11_sentence 13 = .ok (.iconst 0, 1) from dk_at dq43_14 (i := 7) rfl) (by decide) rfl, ?_⟩
  refine List.forall_mem_cons.mpr ⟨ok_putf C (wi_X11) tyX11 tyX11_ok nmX11 rfl (by decide) kw_1195 (Or.inl rfl) (Or.inl ⟨rfl, rfl⟩) (show decode cX11_sentence 14 = .ok (.putfield 164, 3) from dk_at dq43_14 (i := 8) rfl) rfl, ?_⟩
  refine List.forall_mem_cons.mpr ⟨ok_aload_n C (show decode cX11_sentence 17 = .ok (.aload_n 0, 1) from dk_at dq43_14 (i := 9) rfl) rfl rfl, ?_⟩
  refine List.forall_mem_cons.mpr ⟨ok_iconst C (show decode cX11_sentence 18 = .ok (.iconst 0, 1) from dk_at dq43_14 (i := 10) rfl) (by decide) rfl, ?_⟩
  refine List.forall_mem_cons.mpr ⟨ok_putf C (wi_X11) tyX11 tyX11_ok nmX11 rfl (by decide) kw_1214 (Or.inl rfl) (Or.inl ⟨rfl, rfl⟩) (show decode cX11_sentence 19 = .ok (.putfield 361, 3) from dk_at dq43_14 (i := 11) rfl) rfl, ?_⟩
  refine List.forall_mem_cons.mpr ⟨ok_aload_n C (show decode cX11_sentence 22 = .ok (.aload_n 0, 1) from dk_at dq43_14 (i := 12) rfl) rfl rfl, ?_⟩
  refine List.forall_mem_cons.mpr ⟨ok_iconst C (show decode cX11_sentence 23 = .ok (.iconst 0, 1) from dk_at dq43_14 (i := 13) rfl) (by decide) rfl, ?_⟩
  refine List.forall_mem_cons.mpr ⟨ok_putf C (wi_X11) tyX11 tyX11_ok nmX11 rfl (by decide) kw_1215 (Or.inl rfl) (Or.inl ⟨rfl, rfl⟩) (show decode cX11_sentence 24 = .ok (.putfield 377, 3) from dk_at dq43_14 (i := 14) rfl) rfl, ?_⟩
  refine List.forall_mem_cons.mpr ⟨ok_aload_n C (show decode cX11_sentence 27 = .ok (.aload_n 0, 1) from dk_at dq43_14 (i := 15) rfl) rfl rfl, ?_⟩
  refine List.forall_mem_cons.mpr ⟨ok_iconst C (show decode cX11_sentence 28 = .ok (.iconst 0, 1) from dk_at dq43_15 (i := 0) rfl) (by decide) rfl, ?_⟩
  refine List.forall_mem_cons.mpr ⟨ok_putf C (wi_X11) tyX11 tyX11_ok nmX11 rfl (by decide) kw_1216 (Or.inl rfl) (Or.inl ⟨rfl, rfl⟩) (show decode cX11_sentence 29 = .ok (.putfield 364, 3) from dk_at dq43_15 (i := 1) rfl) rfl, ?_⟩
  refine List.forall_mem_cons.mpr ⟨ok_aload_n C (show decode cX11_sentence 32 = .ok (.aload_n 0, 1) from dk_at dq43_15 (i := 2) rfl) rfl rfl, ?_⟩
  refine List.forall_mem_cons.mpr ⟨ok_iconst C (show decode cX11_sentence 33 = .ok (.iconst 1, 1) from dk_at dq43_15 (i := 3) rfl) (by decide) rfl, ?_⟩
  refine List.forall_mem_cons.mpr ⟨ok_putf C (wi_X11) tyX11 tyX11_ok nmX11 rfl (by decide) kw_1217 (Or.inl rfl) (Or.inl ⟨rfl, rfl⟩) (show decode cX11_sentence 34 = .ok (.putfield 371, 3) from dk_at dq43_15 (i := 4) rfl) rfl, ?_⟩
  refine List.forall_mem_cons.mpr ⟨ok_aload_n C (show decode cX11_sentence 37 = .ok (.aload_n 0, 1) from dk_at dq43_15 (i := 5) rfl) rfl rfl, ?_⟩
  refine List.forall_mem_cons.mpr ⟨ok_iconst C (show decode cX11_sentence 38 = .ok (.iconst 0, 1) from dk_at dq43_15 (i := 6) rfl) (by decide) rfl, ?_⟩
  refine List.forall_mem_cons.mpr ⟨ok_putf C (wi_X11) tyX11 tyX11_ok nmX11 rfl (by decide) kw_1218 (Or.inl rfl) (Or.inr (Or.inr (Or.inr ⟨rfl, rfl⟩))) (show decode cX11_sentence 39 = .ok (.putfield 380, 3) from dk_at dq43_15 (i := 7) rfl) rfl, ?_⟩
  refine List.forall_mem_cons.mpr ⟨ok_aload_n C (show decode cX11_sentence 42 = .ok (.aload_n 0, 1) from dk_at dq43_15 (i := 8) rfl) rfl rfl, ?_⟩
  refine List.forall_mem_cons.mpr ⟨ok_callV C h_X11_next ⟨rfl, rfl⟩ rfl kw_1322 kw_1319 kw_1321 kp_49 kw_11 rfl ds_X11_next ⟨by decide, by decide⟩ (show decode cX11_sentence 43 = .ok (.invokevirtual 176, 3) from dk_at dq43_15 (i := 9) rfl) rfl, ?_⟩
  refine List.forall_mem_cons.mpr ⟨ok_iconst C (show decode cX11_sentence 46 = .ok (.iconst 1, 1) from dk_at dq43_15 (i := 10) rfl) (by decide) rfl, ?_⟩
  refine List.forall_mem_cons.mpr ⟨ok_istore_n C (show decode cX11_sentence 47 = .ok (.istore_n 1, 1) from dk_at dq43_15 (i := 11) rfl) rfl (by decide) rfl, ?_⟩
  refine List.forall_mem_cons.mpr ⟨ok_iload_n C (show decode cX11_sentence 48 = .ok (.iload_n 1, 1) from dk_at dq43_15 (i := 12) rfl) rfl rfl, ?_⟩
  refine List.forall_mem_cons.mpr ⟨ok_ifeq C (show decode cX11_sentence 49 = .ok (.ifCond .eq 83, 3) from dk_at dq43_15 (i := 13) rfl) (tg := 132) (by decide) rfl rfl, ?_⟩
  refine List.forall_mem_cons.mpr ⟨ok_aload_n C (show decode cX11_sentence 52 = .ok (.aload_n 0, 1) from dk_at dq43_15 (i := 14) rfl) rfl rfl, ?_⟩
  refine List.forall_mem_cons.mpr ⟨ok_getf C (wi_X11) rfl (by decide) kw_1218 (show decode cX11_sentence 53 = .ok (.getfield 380, 3) from dk_at dq43_15 (i := 15) rfl) rfl, ?_⟩
  refine List.forall_mem_cons.mpr ⟨ok_ifeq C (show decode cX11_sentence 56 = .ok (.ifCond .eq 45, 3) from dk_at dq43_16 (i := 0) rfl) (tg := 101) (by decide) rfl rfl, ?_⟩
  refine List.forall_mem_cons.mpr ⟨ok_aload_n C (show decode cX11_sentence 59 = .ok (.aload_n 0, 1) from dk_at dq43_16 (i := 1) rfl) rfl rfl, ?_⟩
  refine List.forall_mem_cons.mpr ⟨ok_getf C (wi_X11) rfl (by decide) kw_1191 (show decode cX11_sentence 60 = .ok (.getfield 147, 3) from dk_at dq43_16 (i := 2) rfl) rfl, ?_⟩
  refine List.forall_mem_cons.mpr ⟨ok_ifne C (show decode cX11_sentence 63 = .ok (.ifCond .ne 38, 3) from dk_at dq43_16 (i := 3) rfl) (tg := 101) (by decide) rfl rfl, ?_⟩
  refine List.forall_mem_cons.mpr ⟨ok_aload_n C (show decode cX11_sentence 66 = .ok (.aload_n 0, 1) from dk_at dq43_16 (i := 4) rfl) rfl rfl, ?_⟩
  refine List.forall_mem_cons.mpr ⟨ok_callV C h_X11_nots ⟨rfl, rfl⟩ rfl kw_1668 kw_1665 kw_1667 kp_96 kw_11 rfl ds_X11_nots ⟨by decide, by decide⟩ (show decode cX11_sentence 67 = .ok (.invokevirtual 383, 3) from dk_at dq43_16 (i := 5) rfl) rfl, ?_⟩
  refine List.forall_mem_cons.mpr ⟨ok_aload_n C (show decode cX11_sentence 70 = .ok (.aload_n 0, 1) from dk_at dq43_16 (i := 6) rfl) rfl rfl, ?_⟩
  refine List.forall_mem_cons.mpr ⟨ok_bipush C (show decode cX11_sentence 71 = .ok (.bipush 22, 2) from dk_at dq43_16 (i := 7) rfl) (by decide) rfl, ?_⟩
  refine List.forall_mem_cons.mpr ⟨ok_callV C h_X11_joins ⟨rfl, rfl⟩ rfl kw_1676 kw_1673 kw_1675 kp_98 kw_11 rfl ds_X11_joins ⟨by decide, by decide⟩ (show decode cX11_sentence 73 = .ok (.invokevirtual 386, 3) from dk_at dq43_16 (i := 8) rfl) rfl, ?_⟩
  refine List.forall_mem_cons.mpr ⟨ok_aload_n C (show decode cX11_sentence 76 = .ok (.aload_n 0, 1) from dk_at dq43_16 (i := 9) rfl) rfl rfl, ?_⟩
  refine List.forall_mem_cons.mpr ⟨ok_getf C (wi_X11) rfl (by decide) kw_1216 (show decode cX11_sentence 77 = .ok (.getfield 364, 3) from dk_at dq43_16 (i := 10) rfl) rfl, ?_⟩
  refine List.forall_mem_cons.mpr ⟨ok_ifle C (show decode cX11_sentence 80 = .ok (.ifCond .le 16, 3) from dk_at dq43_16 (i := 11) rfl) (tg := 96) (by decide) rfl rfl, ?_⟩
  refine List.forall_mem_cons.mpr ⟨ok_aload_n C (show decode cX11_sentence 83 = .ok (.aload_n 0, 1) from dk_at dq43_16 (i := 12) rfl) rfl rfl, ?_⟩
  refine List.forall_mem_cons.mpr ⟨ok_iconst C (show decode cX11_sentence 84 = .ok (.iconst 1, 1) from dk_at dq43_16 (i := 13) rfl) (by decide) rfl, ?_⟩
  refine List.forall_mem_cons.mpr ⟨ok_callV C h_X11_bad ⟨rfl, rfl⟩ rfl kw_1344 kw_1341 kw_1343 kp_53 kw_11 rfl ds_X11_bad ⟨by decide, by decide⟩ (show decode cX11_sentence 85 = .ok (.invokevirtual 173, 3) from dk_at dq43_16 (i := 14) rfl) rfl, ?_⟩
  refine List.forall_mem_cons.mpr ⟨ok_pop C (show decode cX11_sentence 88 = .ok (.pop, 1) from dk_at dq43_16 (i := 15) rfl) rfl, ?_⟩
  refine List.forall_mem_cons.mpr ⟨ok_iconst C (show decode cX11_sentence 89 = .ok (.iconst (-1), 1) from dk_at dq43_17 (i := 0) rfl) (by decide) rfl, ?_⟩
  refine List.forall_mem_cons.mpr ⟨ok_aload_n C (show decode cX11_sentence 90 = .ok (.aload_n 0, 1) from dk_at dq43_17 (i := 1) rfl) rfl rfl, ?_⟩
  refine List.forall_mem_cons.mpr ⟨ok_getf C (wi_X11) rfl (by decide) kw_1196 (show decode cX11_sentence 91 = .ok (.getfield 167, 3) from dk_at dq43_17 (i := 2) rfl) rfl, ?_⟩
  refine List.forall_mem_cons.mpr ⟨ok_isub C (show decode cX11_sentence 94 = .ok (.isub, 1) from dk_at dq43_17 (i := 3) rfl) rfl, ?_⟩
  refine List.forall_mem_cons.mpr ⟨ok_ret C rfl (show decode cX11_sentence 95 = .ok (.ireturn, 1) from dk_at dq43_17 (i := 4) rfl), ?_⟩
  refine List.forall_mem_cons.mpr ⟨ok_iconst C (show decode cX11_sentence 96 = .ok (.iconst 0, 1) from dk_at dq43_17 (i := 5) rfl) (by decide) rfl, ?_⟩
  refine List.forall_mem_cons.mpr ⟨ok_istore_n C (show decode cX11_sentence 97 = .ok (.istore_n 1, 1) from dk_at dq43_17 (i := 6) rfl) rfl (by decide) rfl, ?_⟩
  refine List.forall_mem_cons.mpr ⟨ok_goto C (show decode cX11_sentence 98 = .ok (.goto (-50), 3) from dk_at dq43_17 (i := 7) rfl) (tg := 48) (by decide) rfl, ?_⟩
  refine List.forall_mem_cons.mpr ⟨ok_aload_n C (show decode cX11_sentence 101 = .ok (.aload_n 0, 1) from dk_at dq43_17 (i := 8) rfl) rfl rfl, ?_⟩
  refine List.forall_mem_cons.mpr ⟨ok_getf C (wi_X11) rfl (by decide) kw_1218 (show decode cX11_sentence 102 = .ok (.getfield 380, 3) from dk_at dq43_17 (i := 9) rfl) rfl, ?_⟩
  refine List.forall_mem_cons.mpr ⟨ok_ifeq C (show decode cX11_sentence 105 = .ok (.ifCond .eq 13, 3) from dk_at dq43_17 (i := 10) rfl) (tg := 118) (by decide) rfl rfl, ?_⟩
  refine List.forall_mem_cons.mpr ⟨ok_aload_n C (show decode cX11_sentence 108 = .ok (.aload_n 0, 1) from dk_at dq43_17 (i := 11) rfl) rfl rfl, ?_⟩
  refine List.forall_mem_cons.mpr ⟨ok_callV C h_X11_behind ⟨rfl, rfl⟩ rfl kw_1680 kw_1677 kw_1679 kp_99 kw_11 rfl ds_X11_behind ⟨by decide, by decide⟩ (show decode cX11_sentence 109 = .ok (.invokevirtual 389, 3) from dk_at dq43_17 (i := 12) rfl) rfl, ?_⟩
  refine List.forall_mem_cons.mpr ⟨ok_ifne C (show decode cX11_sentence 112 = .ok (.ifCond .ne (-64), 3) from dk_at dq43_17 (i := 13) rfl) (tg := 48) (by decide) rfl rfl, ?_⟩
  refine List.forall_mem_cons.mpr ⟨ok_goto C (show decode cX11_sentence 115 = .ok (.goto 10, 3) from dk_at dq43_17 (i := 14) rfl) (tg := 125) (by decide) rfl, ?_⟩
  refine List.forall_mem_cons.mpr ⟨ok_aload_n C (show decode cX11_sentence 118 = .ok (.aload_n 0, 1) from dk_at dq43_17 (i := 15) rfl) rfl rfl, ?_⟩
  refine List.forall_mem_cons.mpr ⟨ok_callV C h_X11_operand ⟨rfl, rfl⟩ rfl kw_1684 kw_1681 kw_1683 kp_100 kw_11 rfl ds_X11_operand ⟨by decide, by decide⟩ (show decode cX11_sentence 119 = .ok (.invokevirtual 392, 3) from dk_at dq43_18 (i := 0) rfl) rfl, ?_⟩
  refine List.forall_mem_cons.mpr ⟨ok_ifne C (show decode cX11_sentence 122 = .ok (.ifCond .ne (-74), 3) from dk_at dq43_18 (i := 1) rfl) (tg := 48) (by decide) rfl rfl, ?_⟩
  refine List.forall_mem_cons.mpr ⟨ok_iconst C (show decode cX11_sentence 125 = .ok (.iconst (-1), 1) from dk_at dq43_18 (i := 2) rfl) (by decide) rfl, ?_⟩
  refine List.forall_mem_cons.mpr ⟨ok_aload_n C (show decode cX11_sentence 126 = .ok (.aload_n 0, 1) from dk_at dq43_18 (i := 3) rfl) rfl rfl, ?_⟩
  refine List.forall_mem_cons.mpr ⟨ok_getf C (wi_X11) rfl (by decide) kw_1196 (show decode cX11_sentence 127 = .ok (.getfield 167, 3) from dk_at dq43_18 (i := 4) rfl) rfl, ?_⟩
  refine List.forall_mem_cons.mpr ⟨ok_isub C (show decode cX11_sentence 130 = .ok (.isub, 1) from dk_at dq43_18 (i := 5) rfl) rfl, ?_⟩
  refine List.forall_mem_cons.mpr ⟨ok_ret C rfl (show decode cX11_sentence 131 = .ok (.ireturn, 1) from dk_at dq43_18 (i := 6) rfl), ?_⟩
  refine List.forall_mem_cons.mpr ⟨ok_aload_n C (show decode cX11_sentence 132 = .ok (.aload_n 0, 1) from dk_at dq43_18 (i := 7) rfl) rfl rfl, ?_⟩
  refine List.forall_mem_cons.mpr ⟨ok_getf C (wi_X11) rfl (by decide) kw_1186 (show decode cX11_sentence 133 = .ok (.getfield 33, 3) from dk_at dq43_18 (i := 8) rfl) rfl, ?_⟩
  refine List.forall_mem_cons.mpr ⟨ok_sipush C (show decode cX11_sentence 136 = .ok (.sipush 253, 3) from dk_at dq43_18 (i := 9) rfl) (by decide) rfl, ?_⟩
  refine List.forall_mem_cons.mpr ⟨ok_aload_n C (show decode cX11_sentence 139 = .ok (.aload_n 0, 1) from dk_at dq43_18 (i := 10) rfl) rfl rfl, ?_⟩
  refine List.forall_mem_cons.mpr ⟨ok_getf C (wi_X11) rfl (by decide) kw_1214 (show decode cX11_sentence 140 = .ok (.getfield 361, 3) from dk_at dq43_18 (i := 11) rfl) rfl, ?_⟩
  refine List.forall_mem_cons.mpr ⟨ok_iastore C (show decode cX11_sentence 143 = .ok (.iastore, 1) from dk_at dq43_18 (i := 12) rfl) rfl, ?_⟩
  refine List.forall_mem_cons.mpr ⟨ok_iconst C (show decode cX11_sentence 144 = .ok (.iconst 0, 1) from dk_at dq43_18 (i := 13) rfl) (by decide) rfl, ?_⟩
  refine List.forall_mem_cons.mpr ⟨ok_istore_n C (show decode cX11_sentence 145 = .ok (.istore_n 2, 1) from dk_at dq43_18 (i := 14) rfl) rfl (by decide) rfl, ?_⟩
  refine List.forall_mem_cons.mpr ⟨ok_iload_n C (show decode cX11_sentence 146 = .ok (.iload_n 2, 1) from dk_at dq43_18 (i := 15) rfl) rfl rfl, ?_⟩
  refine List.forall_mem_cons.mpr ⟨ok_iconst C (show decode cX11_sentence 147 = .ok (.iconst 3, 1) from dk_at dq43_19 (i := 0) rfl) (by decide) rfl, ?_⟩
  refine List.forall_mem_cons.mpr ⟨ok_aload_n C (show decode cX11_sentence 148 = .ok (.aload_n 0, 1) from dk_at dq43_19 (i := 1) rfl) rfl rfl, ?_⟩
  refine List.forall_mem_cons.mpr ⟨ok_getf C (wi_X11) rfl (by decide) kw_1214 (show decode cX11_sentence 149 = .ok (.getfield 361, 3) from dk_at dq43_19 (i := 2) rfl) rfl, ?_⟩
  refine List.forall_mem_cons.mpr ⟨ok_imul C (show decode cX11_sentence 152 = .ok (.imul, 1) from dk_at dq43_19 (i := 3) rfl) rfl, ?_⟩
  refine List.forall_mem_cons.mpr ⟨ok_icmpge C (show decode cX11_sentence 153 = .ok (.if_icmp .ge 25, 3) from dk_at dq43_19 (i := 4) rfl) (tg := 178) (by decide) rfl rfl, ?_⟩
  refine List.forall_mem_cons.mpr ⟨ok_aload_n C (show decode cX11_sentence 156 = .ok (.aload_n 0, 1) from dk_at dq43_19 (i := 5) rfl) rfl rfl, ?_⟩
  refine List.forall_mem_cons.mpr ⟨ok_getf C (wi_X11) rfl (by decide) kw_1186 (show decode cX11_sentence 157 = .ok (.getfield 33, 3) from dk_at dq43_19 (i := 6) rfl) rfl, ?_⟩
  refine List.forall_mem_cons.mpr ⟨ok_sipush C (show decode cX11_sentence 160 = .ok (.sipush 254, 3) from dk_at dq43_19 (i := 7) rfl) (by decide) rfl, ?_⟩
  refine List.forall_mem_cons.mpr ⟨ok_iload_n C (show decode cX11_sentence 163 = .ok (.iload_n 2, 1) from dk_at dq43_19 (i := 8) rfl) rfl rfl, ?_⟩
  refine List.forall_mem_cons.mpr ⟨ok_iadd C (show decode cX11_sentence 164 = .ok (.iadd, 1) from dk_at dq43_19 (i := 9) rfl) rfl, ?_⟩
  refine List.forall_mem_cons.mpr ⟨ok_aload_n C (show decode cX11_sentence 165 = .ok (.aload_n 0, 1) from dk_at dq43_19 (i := 10) rfl) rfl rfl, ?_⟩
  refine List.forall_mem_cons.mpr ⟨ok_getf C (wi_X11) rfl (by decide) kw_1188 (show decode cX11_sentence 166 = .ok (.getfield 40, 3) from dk_at dq43_19 (i := 11) rfl) rfl, ?_⟩
  refine List.forall_mem_cons.mpr ⟨ok_iload_n C (show decode cX11_sentence 169 = .ok (.iload_n 2, 1) from dk_at dq43_19 (i := 12) rfl) rfl rfl, ?_⟩
  refine List.forall_mem_cons.mpr ⟨ok_iaload C (show decode cX11_sentence 170 = .ok (.iaload, 1) from dk_at dq43_19 (i := 13) rfl) rfl, ?_⟩
  refine List.forall_mem_cons.mpr ⟨ok_iastore C (show decode cX11_sentence 171 = .ok (.iastore, 1) from dk_at dq43_19 (i := 14) rfl) rfl, ?_⟩
  refine List.forall_mem_cons.mpr ⟨ok_iinc C (show decode cX11_sentence 172 = .ok (.iinc 2 1, 3) from dk_at dq43_19 (i := 15) rfl) (by decide) (by decide) rfl, ?_⟩
  refine List.forall_mem_cons.mpr ⟨ok_goto C (show decode cX11_sentence 175 = .ok (.goto (-29), 3) from dk_at dq43_20 (i := 0) rfl) (tg := 146) (by decide) rfl, ?_⟩
  refine List.forall_mem_cons.mpr ⟨ok_aload_n C (show decode cX11_sentence 178 = .ok (.aload_n 0, 1) from dk_at dq43_20 (i := 1) rfl) rfl rfl, ?_⟩
  refine List.forall_mem_cons.mpr ⟨ok_getf C (wi_X11) rfl (by decide) kw_1215 (show decode cX11_sentence 179 = .ok (.getfield 377, 3) from dk_at dq43_20 (i := 2) rfl) rfl, ?_⟩
  refine List.forall_mem_cons.mpr ⟨ok_ret C rfl (show decode cX11_sentence 182 = .ok (.ireturn, 1) from dk_at dq43_20 (i := 3) rfl), ?_⟩
  exact fun _ h => absurd h List.not_mem_nil
def L_X11_isLeaf (f_X11_lackOf : List Value → ab_H → Option ab_O) (f_X11_cell : List Value → ab_H → Option ab_O) (f_X11_isFalse : List Value → ab_H → Option ab_O) : List (Nat × ab_A) := [
  (0, ab_nx 1 (ab_iload 2)),
  (1, ab_tab 0 [36, 52, 76, 99, 122] 130),
  (36, ab_nx 37 (ab_aload 0)),
  (37, ab_nx 38 (ab_iload 1)),
  (38, ab_nx 40 (ab_iload 4)),
  (40, ab_nx 43 (ab_callV 3 11 f_X11_lackOf 0 0 0 0)),
  (43, ab_if 46 50 (fun x => decide (x ≤ 0))),
  (46, ab_nx 47 (ab_lit (.int 1))),
  (47, ab_goto 51),
  (50, ab_nx 51 (ab_lit (.int 0))),
  (51, ab_zret 0 0),
  (52, ab_nx 53 (ab_aload 0)),
  (53, ab_nx 56 (ab_getf 11 6)),
  (56, ab_nx 59 (ab_lit (.int 136))),
  (59, ab_nx 60 (ab_iload 1)),
  (60, ab_nx 62 (ab_iload 4)),
  (62, ab_nx 65 (ab_call 2 f_X11_cell 0 0 0 0)),
  (65, ab_nx 66 (ab_bin (fun x y => x + y))),
  (66, ab_nx 67 (ab_ald 1)),
  (67, ab_if 70 74 (fun x => decide (x ≤ 0))),
  (70, ab_nx 71 (ab_lit (.int 1))),
  (71, ab_goto 75),
  (74, ab_nx 75 (ab_lit (.int 0))),
  (75, ab_zret 0 0),
  (76, ab_nx 77 (ab_aload 0)),
  (77, ab_nx 80 (ab_getf 11 6)),
  (80, ab_nx 82 (ab_lit (.int 40))),
  (82, ab_nx 83 (ab_iload 1)),
  (83, ab_nx 85 (ab_iload 4)),
  (85, ab_nx 88 (ab_call 2 f_X11_cell 0 0 0 0)),
  (88, ab_nx 89 (ab_bin (fun x y => x + y))),
  (89, ab_nx 90 (ab_ald 1)),
  (90, ab_if 93 97 (fun x => decide (x ≤ 0))),
  (93, ab_nx 94 (ab_lit (.int 1))),
  (94, ab_goto 98),
  (97, ab_nx 98 (ab_lit (.int 0))),
  (98, ab_zret 0 0),
  (99, ab_nx 100 (ab_aload 0)),
  (100, ab_nx 103 (ab_getf 11 6)),
  (103, ab_nx 105 (ab_lit (.int 28))),
  (105, ab_nx 106 (ab_iload 1)),
  (106, ab_nx 108 (ab_iload 4)),
  (108, ab_nx 111 (ab_call 2 f_X11_cell 0 0 0 0)),
  (111, ab_nx 112 (ab_bin (fun x y => x + y))),
  (112, ab_nx 113 (ab_ald 1)),
  (113, ab_if 116 120 (fun x => decide (x ≤ 0))),
  (116, ab_nx 117 (ab_lit (.int 1))),
  (117, ab_goto 121),
  (120, ab_nx 121 (ab_lit (.int 0))),
  (121, ab_zret 0 0),
  (122, ab_nx 123 (ab_aload 0)),
  (123, ab_nx 124 (ab_iload 1)),
  (124, ab_nx 126 (ab_iload 4)),
  (126, ab_nx 129 (ab_callV 3 11 f_X11_isFalse 0 0 0 0)),
  (129, ab_zret 0 0),
  (130, ab_nx 131 (ab_iload 2)),
  (131, ab_nx 132 (ab_lit (.int 5))),
  (132, ab_icmp 135 151 (fun x y => !decide (x = y))),
  (135, ab_nx 136 (ab_aload 0)),
  (136, ab_nx 139 (ab_getf 11 6)),
  (139, ab_nx 141 (ab_lit (.int 124))),
  (141, ab_nx 142 (ab_iload 1)),
  (142, ab_nx 143 (ab_lit (.int 0))),
  (143, ab_nx 146 (ab_call 2 f_X11_cell 0 0 0 0)),
  (146, ab_nx 147 (ab_bin (fun x y => x + y))),
  (147, ab_nx 148 (ab_ald 1)),
  (148, ab_goto 212),
  (151, ab_nx 152 (ab_iload 2)),
  (152, ab_nx 154 (ab_lit (.int 6))),
  (154, ab_icmp 157 173 (fun x y => !decide (x = y))),
  (157, ab_nx 158 (ab_aload 0)),
  (158, ab_nx 161 (ab_getf 11 6)),
  (161, ab_nx 163 (ab_lit (.int 124))),
  (163, ab_nx 164 (ab_iload 1)),
  (164, ab_nx 165 (ab_lit (.int 1))),
  (165, ab_nx 168 (ab_call 2 f_X11_cell 0 0 0 0)),
  (168, ab_nx 169 (ab_bin (fun x y => x + y))),
  (169, ab_nx 170 (ab_ald 1)),
  (170, ab_goto 212),
  (173, ab_nx 174 (ab_iload 2)),
  (174, ab_nx 176 (ab_lit (.int 7))),
  (176, ab_icmp 179 211 (fun x y => !decide (x = y))),
  (179, ab_nx 180 (ab_aload 0)),
  (180, ab_nx 183 (ab_getf 11 6)),
  (183, ab_nx 186 (ab_lit (.int 160))),
  (186, ab_nx 187 (ab_iload 1)),
  (187, ab_nx 188 (ab_lit (.int 0))),
  (188, ab_nx 191 (ab_call 2 f_X11_cell 0 0 0 0)),
  (191, ab_nx 192 (ab_bin (fun x y => x + y))),
  (192, ab_nx 193 (ab_ald 1)),
  (193, ab_nx 194 (ab_aload 0)),
  (194, ab_nx 197 (ab_getf 11 6)),
  (197, ab_nx 200 (ab_lit (.int 160))),
  (200, ab_nx 201 (ab_iload 1)),
  (201, ab_nx 202 (ab_lit (.int 1))),
  (202, ab_nx 205 (ab_call 2 f_X11_cell 0 0 0 0)),
  (205, ab_nx 206 (ab_bin (fun x y => x + y))),
  (206, ab_nx 207 (ab_ald 1)),
  (207, ab_nx 208 (ab_bin (fun x y => x + y))),
  (208, ab_goto 212),
  (211, ab_nx 212 (ab_iload 1)),
  (212, ab_nx 214 (ab_istore 5)),
  (214, ab_nx 215 (ab_iload 3)),
  (215, ab_nx 217 (ab_lit (.int 60))),
  (217, ab_icmp 220 235 (fun x y => !decide (x = y))),
  (220, ab_nx 222 (ab_iload 5)),
  (222, ab_nx 224 (ab_iload 4)),
  (224, ab_icmp 227 231 (fun x y => decide (y ≤ x))),
  (227, ab_nx 228 (ab_lit (.int 1))),
  (228, ab_goto 268),
  (231, ab_nx 232 (ab_lit (.int 0))),
  (232, ab_goto 268),
  (235, ab_nx 236 (ab_iload 3)),
  (236, ab_nx 238 (ab_lit (.int 61))),
  (238, ab_icmp 241 256 (fun x y => !decide (x = y))),
  (241, ab_nx 243 (ab_iload 5)),
  (243, ab_nx 245 (ab_iload 4)),
  (245, ab_icmp 248 252 (fun x y => !decide (x = y))),
  (248, ab_nx 249 (ab_lit (.int 1))),
  (249, ab_goto 268),
  (252, ab_nx 253 (ab_lit (.int 0))),
  (253, ab_goto 268),
  (256, ab_nx 258 (ab_iload 5)),
  (258, ab_nx 260 (ab_iload 4)),
  (260, ab_icmp 263 267 (fun x y => decide (x ≤ y))),
  (263, ab_nx 264 (ab_lit (.int 1))),
  (264, ab_goto 268),
  (267, ab_nx 268 (ab_lit (.int 0))),
  (268, ab_zret 0 0)]
set_option maxRecDepth 100000 in
theorem dq43_21 : ([(0, .iload_n 2, 1), (1, .tableswitch 129 0 4 #[35, 51, 75, 98, 121], 35), (36, .aload_n 0, 1), (37, .iload_n 1, 1), (38, .iload 4, 2), (40, .invokevirtual 248, 3), (43, .ifCond .le 7, 3), (46, .iconst 1, 1), (47, .goto 4, 3), (50, .iconst 0, 1), (51, .ireturn, 1), (52, .aload_n 0, 1), (53, .getfield 33, 3), (56, .sipush 136, 3), (59, .iload_n 1, 1), (60, .iload 4, 2)] : List (Nat × Instr × Nat)).all (fun q => decide (decode cX11_isLeaf q.1 = .ok q.2)) = true := by decide +kernel
set_option maxRecDepth 100000 in
theorem dq43_22 : ([(62, .invokestatic 245, 3), (65, .iadd, 1), (66, .iaload, 1), (67, .ifCond .le 7, 3), (70, .iconst 1, 1), (71, .goto 4, 3), (74, .iconst 0, 1), (75, .ireturn, 1), (76, .aload_n 0, 1), (77, .getfield 33, 3), (80, .bipush 40, 2), (82, .iload_n 1, 1), (83, .iload 4, 2), (85, .invokestatic 245, 3), (88, .iadd, 1), (89, .iaload, 1)] : List (Nat × Instr × Nat)).all (fun q => decide (decode cX11_isLeaf q.1 = .ok q.2)) = true := by decide +kernel
set_option maxRecDepth 100000 in
theorem dq43_23 : ([(90, .ifCond .le 7, 3), (93, .iconst 1, 1), (94, .goto 4, 3), (97, .iconst 0, 1), (98, .ireturn, 1), (99, .aload_n 0, 1), (100, .getfield 33, 3), (103, .bipush 28, 2), (105, .iload_n 1, 1), (106, .iload 4, 2), (108, .invokestatic 245, 3), (111, .iadd, 1), (112, .iaload, 1), (113, .ifCond .le 7, 3), (116, .iconst 1, 1), (117, .goto 4, 3)] : List (Nat × Instr × Nat)).all (fun q => decide (decode cX11_isLeaf q.1 = .ok q.2)) = true := by decide +kernel
set_option maxRecDepth 100000 in
theorem dq43_24 : ([(120, .iconst 0, 1), (121, .ireturn, 1), (122, .aload_n 0, 1), (123, .iload_n 1, 1), (124, .iload 4, 2), (126, .invokevirtual 254, 3), (129, .ireturn, 1), (130, .iload_n 2, 1), (131, .iconst 5, 1), (132, .if_icmp .ne 19, 3), (135, .aload_n 0, 1), (136, .getfield 33, 3), (139, .bipush 124, 2), (141, .iload_n 1, 1), (142, .iconst 0, 1), (143, .invokestatic 245, 3)] : List (Nat × Instr × Nat)).all (fun q => decide (decode cX11_isLeaf q.1 = .ok q.2)) = true := by decide +kernel
set_option maxRecDepth 100000 in
theorem dq43_25 : ([(146, .iadd, 1), (147, .iaload, 1), (148, .goto 64, 3), (151, .iload_n 2, 1), (152, .bipush 6, 2), (154, .if_icmp .ne 19, 3), (157, .aload_n 0, 1), (158, .getfield 33, 3), (161, .bipush 124, 2), (163, .iload_n 1, 1), (164, .iconst 1, 1), (165, .invokestatic 245, 3), (168, .iadd, 1), (169, .iaload, 1), (170, .goto 42, 3), (173, .iload_n 2, 1)] : List (Nat × Instr × Nat)).all (fun q => decide (decode cX11_isLeaf q.1 = .ok q.2)) = true := by decide +kernel
set_option maxRecDepth 100000 in
theorem dq43_26 : ([(174, .bipush 7, 2), (176, .if_icmp .ne 35, 3), (179, .aload_n 0, 1), (180, .getfield 33, 3), (183, .sipush 160, 3), (186, .iload_n 1, 1), (187, .iconst 0, 1), (188, .invokestatic 245, 3), (191, .iadd, 1), (192, .iaload, 1), (193, .aload_n 0, 1), (194, .getfield 33, 3), (197, .sipush 160, 3), (200, .iload_n 1, 1), (201, .iconst 1, 1), (202, .invokestatic 245, 3)] : List (Nat × Instr × Nat)).all (fun q => decide (decode cX11_isLeaf q.1 = .ok q.2)) = true := by decide +kernel
set_option maxRecDepth 100000 in
theorem dq43_27 : ([(205, .iadd, 1), (206, .iaload, 1), (207, .iadd, 1), (208, .goto 4, 3), (211, .iload_n 1, 1), (212, .istore 5, 2), (214, .iload_n 3, 1), (215, .bipush 60, 2), (217, .if_icmp .ne 18, 3), (220, .iload 5, 2), (222, .iload 4, 2), (224, .if_icmp .ge 7, 3), (227, .iconst 1, 1), (228, .goto 40, 3), (231, .iconst 0, 1), (232, .goto 36, 3)] : List (Nat × Instr × Nat)).all (fun q => decide (decode cX11_isLeaf q.1 = .ok q.2)) = true := by decide +kernel
set_option maxRecDepth 100000 in
theorem dq43_28 : ([(235, .iload_n 3, 1), (236, .bipush 61, 2), (238, .if_icmp .ne 18, 3), (241, .iload 5, 2), (243, .iload 4, 2), (245, .if_icmp .ne 7, 3), (248, .iconst 1, 1), (249, .goto 19, 3), (252, .iconst 0, 1), (253, .goto 15, 3), (256, .iload 5, 2), (258, .iload 4, 2), (260, .if_icmp .le 7, 3), (263, .iconst 1, 1), (264, .goto 4, 3), (267, .iconst 0, 1)] : List (Nat × Instr × Nat)).all (fun q => decide (decode cX11_isLeaf q.1 = .ok q.2)) = true := by decide +kernel
set_option maxRecDepth 100000 in
theorem dq43_29 : ([(268, .ireturn, 1)] : List (Nat × Instr × Nat)).all (fun q => decide (decode cX11_isLeaf q.1 = .ok q.2)) = true := by decide +kernel
set_option maxRecDepth 100000 in
set_option maxHeartbeats 4000000 in
theorem M_X11_isLeaf {l : Launch} {b : ab_B} {D : va_G} {cA : Nat → ClassId} {f_X11_lackOf : List Value → ab_H → Option ab_O} (h_X11_lackOf : ab_M l b D ab_cl cA (ab_E0 b) yX11_lackOf (Cond.code yX11_lackOf cX11_lackOf 4 (some .int) :: ab_G) ({ frames := 2, cells := 0, slots := 0, locals := 200 } : Room) f_X11_lackOf) {f_X11_cell : List Value → ab_H → Option ab_O} (h_X11_cell : ab_M l b D ab_cl cA (ab_E0 b) yX11_cell (Cond.code yX11_cell cX11_cell 2 (some .int) :: ab_G) ({ frames := 1, cells := 0, slots := 0, locals := 100 } : Room) f_X11_cell) {f_X11_isFalse : List Value → ab_H → Option ab_O} (h_X11_isFalse : ab_M l b D ab_cl cA (ab_E0 b) yX11_isFalse (Cond.code yX11_isFalse cX11_isFalse 3 (some .boolean) :: ab_G) ({ frames := 3, cells := 0, slots := 0, locals := 300 } : Room) f_X11_isFalse) : ab_M l b D ab_cl cA (ab_E0 b) yX11_isLeaf (Cond.code yX11_isLeaf cX11_isLeaf 6 (some .boolean) :: ab_G) ({ frames := 4, cells := 0, slots := 0, locals := 400 } : Room) (ab_X (ab_T (L_X11_isLeaf f_X11_lackOf f_X11_cell f_X11_isFalse)) 6) := by
  refine ab_meth (ret := (some .boolean)) (L_X11_isLeaf f_X11_lackOf f_X11_cell f_X11_isFalse) (by decide) rfl fun p e R s m args below meth c o C => ?_
  unfold L_X11_isLeaf
  refine List.forall_mem_cons.mpr ⟨ok_iload_n C (show decode cX11_isLeaf 0 = .ok (.iload_n 2, 1) from dk_at dq43_21 (i := 0) rfl) rfl rfl, ?_⟩
  refine List.forall_mem_cons.mpr ⟨ok_tab C (show decode cX11_isLeaf 1 = .ok (.tableswitch 129 0 4 #[35, 51, 75, 98, 121], 35) from dk_at dq43_21 (i := 1) rfl) (by decide) (by decide) (by decide), ?_⟩
  refine List.forall_mem_cons.mpr ⟨ok_aload_n C (show decode cX11_isLeaf 36 = .ok (.aload_n 0, 1) from dk_at dq43_21 (i := 2) rfl) rfl rfl, ?_⟩
  refine List.forall_mem_cons.mpr ⟨ok_iload_n C (show decode cX11_isLeaf 37 = .ok (.iload_n 1, 1) from dk_at dq43_21 (i := 3) rfl) rfl rfl, ?_⟩
  refine List.forall_mem_cons.mpr ⟨ok_iload C (show decode cX11_isLeaf 38 = .ok (.iload 4, 2) from dk_at dq43_21 (i := 4) rfl) rfl, ?_⟩
  refine List.forall_mem_cons.mpr ⟨ok_callV C h_X11_lackOf ⟨rfl, rfl⟩ rfl kw_1417 kw_1414 kw_1416 kp_67 kw_11 rfl ds_X11_lackOf ⟨by decide, by decide⟩ (show decode cX11_isLeaf 40 = .ok (.invokevirtual 248, 3) from dk_at dq43_21 (i := 5) rfl) rfl, ?_⟩
  refine List.forall_mem_cons.mpr ⟨ok_ifle C (show decode cX11_isLeaf 43 = .ok (.ifCond .le 7, 3) from dk_at dq43_21 (i := 6) rfl) (tg := 50) (by decide) rfl rfl, ?_⟩
  refine List.forall_mem_cons.mpr ⟨ok_iconst C (show decode cX11_isLeaf 46 = .ok (.iconst 1, 1) from dk_at dq43_21 (i := 7) rfl) (by decide) rfl, ?_⟩
  refine List.forall_mem_cons.mpr ⟨ok_goto C (show decode cX11_isLeaf 47 = .ok (.goto 4, 3) from dk_at dq43_21 (i := 8) rfl) (tg := 51) (by decide) rfl, ?_⟩
  refine List.forall_mem_cons.mpr ⟨ok_iconst C (show decode cX11_isLeaf 50 = .ok (.iconst 0, 1) from dk_at dq43_21 (i := 9) rfl) (by decide) rfl, ?_⟩
  refine List.forall_mem_cons.mpr ⟨ok_zret C rfl (show decode cX11_isLeaf 51 = .ok (.ireturn, 1) from dk_at dq43_21 (i := 10) rfl), ?_⟩
  refine List.forall_mem_cons.mpr ⟨ok_aload_n C (show decode cX11_isLeaf 52 = .ok (.aload_n 0, 1) from dk_at dq43_21 (i := 11) rfl) rfl rfl, ?_⟩
  refine List.forall_mem_cons.mpr ⟨ok_getf C (wi_X11) rfl (by decide) kw_1186 (show decode cX11_isLeaf 53 = .ok (.getfield 33, 3) from dk_at dq43_21 (i := 12) rfl) rfl, ?_⟩
  refine List.forall_mem_cons.mpr ⟨ok_sipush C (show decode cX11_isLeaf 56 = .ok (.sipush 136, 3) from dk_at dq43_21 (i := 13) rfl) (by decide) rfl, ?_⟩
  refine List.forall_mem_cons.mpr ⟨ok_iload_n C (show decode cX11_isLeaf 59 = .ok (.iload_n 1, 1) from dk_at dq43_21 (i := 14) rfl) rfl rfl, ?_⟩
  refine List.forall_mem_cons.mpr ⟨ok_iload C (show decode cX11_isLeaf 60 = .ok (.iload 4, 2) from dk_at dq43_21 (i := 15) rfl) rfl, ?_⟩
  refine List.forall_mem_cons.mpr ⟨ok_callS C h_X11_cell ⟨rfl, rfl⟩ kw_1413 kw_1411 kw_1412 kw_11 ds_X11_cell ⟨by decide, by decide⟩ (show decode cX11_isLeaf 62 = .ok (.invokestatic 245, 3) from dk_at dq43_22 (i := 0) rfl) rfl, ?_⟩
  refine List.forall_mem_cons.mpr ⟨ok_iadd C (show decode cX11_isLeaf 65 = .ok (.iadd, 1) from dk_at dq43_22 (i := 1) rfl) rfl, ?_⟩
  refine List.forall_mem_cons.mpr ⟨ok_iaload C (show decode cX11_isLeaf 66 = .ok (.iaload, 1) from dk_at dq43_22 (i := 2) rfl) rfl, ?_⟩
  refine List.forall_mem_cons.mpr ⟨ok_ifle C (show decode cX11_isLeaf 67 = .ok (.ifCond .le 7, 3) from dk_at dq43_22 (i := 3) rfl) (tg := 74) (by decide) rfl rfl, ?_⟩
  refine List.forall_mem_cons.mpr ⟨ok_iconst C (show decode cX11_isLeaf 70 = .ok (.iconst 1, 1) from dk_at dq43_22 (i := 4) rfl) (by decide) rfl, ?_⟩
  refine List.forall_mem_cons.mpr ⟨ok_goto C (show decode cX11_isLeaf 71 = .ok (.goto 4, 3) from dk_at dq43_22 (i := 5) rfl) (tg := 75) (by decide) rfl, ?_⟩
  refine List.forall_mem_cons.mpr ⟨ok_iconst C (show decode cX11_isLeaf 74 = .ok (.iconst 0, 1) from dk_at dq43_22 (i := 6) rfl) (by decide) rfl, ?_⟩
  refine List.forall_mem_cons.mpr ⟨ok_zret C rfl (show decode cX11_isLeaf 75 = .ok (.ireturn, 1) from dk_at dq43_22 (i := 7) rfl), ?_⟩
  refine List.forall_mem_cons.mpr ⟨ok_aload_n C (show decode cX11_isLeaf 76 = .ok (.aload_n 0, 1) from dk_at dq43_22 (i := 8) rfl) rfl rfl, ?_⟩
  refine List.forall_mem_cons.mpr ⟨ok_getf C (wi_X11) rfl (by decide) kw_1186 (show decode cX11_isLeaf 77 = .ok (.getfield 33, 3) from dk_at dq43_22 (i := 9) rfl) rfl, ?_⟩
  refine List.forall_mem_cons.mpr ⟨ok_bipush C (show decode cX11_isLeaf 80 = .ok (.bipush 40, 2) from dk_at dq43_22 (i := 10) rfl) (by decide) rfl, ?_⟩
  refine List.forall_mem_cons.mpr ⟨ok_iload_n C (show decode cX11_isLeaf 82 = .ok (.iload_n 1, 1) from dk_at dq43_22 (i := 11) rfl) rfl rfl, ?_⟩
  refine List.forall_mem_cons.mpr ⟨ok_iload C (show decode cX11_isLeaf 83 = .ok (.iload 4, 2) from dk_at dq43_22 (i := 12) rfl) rfl, ?_⟩
  refine List.forall_mem_cons.mpr ⟨ok_callS C h_X11_cell ⟨rfl, rfl⟩ kw_1413 kw_1411 kw_1412 kw_11 ds_X11_cell ⟨by decide, by decide⟩ (show decode cX11_isLeaf 85 = .ok (.invokestatic 245, 3) from dk_at dq43_22 (i := 13) rfl) rfl, ?_⟩
  refine List.forall_mem_cons.mpr ⟨ok_iadd C (show decode cX11_isLeaf 88 = .ok (.iadd, 1) from dk_at dq43_22 (i := 14) rfl) rfl, ?_⟩
  refine List.forall_mem_cons.mpr ⟨ok_iaload C (show decode cX11_isLeaf 89 = .ok (.iaload, 1) from dk_at dq43_22 (i := 15) rfl) rfl, ?_⟩
  refine List.forall_mem_cons.mpr ⟨ok_ifle C (show decode cX11_isLeaf 90 = .ok (.ifCond .le 7, 3) from dk_at dq43_23 (i := 0) rfl) (tg := 97) (by decide) rfl rfl, ?_⟩
  refine List.forall_mem_cons.mpr ⟨ok_iconst C (show decode cX11_isLeaf 93 = .ok (.iconst 1, 1) from dk_at dq43_23 (i := 1) rfl) (by decide) rfl, ?_⟩
  refine List.forall_mem_cons.mpr ⟨ok_goto C (show decode cX11_isLeaf 94 = .ok (.goto 4, 3) from dk_at dq43_23 (i := 2) rfl) (tg := 98) (by decide) rfl, ?_⟩
  refine List.forall_mem_cons.mpr ⟨ok_iconst C (show decode cX11_isLeaf 97 = .ok (.iconst 0, 1) from dk_at dq43_23 (i := 3) rfl) (by decide) rfl, ?_⟩
  refine List.forall_mem_cons.mpr ⟨ok_zret C rfl (show decode cX11_isLeaf 98 = .ok (.ireturn, 1) from dk_at dq43_23 (i := 4) rfl), ?_⟩
  refine List.forall_mem_cons.mpr ⟨ok_aload_n C (show decode cX11_isLeaf 99 = .ok (.aload_n 0, 1) from dk_at dq43_23 (i := 5) rfl) rfl rfl, ?_⟩
  refine List.forall_mem_cons.mpr ⟨ok_getf C (wi_X11) rfl (by decide) kw_1186 (show decode cX11_isLeaf 100 = .ok (.getfield 33, 3) from dk_at dq43_23 (i := 6) rfl) rfl, ?_⟩
  refine List.forall_mem_cons.mpr ⟨ok_bipush C (show decode cX11_isLeaf 103 = .ok (.bipush 28, 2) from dk_at dq43_23 (i := 7) rfl) (by decide) rfl, ?_⟩
  refine List.forall_mem_cons.mpr ⟨ok_iload_n C (show decode cX11_isLeaf 105 = .ok (.iload_n 1, 1) from dk_at dq43_23 (i := 8) rfl) rfl rfl, ?_⟩
  refine List.forall_mem_cons.mpr ⟨ok_iload C (show decode cX11_isLeaf 106 = .ok (.iload 4, 2) from dk_at dq43_23 (i := 9) rfl) rfl, ?_⟩
  refine List.forall_mem_cons.mpr ⟨ok_callS C h_X11_cell ⟨rfl, rfl⟩ kw_1413 kw_1411 kw_1412 kw_11 ds_X11_cell ⟨by decide, by decide⟩ (show decode cX11_isLeaf 108 = .ok (.invokestatic 245, 3) from dk_at dq43_23 (i := 10) rfl) rfl, ?_⟩
  refine List.forall_mem_cons.mpr ⟨ok_iadd C (show decode cX11_isLeaf 111 = .ok (.iadd, 1) from dk_at dq43_23 (i := 11) rfl) rfl, ?_⟩
  refine List.forall_mem_cons.mpr ⟨ok_iaload C (show decode cX11_isLeaf 112 = .ok (.iaload, 1) from dk_at dq43_23 (i := 12) rfl) rfl, ?_⟩
  refine List.forall_mem_cons.mpr ⟨ok_ifle C (show decode cX11_isLeaf 113 = .ok (.ifCond .le 7, 3) from dk_at dq43_23 (i := 13) rfl) (tg := 120) (by decide) rfl rfl, ?_⟩
  refine List.forall_mem_cons.mpr ⟨ok_iconst C (show decode cX11_isLeaf 116 = .ok (.iconst 1, 1) from dk_at dq43_23 (i := 14) rfl) (by decide) rfl, ?_⟩
  refine List.forall_mem_cons.mpr ⟨ok_goto C (show decode cX11_isLeaf 117 = .ok (.goto 4, 3) from dk_at dq43_23 (i := 15) rfl) (tg := 121) (by decide) rfl, ?_⟩
  refine List.forall_mem_cons.mpr ⟨ok_iconst C (show decode cX11_isLeaf 120 = .ok (.iconst 0, 1) from dk_at dq43_24 (i := 0) rfl) (by decide) rfl, ?_⟩
  refine List.forall_mem_cons.mpr ⟨ok_zret C rfl (show decode cX11_isLeaf 121 = .ok (.ireturn, 1) from dk_at dq43_24 (i := 1) rfl), ?_⟩
  refine List.forall_mem_cons.mpr ⟨ok_aload_n C (show decode cX11_isLeaf 122 = .ok (.aload_n 0, 1) from dk_at dq43_24 (i := 2) rfl) rfl rfl, ?_⟩
  refine List.forall_mem_cons.mpr ⟨ok_iload_n C (show decode cX11_isLeaf 123 = .ok (.iload_n 1, 1) from dk_at dq43_24 (i := 3) rfl) rfl rfl, ?_⟩
  refine List.forall_mem_cons.mpr ⟨ok_iload C (show decode cX11_isLeaf 124 = .ok (.iload 4, 2) from dk_at dq43_24 (i := 4) rfl) rfl, ?_⟩
  refine List.forall_mem_cons.mpr ⟨ok_callV C h_X11_isFalse ⟨rfl, rfl⟩ rfl kw_1421 kw_1418 kw_1420 kp_68 kw_11 rfl ds_X11_isFalse ⟨by decide, by decide⟩ (show decode cX11_isLeaf 126 = .ok (.invokevirtual 254, 3) from dk_at dq43_24 (i := 5) rfl) rfl, ?_⟩
  refine List.forall_mem_cons.mpr ⟨ok_zret C rfl (show decode cX11_isLeaf 129 = .ok (.ireturn, 1) from dk_at dq43_24 (i := 6) rfl), ?_⟩
  refine List.forall_mem_cons.mpr ⟨ok_iload_n C (show decode cX11_isLeaf 130 = .ok (.iload_n 2, 1) from dk_at dq43_24 (i := 7) rfl) rfl rfl, ?_⟩
  refine List.forall_mem_cons.mpr ⟨ok_iconst C (show decode cX11_isLeaf 131 = .ok (.iconst 5, 1) from dk_at dq43_24 (i := 8) rfl) (by decide) rfl, ?_⟩
  refine List.forall_mem_cons.mpr ⟨ok_icmpne C (show decode cX11_isLeaf 132 = .ok (.if_icmp .ne 19, 3) from dk_at dq43_24 (i := 9) rfl) (tg := 151) (by decide) rfl rfl, ?_⟩
  refine List.forall_mem_cons.mpr ⟨ok_aload_n C (show decode cX11_isLeaf 135 = .ok (.aload_n 0, 1) from dk_at dq43_24 (i := 10) rfl) rfl rfl, ?_⟩
  refine List.forall_mem_cons.mpr ⟨ok_getf C (wi_X11) rfl (by decide) kw_1186 (show decode cX11_isLeaf 136 = .ok (.getfield 33, 3) from dk_at dq43_24 (i := 11) rfl) rfl, ?_⟩
  refine List.forall_mem_cons.mpr ⟨ok_bipush C (show decode cX11_isLeaf 139 = .ok (.bipush 124, 2) from dk_at dq43_24 (i := 12) rfl) (by decide) rfl, ?_⟩
  refine List.forall_mem_cons.mpr ⟨ok_iload_n C (show decode cX11_isLeaf 141 = .ok (.iload_n 1, 1) from dk_at dq43_24 (i := 13) rfl) rfl rfl, ?_⟩
  refine List.forall_mem_cons.mpr ⟨ok_iconst C (show decode cX11_isLeaf 142 = .ok (.iconst 0, 1) from dk_at dq43_24 (i := 14) rfl) (by decide) rfl, ?_⟩
  refine List.forall_mem_cons.mpr ⟨ok_callS C h_X11_cell ⟨rfl, rfl⟩ kw_1413 kw_1411 kw_1412 kw_11 ds_X11_cell ⟨by decide, by decide⟩ (show decode cX11_isLeaf 143 = .ok (.invokestatic 245, 3) from dk_at dq43_24 (i := 15) rfl) rfl, ?_⟩
  refine List.forall_mem_cons.mpr ⟨ok_iadd C (show decode cX11_isLeaf 146 = .ok (.iadd, 1) from dk_at dq43_25 (i := 0) rfl) rfl, ?_⟩
  refine List.forall_mem_cons.mpr ⟨ok_iaload C (show decode cX11_isLeaf 147 = .ok (.iaload, 1) from dk_at dq43_25 (i := 1) rfl) rfl, ?_⟩
  refine List.forall_mem_cons.mpr ⟨ok_goto C (show decode cX11_isLeaf 148 = .ok (.goto 64, 3) from dk_at dq43_25 (i := 2) rfl) (tg := 212) (by decide) rfl, ?_⟩
  refine List.forall_mem_cons.mpr ⟨ok_iload_n C (show decode cX11_isLeaf 151 = .ok (.iload_n 2, 1) from dk_at dq43_25 (i := 3) rfl) rfl rfl, ?_⟩
  refine List.forall_mem_cons.mpr ⟨ok_bipush C (show decode cX11_isLeaf 152 = .ok (.bipush 6, 2) from dk_at dq43_25 (i := 4) rfl) (by decide) rfl, ?_⟩
  refine List.forall_mem_cons.mpr ⟨ok_icmpne C (show decode cX11_isLeaf 154 = .ok (.if_icmp .ne 19, 3) from dk_at dq43_25 (i := 5) rfl) (tg := 173) (by decide) rfl rfl, ?_⟩
  refine List.forall_mem_cons.mpr ⟨ok_aload_n C (show decode cX11_isLeaf 157 = .ok (.aload_n 0, 1) from dk_at dq43_25 (i := 6) rfl) rfl rfl, ?_⟩
  refine List.forall_mem_cons.mpr ⟨ok_getf C (wi_X11) rfl (by decide) kw_1186 (show decode cX11_isLeaf 158 = .ok (.getfield 33, 3) from dk_at dq43_25 (i := 7) rfl) rfl, ?_⟩
  refine List.forall_mem_cons.mpr ⟨ok_bipush C (show decode cX11_isLeaf 161 = .ok (.bipush 124, 2) from dk_at dq43_25 (i := 8) rfl) (by decide) rfl, ?_⟩
  refine List.forall_mem_cons.mpr ⟨ok_iload_n C (show decode cX11_isLeaf 163 = .ok (.iload_n 1, 1) from dk_at dq43_25 (i := 9) rfl) rfl rfl, ?_⟩
  refine List.forall_mem_cons.mpr ⟨ok_iconst C (show decode cX11_isLeaf 164 = .ok (.iconst 1, 1) from dk_at dq43_25 (i := 10) rfl) (by decide) rfl, ?_⟩
  refine List.forall_mem_cons.mpr ⟨ok_callS C h_X11_cell ⟨rfl, rfl⟩ kw_1413 kw_1411 kw_1412 kw_11 ds_X11_cell ⟨by decide, by decide⟩ (show decode cX11_isLeaf 165 = .ok (.invokestatic 245, 3) from dk_at dq43_25 (i := 11) rfl) rfl, ?_⟩
  refine List.forall_mem_cons.mpr ⟨ok_iadd C (show decode cX11_isLeaf 168 = .ok (.iadd, 1) from dk_at dq43_25 (i := 12) rfl) rfl, ?_⟩
  refine List.forall_mem_cons.mpr ⟨ok_iaload C (show decode cX11_isLeaf 169 = .ok (.iaload, 1) from dk_at dq43_25 (i := 13) rfl) rfl, ?_⟩
  refine List.forall_mem_cons.mpr ⟨ok_goto C (show decode cX11_isLeaf 170 = .ok (.goto 42, 3) from dk_at dq43_25 (i := 14) rfl) (tg := 212) (by decide) rfl, ?_⟩
  refine List.forall_mem_cons.mpr ⟨ok_iload_n C (show decode cX11_isLeaf 173 = .ok (.iload_n 2, 1) from dk_at dq43_25 (i := 15) rfl) rfl rfl, ?_⟩
  refine List.forall_mem_cons.mpr ⟨ok_bipush C (show decode cX11_isLeaf 174 = .ok (.bipush 7, 2) from dk_at dq43_26 (i := 0) rfl) (by decide) rfl, ?_⟩
  refine List.forall_mem_cons.mpr ⟨ok_icmpne C (show decode cX11_isLeaf 176 = .ok (.if_icmp .ne 35, 3) from dk_at dq43_26 (i := 1) rfl) (tg := 211) (by decide) rfl rfl, ?_⟩
  refine List.forall_mem_cons.mpr ⟨ok_aload_n C (show decode cX11_isLeaf 179 = .ok (.aload_n 0, 1) from dk_at dq43_26 (i := 2) rfl) rfl rfl, ?_⟩
  refine List.forall_mem_cons.mpr ⟨ok_getf C (wi_X11) rfl (by decide) kw_1186 (show decode cX11_isLeaf 180 = .ok (.getfield 33, 3) from dk_at dq43_26 (i := 3) rfl) rfl, ?_⟩
  refine List.forall_mem_cons.mpr ⟨ok_sipush C (show decode cX11_isLeaf 183 = .ok (.sipush 160, 3) from dk_at dq43_26 (i := 4) rfl) (by decide) rfl, ?_⟩
  refine List.forall_mem_cons.mpr ⟨ok_iload_n C (show decode cX11_isLeaf 186 = .ok (.iload_n 1, 1) from dk_at dq43_26 (i := 5) rfl) rfl rfl, ?_⟩
  refine List.forall_mem_cons.mpr ⟨ok_iconst C (show decode cX11_isLeaf 187 = .ok (.iconst 0, 1) from dk_at dq43_26 (i := 6) rfl) (by decide) rfl, ?_⟩
  refine List.forall_mem_cons.mpr ⟨ok_callS C h_X11_cell ⟨rfl, rfl⟩ kw_1413 kw_1411 kw_1412 kw_11 ds_X11_cell ⟨by decide, by decide⟩ (show decode cX11_isLeaf 188 = .ok (.invokestatic 245, 3) from dk_at dq43_26 (i := 7) rfl) rfl, ?_⟩
  refine List.forall_mem_cons.mpr ⟨ok_iadd C (show decode cX11_isLeaf 191 = .ok (.iadd, 1) from dk_at dq43_26 (i := 8) rfl) rfl, ?_⟩
  refine List.forall_mem_cons.mpr ⟨ok_iaload C (show decode cX11_isLeaf 192 = .ok (.iaload, 1) from dk_at dq43_26 (i := 9) rfl) rfl, ?_⟩
  refine List.forall_mem_cons.mpr ⟨ok_aload_n C (show decode cX11_isLeaf 193 = .ok (.aload_n 0, 1) from dk_at dq43_26 (i := 10) rfl) rfl rfl, ?_⟩
  refine List.forall_mem_cons.mpr ⟨ok_getf C (wi_X11) rfl (by decide) kw_1186 (show decode cX11_isLeaf 194 = .ok (.getfield 33, 3) from dk_at dq43_26 (i := 11) rfl) rfl, ?_⟩
  refine List.forall_mem_cons.mpr ⟨ok_sipush C (show decode cX11_isLeaf 197 = .ok (.sipush 160, 3) from dk_at dq43_26 (i := 12) rfl) (by decide) rfl, ?_⟩
  refine List.forall_mem_cons.mpr ⟨ok_iload_n C (show decode cX11_isLeaf 200 = .ok (.iload_n 1, 1) from dk_at dq43_26 (i := 13) rfl) rfl rfl, ?_⟩
  refine List.forall_mem_cons.mpr ⟨ok_iconst C (show decode cX11_isLeaf 201 = .ok (.iconst 1, 1) from dk_at dq43_26 (i := 14) rfl) (by decide) rfl, ?_⟩
  refine List.forall_mem_cons.mpr ⟨ok_callS C h_X11_cell ⟨rfl, rfl⟩ kw_1413 kw_1411 kw_1412 kw_11 ds_X11_cell ⟨by decide, by decide⟩ (show decode cX11_isLeaf 202 = .ok (.invokestatic 245, 3) from dk_at dq43_26 (i := 15) rfl) rfl, ?_⟩
  refine List.forall_mem_cons.mpr ⟨ok_iadd C (show decode cX11_isLeaf 205 = .ok (.iadd, 1) from dk_at dq43_27 (i := 0) rfl) rfl, ?_⟩
  refine List.forall_mem_cons.mpr ⟨ok_iaload C (show decode cX11_isLeaf 206 = .ok (.iaload, 1) from dk_at dq43_27 (i := 1) rfl) rfl, ?_⟩
  refine List.forall_mem_cons.mpr ⟨ok_iadd C (show decode cX11_isLeaf 207 = .ok (.iadd, 1) from dk_at dq43_27 (i := 2) rfl) rfl, ?_⟩
  refine List.forall_mem_cons.mpr ⟨ok_goto C (show decode cX11_isLeaf 208 = .ok (.goto 4, 3) from dk_at dq43_27 (i := 3) rfl) (tg := 212) (by decide) rfl, ?_⟩
  refine List.forall_mem_cons.mpr ⟨ok_iload_n C (show decode cX11_isLeaf 211 = .ok (.iload_n 1, 1) from dk_at dq43_27 (i := 4) rfl) rfl rfl, ?_⟩
  refine List.forall_mem_cons.mpr ⟨ok_istore C (show decode cX11_isLeaf 212 = .ok (.istore 5, 2) from dk_at dq43_27 (i := 5) rfl) (by decide) rfl, ?_⟩
  refine List.forall_mem_cons.mpr ⟨ok_iload_n C (show decode cX11_isLeaf 214 = .ok (.iload_n 3, 1) from dk_at dq43_27 (i := 6) rfl) rfl rfl, ?_⟩
  refine List.forall_mem_cons.mpr ⟨ok_bipush C (show decode cX11_isLeaf 215 = .ok (.bipush 60, 2) from dk_at dq43_27 (i := 7) rfl) (by decide) rfl, ?_⟩
  refine List.forall_mem_cons.mpr ⟨ok_icmpne C (show decode cX11_isLeaf 217 = .ok (.if_icmp .ne 18, 3) from dk_at dq43_27 (i := 8) rfl) (tg := 235) (by decide) rfl rfl, ?_⟩
  refine List.forall_mem_cons.mpr ⟨ok_iload C (show decode cX11_isLeaf 220 = .ok (.iload 5, 2) from dk_at dq43_27 (i := 9) rfl) rfl, ?_⟩
  refine List.forall_mem_cons.mpr ⟨ok_iload C (show decode cX11_isLeaf 222 = .ok (.iload 4, 2) from dk_at dq43_27 (i := 10) rfl) rfl, ?_⟩
  refine List.forall_mem_cons.mpr ⟨ok_icmpge C (show decode cX11_isLeaf 224 = .ok (.if_icmp .ge 7, 3) from dk_at dq43_27 (i := 11) rfl) (tg := 231) (by decide) rfl rfl, ?_⟩
  refine List.forall_mem_cons.mpr ⟨ok_iconst C (show decode cX11_isLeaf 227 = .ok (.iconst 1, 1) from dk_at dq43_27 (i := 12) rfl) (by decide) rfl, ?_⟩
  refine List.forall_mem_cons.mpr ⟨ok_goto C (show decode cX11_isLeaf 228 = .ok (.goto 40, 3) from dk_at dq43_27 (i := 13) rfl) (tg := 268) (by decide) rfl, ?_⟩
  refine List.forall_mem_cons.mpr ⟨ok_iconst C (show decode cX11_isLeaf 231 = .ok (.iconst 0, 1) from dk_at dq43_27 (i := 14) rfl) (by decide) rfl, ?_⟩
  refine List.forall_mem_cons.mpr ⟨ok_goto C (show decode cX11_isLeaf 232 = .ok (.goto 36, 3) from dk_at dq43_27 (i := 15) rfl) (tg := 268) (by decide) rfl, ?_⟩
  refine List.forall_mem_cons.mpr ⟨ok_iload_n C (show decode cX11_isLeaf 235 = .ok (.iload_n 3, 1) from dk_at dq43_28 (i := 0) rfl) rfl rfl, ?_⟩
  refine List.forall_mem_cons.mpr ⟨ok_bipush C (show decode cX11_isLeaf 236 = .ok (.bipush 61, 2) from dk_at dq43_28 (i := 1) rfl) (by decide) rfl, ?_⟩
  refine List.forall_mem_cons.mpr ⟨ok_icmpne C (show decode cX11_isLeaf 238 = .ok (.if_icmp .ne 18, 3) from dk_at dq43_28 (i := 2) rfl) (tg := 256) (by decide) rfl rfl, ?_⟩
  refine List.forall_mem_cons.mpr ⟨ok_iload C (show decode cX11_isLeaf 241 = .ok (.iload 5, 2) from dk_at dq43_28 (i := 3) rfl) rfl, ?_⟩
  refine List.forall_mem_cons.mpr ⟨ok_iload C (show decode cX11_isLeaf 243 = .ok (.iload 4, 2) from dk_at dq43_28 (i := 4) rfl) rfl, ?_⟩
  refine List.forall_mem_cons.mpr ⟨ok_icmpne C (show decode cX11_isLeaf 245 = .ok (.if_icmp .ne 7, 3) from dk_at dq43_28 (i := 5) rfl) (tg := 252) (by decide) rfl rfl, ?_⟩
  refine List.forall_mem_cons.mpr ⟨ok_iconst C (show decode cX11_isLeaf 248 = .ok (.iconst 1, 1) from dk_at dq43_28 (i := 6) rfl) (by decide) rfl, ?_⟩
  refine List.forall_mem_cons.mpr ⟨ok_goto C (show decode cX11_isLeaf 249 = .ok (.goto 19, 3) from dk_at dq43_28 (i := 7) rfl) (tg := 268) (by decide) rfl, ?_⟩
  refine List.forall_mem_cons.mpr ⟨ok_iconst C (show decode cX11_isLeaf 252 = .ok (.iconst 0, 1) from dk_at dq43_28 (i := 8) rfl) (by decide) rfl, ?_⟩
  refine List.forall_mem_cons.mpr ⟨ok_goto C (show decode cX11_isLeaf 253 = .ok (.goto 15, 3) from dk_at dq43_28 (i := 9) rfl) (tg := 268) (by decide) rfl, ?_⟩
  refine List.forall_mem_cons.mpr ⟨ok_iload C (show decode cX11_isLeaf 256 = .ok (.iload 5, 2) from dk_at dq43_28 (i := 10) rfl) rfl, ?_⟩
  refine List.forall_mem_cons.mpr ⟨ok_iload C (show decode cX11_isLeaf 258 = .ok (.iload 4, 2) from dk_at dq43_28 (i := 11) rfl) rfl, ?_⟩
  refine List.forall_mem_cons.mpr ⟨ok_icmple C (show decode cX11_isLeaf 260 = .ok (.if_icmp .le 7, 3) from dk_at dq43_28 (i := 12) rfl) (tg := 267) (by decide) rfl rfl, ?_⟩
  refine List.forall_mem_cons.mpr ⟨ok_iconst C (show decode cX11_isLeaf 263 = .ok (.iconst 1, 1) from dk_at dq43_28 (i := 13) rfl) (by decide) rfl, ?_⟩
  refine List.forall_mem_cons.mpr ⟨ok_goto C (show decode cX11_isLeaf 264 = .ok (.goto 4, 3) from dk_at dq43_28 (i := 14) rfl) (tg := 268) (by decide) rfl, ?_⟩
  refine List.forall_mem_cons.mpr ⟨ok_iconst C (show decode cX11_isLeaf 267 = .ok (.iconst 0, 1) from dk_at dq43_28 (i := 15) rfl) (by decide) rfl, ?_⟩
  refine List.forall_mem_cons.mpr ⟨ok_zret C rfl (show decode cX11_isLeaf 268 = .ok (.ireturn, 1) from dk_at dq43_29 (i := 0) rfl), ?_⟩
  exact fun _ h => absurd h List.not_mem_nil
end
-- 44.m24.lean.txt
section
def L_X11_isSaid (f_X11_isLeaf : List Value → ab_H → Option ab_O) : List (Nat × ab_A) := [
  (0, ab_nx 1 (ab_lit (.int 0))),
  (1, ab_nx 2 (ab_istore 2)),
  (2, ab_nx 3 (ab_lit (.int 0))),
  (3, ab_nx 4 (ab_istore 3)),
  (4, ab_nx 5 (ab_iload 3)),
  (5, ab_nx 6 (ab_aload 0)),
  (6, ab_nx 9 (ab_getf 11 6)),
  (9, ab_nx 12 (ab_lit (.int 253))),
  (12, ab_nx 13 (ab_ald 1)),
  (13, ab_icmp 16 212 (fun x y => decide (y ≤ x))),
  (16, ab_nx 19 (ab_lit (.int 254))),
  (19, ab_nx 20 (ab_lit (.int 3))),
  (20, ab_nx 21 (ab_iload 3)),
  (21, ab_nx 22 (ab_bin (fun x y => x * y))),
  (22, ab_nx 23 (ab_bin (fun x y => x + y))),
  (23, ab_nx 25 (ab_istore 4)),
  (25, ab_nx 26 (ab_aload 0)),
  (26, ab_nx 29 (ab_getf 11 6)),
  (29, ab_nx 31 (ab_iload 4)),
  (31, ab_nx 32 (ab_ald 1)),
  (32, ab_nx 34 (ab_lit (.int 20))),
  (34, ab_icmp 37 64 (fun x y => !decide (x = y))),
  (37, ab_nx 38 (ab_aload 0)),
  (38, ab_nx 41 (ab_getf 11 39)),
  (41, ab_nx 42 (ab_iload 2)),
  (42, ab_nx 43 (ab_lit (.int 1))),
  (43, ab_nx 44 (ab_bin (fun x y => x - y))),
  (44, ab_nx 45 (ab_aload 0)),
  (45, ab_nx 48 (ab_getf 11 39)),
  (48, ab_nx 49 (ab_iload 2)),
  (49, ab_nx 50 (ab_lit (.int 1))),
  (50, ab_nx 51 (ab_bin (fun x y => x - y))),
  (51, ab_nx 52 (ab_ald 3)),
  (52, ab_if 55 59 (fun x => !decide (x = 0))),
  (55, ab_nx 56 (ab_lit (.int 1))),
  (56, ab_goto 60),
  (59, ab_nx 60 (ab_lit (.int 0))),
  (60, ab_nx 61 (ab_ast 3)),
  (61, ab_goto 206),
  (64, ab_nx 65 (ab_aload 0)),
  (65, ab_nx 68 (ab_getf 11 6)),
  (68, ab_nx 70 (ab_iload 4)),
  (70, ab_nx 71 (ab_ald 1)),
  (71, ab_nx 73 (ab_lit (.int 21))),
  (73, ab_icmp 76 88 (fun x y => decide (x = y))),
  (76, ab_nx 77 (ab_aload 0)),
  (77, ab_nx 80 (ab_getf 11 6)),
  (80, ab_nx 82 (ab_iload 4)),
  (82, ab_nx 83 (ab_ald 1)),
  (83, ab_nx 85 (ab_lit (.int 22))),
  (85, ab_icmp 88 167 (fun x y => !decide (x = y))),
  (88, ab_nx 91 (ab_iinc 2 (-1))),
  (91, ab_nx 92 (ab_aload 0)),
  (92, ab_nx 95 (ab_getf 11 39)),
  (95, ab_nx 96 (ab_iload 2)),
  (96, ab_nx 97 (ab_lit (.int 1))),
  (97, ab_nx 98 (ab_bin (fun x y => x - y))),
  (98, ab_nx 99 (ab_aload 0)),
  (99, ab_nx 102 (ab_getf 11 6)),
  (102, ab_nx 104 (ab_iload 4)),
  (104, ab_nx 105 (ab_ald 1)),
  (105, ab_nx 107 (ab_lit (.int 21))),
  (107, ab_icmp 110 138 (fun x y => !decide (x = y))),
  (110, ab_nx 111 (ab_aload 0)),
  (111, ab_nx 114 (ab_getf 11 39)),
  (114, ab_nx 115 (ab_iload 2)),
  (115, ab_nx 116 (ab_lit (.int 1))),
  (116, ab_nx 117 (ab_bin (fun x y => x - y))),
  (117, ab_nx 118 (ab_ald 3)),
  (118, ab_if 121 134 (fun x => decide (x = 0))),
  (121, ab_nx 122 (ab_aload 0)),
  (122, ab_nx 125 (ab_getf 11 39)),
  (125, ab_nx 126 (ab_iload 2)),
  (126, ab_nx 127 (ab_ald 3)),
  (127, ab_if 130 134 (fun x => decide (x = 0))),
  (130, ab_nx 131 (ab_lit (.int 1))),
  (131, ab_goto 163),
  (134, ab_nx 135 (ab_lit (.int 0))),
  (135, ab_goto 163),
  (138, ab_nx 139 (ab_aload 0)),
  (139, ab_nx 142 (ab_getf 11 39)),
  (142, ab_nx 143 (ab_iload 2)),
  (143, ab_nx 144 (ab_lit (.int 1))),
  (144, ab_nx 145 (ab_bin (fun x y => x - y))),
  (145, ab_nx 146 (ab_ald 3)),
  (146, ab_if 149 158 (fun x => !decide (x = 0))),
  (149, ab_nx 150 (ab_aload 0)),
  (150, ab_nx 153 (ab_getf 11 39)),
  (153, ab_nx 154 (ab_iload 2)),
  (154, ab_nx 155 (ab_ald 3)),
  (155, ab_if 158 162 (fun x => decide (x = 0))),
  (158, ab_nx 159 (ab_lit (.int 1))),
  (159, ab_goto 163),
  (162, ab_nx 163 (ab_lit (.int 0))),
  (163, ab_nx 164 (ab_ast 3)),
  (164, ab_goto 206),
  (167, ab_nx 168 (ab_aload 0)),
  (168, ab_nx 171 (ab_getf 11 39)),
  (171, ab_nx 172 (ab_iload 2)),
  (172, ab_nx 173 (ab_aload 0)),
  (173, ab_nx 174 (ab_iload 1)),
  (174, ab_nx 175 (ab_aload 0)),
  (175, ab_nx 178 (ab_getf 11 6)),
  (178, ab_nx 180 (ab_iload 4)),
  (180, ab_nx 181 (ab_ald 1)),
  (181, ab_nx 182 (ab_aload 0)),
  (182, ab_nx 185 (ab_getf 11 6)),
  (185, ab_nx 187 (ab_iload 4)),
  (187, ab_nx 188 (ab_lit (.int 1))),
  (188, ab_nx 189 (ab_bin (fun x y => x + y))),
  (189, ab_nx 190 (ab_ald 1)),
  (190, ab_nx 191 (ab_aload 0)),
  (191, ab_nx 194 (ab_getf 11 6)),
  (194, ab_nx 196 (ab_iload 4)),
  (196, ab_nx 197 (ab_lit (.int 2))),
  (197, ab_nx 198 (ab_bin (fun x y => x + y))),
  (198, ab_nx 199 (ab_ald 1)),
  (199, ab_nx 202 (ab_callV 5 11 f_X11_isLeaf 0 0 0 0)),
  (202, ab_nx 203 (ab_ast 3)),
  (203, ab_nx 206 (ab_iinc 2 1)),
  (206, ab_nx 209 (ab_iinc 3 1)),
  (209, ab_goto 4),
  (212, ab_nx 213 (ab_aload 0)),
  (213, ab_nx 216 (ab_getf 11 39)),
  (216, ab_nx 217 (ab_lit (.int 0))),
  (217, ab_nx 218 (ab_ald 3)),
  (218, ab_zret 0 0)]
set_option maxRecDepth 100000 in
theorem dq44_0 : ([(0, .iconst 0, 1), (1, .istore_n 2, 1), (2, .iconst 0, 1), (3, .istore_n 3, 1), (4, .iload_n 3, 1), (5, .aload_n 0, 1), (6, .getfield 33, 3), (9, .sipush 253, 3), (12, .iaload, 1), (13, .if_icmp .ge 199, 3), (16, .sipush 254, 3), (19, .iconst 3, 1), (20, .iload_n 3, 1), (21, .imul, 1), (22, .iadd, 1), (23, .istore 4, 2)] : List (Nat × Instr × Nat)).all (fun q => decide (decode cX11_isSaid q.1 = .ok q.2)) = true := by decide +kernel
set_option maxRecDepth 100000 in
theorem dq44_1 : ([(25, .aload_n 0, 1), (26, .getfield 33, 3), (29, .iload 4, 2), (31, .iaload, 1), (32, .bipush 20, 2), (34, .if_icmp .ne 30, 3), (37, .aload_n 0, 1), (38, .getfield 74, 3), (41, .iload_n 2, 1), (42, .iconst 1, 1), (43, .isub, 1), (44, .aload_n 0, 1), (45, .getfield 74, 3), (48, .iload_n 2, 1), (49, .iconst 1, 1), (50, .isub, 1)] : List (Nat × Instr × Nat)).all (fun q => decide (decode cX11_isSaid q.1 = .ok q.2)) = true := by decide +kernel
set_option maxRecDepth 100000 in
theorem dq44_2 : ([(51, .baload, 1), (52, .ifCond .ne 7, 3), (55, .iconst 1, 1), (56, .goto 4, 3), (59, .iconst 0, 1), (60, .bastore, 1), (61, .goto 145, 3), (64, .aload_n 0, 1), (65, .getfield 33, 3), (68, .iload 4, 2), (70, .iaload, 1), (71, .bipush 21, 2), (73, .if_icmp .eq 15, 3), (76, .aload_n 0, 1), (77, .getfield 33, 3), (80, .iload 4, 2)] : List (Nat × Instr × Nat)).all (fun q => decide (decode cX11_isSaid q.1 = .ok q.2)) = true := by decide +kernel
set_option maxRecDepth 100000 in
theorem dq44_3 : ([(82, .iaload, 1), (83, .bipush 22, 2), (85, .if_icmp .ne 82, 3), (88, .iinc 2 (-1), 3), (91, .aload_n 0, 1), (92, .getfield 74, 3), (95, .iload_n 2, 1), (96, .iconst 1, 1), (97, .isub, 1), (98, .aload_n 0, 1), (99, .getfield 33, 3), (102, .iload 4, 2), (104, .iaload, 1), (105, .bipush 21, 2), (107, .if_icmp .ne 31, 3), (110, .aload_n 0, 1)] : List (Nat × Instr × Nat)).all (fun q => decide (decode cX11_isSaid q.1 = .ok q.2)) = true := by decide +kernel
set_option maxRecDepth 100000 in
theorem dq44_4 : ([(111, .getfield 74, 3), (114, .iload_n 2, 1), (115, .iconst 1, 1), (116, .isub, 1), (117, .baload, 1), (118, .ifCond .eq 16, 3), (121, .aload_n 0, 1), (122, .getfield 74, 3), (125, .iload_n 2, 1), (126, .baload, 1), (127, .ifCond .eq 7, 3), (130, .iconst 1, 1), (131, .goto 32, 3), (134, .iconst 0, 1), (135, .goto 28, 3), (138, .aload_n 0, 1)] : List (Nat × Instr × Nat)).all (fun q => decide (decode cX11_isSaid q.1 = .ok q.2)) = true := by decide +kernel
set_option maxRecDepth 100000 in
theorem dq44_5 : ([(139, .getfield 74, 3), (142, .iload_n 2, 1), (143, .iconst 1, 1), (144, .isub, 1), (145, .baload, 1), (146, .ifCond .ne 12, 3), (149, .aload_n 0, 1), (150, .getfield 74, 3), (153, .iload_n 2, 1), (154, .baload, 1), (155, .ifCond .eq 7, 3), (158, .iconst 1, 1), (159, .goto 4, 3), (162, .iconst 0, 1), (163, .bastore, 1), (164, .goto 42, 3)] : List (Nat × Instr × Nat)).all (fun q => decide (decode cX11_isSaid q.1 = .ok q.2)) = true := by decide +kernel
set_option maxRecDepth 100000 in
theorem dq44_6 : ([(167, .aload_n 0, 1), (168, .getfield 74, 3), (171, .iload_n 2, 1), (172, .aload_n 0, 1), (173, .iload_n 1, 1), (174, .aload_n 0, 1), (175, .getfield 33, 3), (178, .iload 4, 2), (180, .iaload, 1), (181, .aload_n 0, 1), (182, .getfield 33, 3), (185, .iload 4, 2), (187, .iconst 1, 1), (188, .iadd, 1), (189, .iaload, 1), (190, .aload_n 0, 1)] : List (Nat × Instr × Nat)).all (fun q => decide (decode cX11_isSaid q.1 = .ok q.2)) = true := by decide +kernel
set_option maxRecDepth 100000 in
theorem dq44_7 : ([(191, .getfield 33, 3), (194, .iload 4, 2), (196, .iconst 2, 1), (197, .iadd, 1), (198, .iaload, 1), (199, .invokevirtual 395, 3), (202, .bastore, 1), (203, .iinc 2 1, 3), (206, .iinc 3 1, 3), (209, .goto (-205), 3), (212, .aload_n 0, 1), (213, .getfield 74, 3), (216, .iconst 0, 1), (217, .baload, 1), (218, .ireturn, 1)] : List (Nat × Instr × Nat)).all (fun q => decide (decode cX11_isSaid q.1 = .ok q.2)) = true := by decide +kernel
set_option maxRecDepth 100000 in
set_option maxHeartbeats 4000000 in
theorem M_X11_isSaid {l : Launch} {b : ab_B} {D : va_G} {cA : Nat → ClassId} {f_X11_isLeaf : List Value → ab_H → Option ab_O} (h_X11_isLeaf : ab_M l b D ab_cl cA (ab_E0 b) yX11_isLeaf (Cond.code yX11_isLeaf cX11_isLeaf 6 (some .boolean) :: ab_G) ({ frames := 4, cells := 0, slots := 0, locals := 400 } : Room) f_X11_isLeaf) : ab_M l b D ab_cl cA (ab_E0 b) yX11_isSaid (Cond.code yX11_isSaid cX11_isSaid 5 (some .boolean) :: ab_G) ({ frames := 5, cells := 0, slots := 0, locals := 500 } : Room) (ab_X (ab_T (L_X11_isSaid f_X11_isLeaf)) 5) := by
  refine ab_meth (ret := (some .boolean)) (L_X11_isSaid f_X11_isLeaf) (by decide) rfl fun p e R s m args below meth c o C => ?_
  unfold L_X11_isSaid
  refine List.forall_mem_cons.mpr ⟨ok_iconst C (show decode cX11_isSaid 0 = .ok (.iconst 0, 1) from dk_at dq44_0 (i := 0) rfl) (by decide) rfl, ?_⟩
  refine List.forall_mem_cons.mpr ⟨ok_istore_n C (show decode cX11_isSaid 1 = .ok (.istore_n 2, 1) from dk_at dq44_0 (i := 1) rfl) rfl (by decide) rfl, ?_⟩
  refine List.forall_mem_cons.mpr ⟨ok_iconst C (show decode cX11_isSaid 2 = .ok (.iconst 0, 1) from dk_at dq44_0 (i := 2) rfl) (by decide) rfl, ?_⟩
  refine List.forall_mem_cons.mpr ⟨ok_istore_n C (show decode cX11_isSaid 3 = .ok (.istore_n 3, 1) from dk_at dq44_0 (i := 3) rfl) rfl (by decide) rfl, ?_⟩
  refine List.forall_mem_cons.mpr ⟨ok_iload_n C (show decode cX11_isSaid 4 = .ok (.iload_n 3, 1) from dk_at dq44_0 (i := 4) rfl) rfl rfl, ?_⟩
  refine List.forall_mem_cons.mpr ⟨ok_aload_n C (show decode cX11_isSaid 5 = .ok (.aload_n 0, 1) from dk_at dq44_0 (i := 5) rfl) rfl rfl, ?_⟩
  refine List.forall_mem_cons.mpr ⟨ok_getf C (wi_X11) rfl (by decide) kw_1186 (show decode cX11_isSaid 6 = .ok (.getfield 33, 3) from dk_at dq44_0 (i := 6) rfl) rfl, ?_⟩
  refine List.forall_mem_cons.mpr ⟨ok_sipush C (show decode cX11_isSaid 9 = .ok (.sipush 253, 3) from dk_at dq44_0 (i := 7) rfl) (by decide) rfl, ?_⟩
  refine List.forall_mem_cons.mpr ⟨ok_iaload C (show decode cX11_isSaid 12 = .ok (.iaload, 1) from dk_at dq44_0 (i := 8) rfl) rfl, ?_⟩
  refine List.forall_mem_cons.mpr ⟨ok_icmpge C (show decode cX11_isSaid 13 = .ok (.if_icmp .ge 199, 3) from dk_at dq44_0 (i := 9) rfl) (tg := 212) (by decide) rfl rfl, ?_⟩
  refine List.forall_mem_cons.mpr ⟨ok_sipush C (show decode cX11_isSaid 16 = .ok (.sipush 254, 3) from dk_at dq44_0 (i := 10) rfl) (by decide) rfl, ?_⟩
  refine List.forall_mem_cons.mpr ⟨ok_iconst C (show decode cX11_isSaid 19 = .ok (.iconst 3, 1) from dk_at dq44_0 (i := 11) rfl) (by decide) rfl, ?_⟩
  refine List.forall_mem_cons.mpr ⟨ok_iload_n C (show decode cX11_isSaid 20 = .ok (.iload_n 3, 1) from dk_at dq44_0 (i := 12) rfl) rfl rfl, ?_⟩
  refine List.forall_mem_cons.mpr ⟨ok_imul C (show decode cX11_isSaid 21 = .ok (.imul, 1) from dk_at dq44_0 (i := 13) rfl) rfl, ?_⟩
  refine List.forall_mem_cons.mpr ⟨ok_iadd C (show decode cX11_isSaid 22 = .ok (.iadd, 1) from dk_at dq44_0 (i := 14) rfl) rfl, ?_⟩
  refine List.forall_mem_cons.mpr ⟨ok_istore C (show decode cX11_isSaid 23 = .ok (.istore 4, 2) from dk_at dq44_0 (i := 15) rfl) (by decide) rfl, ?_⟩
  refine List.forall_mem_cons.mpr ⟨ok_aload_n C (show decode cX11_isSaid 25 = .ok (.aload_n 0, 1) from dk_at dq44_1 (i := 0) rfl) rfl rfl, ?_⟩
  refine List.forall_mem_cons.mpr ⟨ok_getf C (wi_X11) rfl (by decide) kw_1186 (show decode cX11_isSaid 26 = .ok (.getfield 33, 3) from dk_at dq44_1 (i := 1) rfl) rfl, ?_⟩
  refine List.forall_mem_cons.mpr ⟨ok_iload C (show decode cX11_isSaid 29 = .ok (.iload 4, 2) from dk_at dq44_1 (i := 2) rfl) rfl, ?_⟩
  refine List.forall_mem_cons.mpr ⟨ok_iaload C (show decode cX11_isSaid 31 = .ok (.iaload, 1) from dk_at dq44_1 (i := 3) rfl) rfl, ?_⟩
  refine List.forall_mem_cons.mpr ⟨ok_bipush C (show decode cX11_isSaid 32 = .ok (.bipush 20, 2) from dk_at dq44_1 (i := 4) rfl) (by decide) rfl, ?_⟩
  refine List.forall_mem_cons.mpr ⟨ok_icmpne C (show decode cX11_isSaid 34 = .ok (.if_icmp .ne 30, 3) from dk_at dq44_1 (i := 5) rfl) (tg := 64) (by decide) rfl rfl, ?_⟩
  refine List.forall_mem_cons.mpr ⟨ok_aload_n C (show decode cX11_isSaid 37 = .ok (.aload_n 0, 1) from dk_at dq44_1 (i := 6) rfl) rfl rfl, ?_⟩
  refine List.forall_mem_cons.mpr ⟨ok_getf C (wi_X11) rfl (by decide) kw_1219 (show decode cX11_isSaid 38 = .ok (.getfield 74, 3) from dk_at dq44_1 (i := 7) rfl) rfl, ?_⟩
  refine List.forall_mem_cons.mpr ⟨ok_iload_n C (show decode cX11_isSaid 41 = .ok (.iload_n 2, 1) from dk_at dq44_1 (i := 8) rfl) rfl rfl, ?_⟩
  refine List.forall_mem_cons.mpr ⟨ok_iconst C (show decode cX11_isSaid 42 = .ok (.iconst 1, 1) from dk_at dq44_1 (i := 9) rfl) (by decide) rfl, ?_⟩
  refine List.forall_mem_cons.mpr ⟨ok_isub C (show decode cX11_isSaid 43 = .ok (.isub, 1) from dk_at dq44_1 (i := 10) rfl) rfl, ?_⟩
  refine List.forall_mem_cons.mpr ⟨ok_aload_n C (show decode cX11_isSaid 44 = .ok (.aload_n 0, 1) from dk_at dq44_1 (i := 11) rfl) rfl rfl, ?_⟩
  refine List.forall_mem_cons.mpr ⟨ok_getf C (wi_X11) rfl (by decide) kw_1219 (show decode cX11_isSaid 45 = .ok (.getfield 74, 3) from dk_at dq44_1 (i := 12) rfl) rfl, ?_⟩
  refine List.forall_mem_cons.mpr ⟨ok_iload_n C (show decode cX11_isSaid 48 = .ok (.iload_n 2, 1) from dk_at dq44_1 (i := 13) rfl) rfl rfl, ?_⟩
  refine List.forall_mem_cons.mpr ⟨ok_iconst C (show decode cX11_isSaid 49 = .ok (.iconst 1, 1) from dk_at dq44_1 (i := 14) rfl) (by decide) rfl, ?_⟩
  refine List.forall_mem_cons.mpr ⟨ok_isub C (show decode cX11_isSaid 50 = .ok (.isub, 1) from dk_at dq44_1 (i := 15) rfl) rfl, ?_⟩
  refine List.forall_mem_cons.mpr ⟨ok_zaload C (show decode cX11_isSaid 51 = .ok (.baload, 1) from dk_at dq44_2 (i := 0) rfl) rfl, ?_⟩
  refine List.forall_mem_cons.mpr ⟨ok_ifne C (show decode cX11_isSaid 52 = .ok (.ifCond .ne 7, 3) from dk_at dq44_2 (i := 1) rfl) (tg := 59) (by decide) rfl rfl, ?_⟩
  refine List.forall_mem_cons.mpr ⟨ok_iconst C (show decode cX11_isSaid 55 = .ok (.iconst 1, 1) from dk_at dq44_2 (i := 2) rfl) (by decide) rfl, ?_⟩
  refine List.forall_mem_cons.mpr ⟨ok_goto C (show decode cX11_isSaid 56 = .ok (.goto 4, 3) from dk_at dq44_2 (i := 3) rfl) (tg := 60) (by decide) rfl, ?_⟩
  refine List.forall_mem_cons.mpr ⟨ok_iconst C (show decode cX11_isSaid 59 = .ok (.iconst 0, 1) from dk_at dq44_2 (i := 4) rfl) (by decide) rfl, ?_⟩
  refine List.forall_mem_cons.mpr ⟨ok_zastore C (show decode cX11_isSaid 60 = .ok (.bastore, 1) from dk_at dq44_2 (i := 5) rfl) rfl, ?_⟩
  refine List.forall_mem_cons.mpr ⟨ok_goto C (show decode cX11_isSaid 61 = .ok (.goto 145, 3) from dk_at dq44_2 (i := 6) rfl) (tg := 206) (by decide) rfl, ?_⟩
  refine List.forall_mem_cons.mpr ⟨ok_aload_n C (show decode cX11_isSaid 64 = .ok (.aload_n 0, 1) from dk_at dq44_2 (i := 7) rfl) rfl rfl, ?_⟩
  refine List.forall_mem_cons.mpr ⟨ok_getf C (wi_X11) rfl (by decide) kw_1186 (show decode cX11_isSaid 65 = .ok (.getfield 33, 3) from dk_at dq44_2 (i := 8) rfl) rfl, ?_⟩
  refine List.forall_mem_cons.mpr ⟨ok_iload C (show decode cX11_isSaid 68 = .ok (.iload 4, 2) from dk_at dq44_2 (i := 9) rfl) rfl, ?_⟩
  refine List.forall_mem_cons.mpr ⟨ok_iaload C (show decode cX11_isSaid 70 = .ok (.iaload, 1) from dk_at dq44_2 (i := 10) rfl) rfl, ?_⟩
  refine List.forall_mem_cons.mpr ⟨ok_bipush C (show decode cX11_isSaid 71 = .ok (.bipush 21, 2) from dk_at dq44_2 (i := 11) rfl) (by decide) rfl, ?_⟩
  refine List.forall_mem_cons.mpr ⟨ok_icmpeq C (show decode cX11_isSaid 73 = .ok (.if_icmp .eq 15, 3) from dk_at dq44_2 (i := 12) rfl) (tg := 88) (by decide) rfl rfl, ?_⟩
  refine List.forall_mem_cons.mpr ⟨ok_aload_n C (show decode cX11_isSaid 76 = .ok (.aload_n 0, 1) from dk_at dq44_2 (i := 13) rfl) rfl rfl, ?_⟩
  refine List.forall_mem_cons.mpr ⟨ok_getf C (wi_X11) rfl (by decide) kw_1186 (show decode cX11_isSaid 77 = .ok (.getfield 33, 3) from dk_at dq44_2 (i := 14) rfl) rfl, ?_⟩
  refine List.forall_mem_cons.mpr ⟨ok_iload C (show decode cX11_isSaid 80 = .ok (.iload 4, 2) from dk_at dq44_2 (i := 15) rfl) rfl, ?_⟩
  refine List.forall_mem_cons.mpr ⟨ok_iaload C (show decode cX11_isSaid 82 = .ok (.iaload, 1) from dk_at dq44_3 (i := 0) rfl) rfl, ?_⟩
  refine List.forall_mem_cons.mpr ⟨ok_bipush C (show decode cX11_isSaid 83 = .ok (.bipush 22, 2) from dk_at dq44_3 (i := 1) rfl) (by decide) rfl, ?_⟩
  refine List.forall_mem_cons.mpr ⟨ok_icmpne C (show decode cX11_isSaid 85 = .ok (.if_icmp .ne 82, 3) from dk_at dq44_3 (i := 2) rfl) (tg := 167) (by decide) rfl rfl, ?_⟩
  refine List.forall_mem_cons.mpr ⟨ok_iinc C (show decode cX11_isSaid 88 = .ok (.iinc 2 (-1), 3) from dk_at dq44_3 (i := 3) rfl) (by decide) (by decide) rfl, ?_⟩
  refine List.forall_mem_cons.mpr ⟨ok_aload_n C (show decode cX11_isSaid 91 = .ok (.aload_n 0, 1) from dk_at dq44_3 (i := 4) rfl) rfl rfl, ?_⟩
  refine List.forall_mem_cons.mpr ⟨ok_getf C (wi_X11) rfl (by decide) kw_1219 (show decode cX11_isSaid 92 = .ok (.getfield 74, 3) from dk_at dq44_3 (i := 5) rfl) rfl, ?_⟩
  refine List.forall_mem_cons.mpr ⟨ok_iload_n C (show decode cX11_isSaid 95 = .ok (.iload_n 2, 1) from dk_at dq44_3 (i := 6) rfl) rfl rfl, ?_⟩
  refine List.forall_mem_cons.mpr ⟨ok_iconst C (show decode cX11_isSaid 96 = .ok (.iconst 1, 1) from dk_at dq44_3 (i := 7) rfl) (by decide) rfl, ?_⟩
  refine List.forall_mem_cons.mpr ⟨ok_isub C (show decode cX11_isSaid 97 = .ok (.isub, 1) from dk_at dq44_3 (i := 8) rfl) rfl, ?_⟩
  refine List.forall_mem_cons.mpr ⟨ok_aload_n C (show decode cX11_isSaid 98 = .ok (.aload_n 0, 1) from dk_at dq44_3 (i := 9) rfl) rfl rfl, ?_⟩
  refine List.forall_mem_cons.mpr ⟨ok_getf C (wi_X11) rfl (by decide) kw_1186 (show decode cX11_isSaid 99 = .ok (.getfield 33, 3) from dk_at dq44_3 (i := 10) rfl) rfl, ?_⟩
  refine List.forall_mem_cons.mpr ⟨ok_iload C (show decode cX11_isSaid 102 = .ok (.iload 4, 2) from dk_at dq44_3 (i := 11) rfl) rfl, ?_⟩
  refine List.forall_mem_cons.mpr ⟨ok_iaload C (show decode cX11_isSaid 104 = .ok (.iaload, 1) from dk_at dq44_3 (i := 12) rfl) rfl, ?_⟩
  refine List.forall_mem_cons.mpr ⟨ok_bipush C (show decode cX11_isSaid 105 = .ok (.bipush 21, 2) from dk_at dq44_3 (i := 13) rfl) (by decide) rfl, ?_⟩
  refine List.forall_mem_cons.mpr ⟨ok_icmpne C (show decode cX11_isSaid 107 = .ok (.if_icmp .ne 31, 3) from dk_at dq44_3 (i := 14) rfl) (tg := 138) (by decide) rfl rfl, ?_⟩
  refine List.forall_mem_cons.mpr ⟨ok_aload_n C (show decode cX11_isSaid 110 = .ok (.aload_n 0, 1) from dk_at dq44_3 (i := 15) rfl) rfl rfl, ?_⟩
  refine List.forall_mem_cons.mpr ⟨ok_getf C (wi_X11) rfl (by decide) kw_1219 (show decode cX11_isSaid 111 = .ok (.getfield 74, 3) from dk_at dq44_4 (i := 0) rfl) rfl, ?_⟩
  refine List.forall_mem_cons.mpr ⟨ok_iload_n C (show decode cX11_isSaid 114 = .ok (.iload_n 2, 1) from dk_at dq44_4 (i := 1) rfl) rfl rfl, ?_⟩
  refine List.forall_mem_cons.mpr ⟨ok_iconst C (show decode cX11_isSaid 115 = .ok (.iconst 1, 1) from dk_at dq44_4 (i := 2) rfl) (by decide) rfl, ?_⟩
  refine List.forall_mem_cons.mpr ⟨ok_isub C (show decode cX11_isSaid 116 = .ok (.isub, 1) from dk_at dq44_4 (i := 3) rfl) rfl, ?_⟩
  refine List.forall_mem_cons.mpr ⟨ok_zaload C (show decode cX11_isSaid 117 = .ok (.baload, 1) from dk_at dq44_4 (i := 4) rfl) rfl, ?_⟩
  refine List.forall_mem_cons.mpr ⟨ok_ifeq C (show decode cX11_isSaid 118 = .ok (.ifCond .eq 16, 3) from dk_at dq44_4 (i := 5) rfl) (tg := 134) (by decide) rfl rfl, ?_⟩
  refine List.forall_mem_cons.mpr ⟨ok_aload_n C (show decode cX11_isSaid 121 = .ok (.aload_n 0, 1) from dk_at dq44_4 (i := 6) rfl) rfl rfl, ?_⟩
  refine List.forall_mem_cons.mpr ⟨ok_getf C (wi_X11) rfl (by decide) kw_1219 (show decode cX11_isSaid 122 = .ok (.getfield 74, 3) from dk_at dq44_4 (i := 7) rfl) rfl, ?_⟩
  refine List.forall_mem_cons.mpr ⟨ok_iload_n C (show decode cX11_isSaid 125 = .ok (.iload_n 2, 1) from dk_at dq44_4 (i := 8) rfl) rfl rfl, ?_⟩
  refine List.forall_mem_cons.mpr ⟨ok_zaload C (show decode cX11_isSaid 126 = .ok (.baload, 1) from dk_at dq44_4 (i := 9) rfl) rfl, ?_⟩
  refine List.forall_mem_cons.mpr ⟨ok_ifeq C (show decode cX11_isSaid 127 = .ok (.ifCond .eq 7, 3) from dk_at dq44_4 (i := 10) rfl) (tg := 134) (by decide) rfl rfl, ?_⟩
  refine List.forall_mem_cons.mpr ⟨ok_iconst C (show decode cX11_isSaid 130 = .ok (.iconst 1, 1) from dk_at dq44_4 (i := 11) rfl) (by decide) rfl, ?_⟩
  refine List.forall_mem_cons.mpr ⟨ok_goto C (show decode cX11_isSaid 131 = .ok (.goto 32, 3) from dk_at dq44_4 (i := 12) rfl) (tg := 163) (by decide) rfl, ?_⟩
  refine List.forall_mem_cons.mpr ⟨ok_iconst C (show decode cX11_isSaid 134 = .ok (.iconst 0, 1) from dk_at dq44_4 (i := 13) rfl) (by decide) rfl, ?_⟩
  refine List.forall_mem_cons.mpr ⟨ok_goto C (show decode cX11_isSaid 135 = .ok (.goto 28, 3) from dk_at dq44_4 (i := 14) rfl) (tg := 163) (by decide) rfl, ?_⟩
  refine List.forall_mem_cons.mpr ⟨ok_aload_n C (show decode cX11_isSaid 138 = .ok (.aload_n 0, 1) from dk_at dq44_4 (i := 15) rfl) rfl rfl, ?_⟩
  refine List.forall_mem_cons.mpr ⟨ok_getf C (wi_X11) rfl (by decide) kw_1219 (show decode cX11_isSaid 139 = .ok (.getfield 74, 3) from dk_at dq44_5 (i := 0) rfl) rfl, ?_⟩
  refine List.forall_mem_cons.mpr ⟨ok_iload_n C (show decode cX11_isSaid 142 = .ok (.iload_n 2, 1) from dk_at dq44_5 (i := 1) rfl) rfl rfl, ?_⟩
  refine List.forall_mem_cons.mpr ⟨ok_iconst C (show decode cX11_isSaid 143 = .ok (.iconst 1, 1) from dk_at dq44_5 (i := 2) rfl) (by decide) rfl, ?_⟩
  refine List.forall_mem_cons.mpr ⟨ok_isub C (show decode cX11_isSaid 144 = .ok (.isub, 1) from dk_at dq44_5 (i := 3) rfl) rfl, ?_⟩
  refine List.forall_mem_cons.mpr ⟨ok_zaload C (show decode cX11_isSaid 145 = .ok (.baload, 1) from dk_at dq44_5 (i := 4) rfl) rfl, ?_⟩
  refine List.forall_mem_cons.mpr ⟨ok_ifne C (show decode cX11_isSaid 146 = .ok (.ifCond .ne 12, 3) from dk_at dq44_5 (i := 5) rfl) (tg := 158) (by decide) rfl rfl, ?_⟩
  refine List.forall_mem_cons.mpr ⟨ok_aload_n C (show decode cX11_isSaid 149 = .ok (.aload_n 0, 1) from dk_at dq44_5 (i := 6) rfl) rfl rfl, ?_⟩
  refine List.forall_mem_cons.mpr ⟨ok_getf C (wi_X11) rfl (by decide) kw_1219 (show decode cX11_isSaid 150 = .ok (.getfield 74, 3) from dk_at dq44_5 (i := 7) rfl) rfl, ?_⟩
  refine List.forall_mem_cons.mpr ⟨ok_iload_n C (show decode cX11_isSaid 153 = .ok (.iload_n 2, 1) from dk_at dq44_5 (i := 8) rfl) rfl rfl, ?_⟩
  refine List.forall_mem_cons.mpr ⟨ok_zaload C (show decode cX11_isSaid 154 = .ok (.baload, 1) from dk_at dq44_5 (i := 9) rfl) rfl, ?_⟩
  refine List.forall_mem_cons.mpr ⟨ok_ifeq C (show decode cX11_isSaid 155 = .ok (.ifCond .eq 7, 3) from dk_at dq44_5 (i := 10) rfl) (tg := 162) (by decide) rfl rfl, ?_⟩
  refine List.forall_mem_cons.mpr ⟨ok_iconst C (show decode cX11_isSaid 158 = .ok (.iconst 1, 1) from dk_at dq44_5 (i := 11) rfl) (by decide) rfl, ?_⟩
  refine List.forall_mem_cons.mpr ⟨ok_goto C (show decode cX11_isSaid 159 = .ok (.goto 4, 3) from dk_at dq44_5 (i := 12) rfl) (tg := 163) (by decide) rfl, ?_⟩
  refine List.forall_mem_cons.mpr ⟨ok_iconst C (show decode cX11_isSaid 162 = .ok (.iconst 0, 1) from dk_at dq44_5 (i := 13) rfl) (by decide) rfl, ?_⟩
  refine List.forall_mem_cons.mpr ⟨ok_zastore C (show decode cX11_isSaid 163 = .ok (.bastore, 1) from dk_at dq44_5 (i := 14) rfl) rfl, ?_⟩
  refine List.forall_mem_cons.mpr ⟨ok_goto C (show decode cX11_isSaid 164 = .ok (.goto 42, 3) from dk_at dq44_5 (i := 15) rfl) (tg := 206) (by decide) rfl, ?_⟩
  refine List.forall_mem_cons.mpr ⟨ok_aload_n C (show decode cX11_isSaid 167 = .ok (.aload_n 0, 1) from dk_at dq44_6 (i := 0) rfl) rfl rfl, ?_⟩
  refine List.forall_mem_cons.mpr ⟨ok_getf C (wi_X11) rfl (by decide) kw_1219 (show decode cX11_isSaid 168 = .ok (.getfield 74, 3) from dk_at dq44_6 (i := 1) rfl) rfl, ?_⟩
  refine List.forall_mem_cons.mpr ⟨ok_iload_n C (show decode cX11_isSaid 171 = .ok (.iload_n 2, 1) from dk_at dq44_6 (i := 2) rfl) rfl rfl, ?_⟩
  refine List.forall_mem_cons.mpr ⟨ok_aload_n C (show decode cX11_isSaid 172 = .ok (.aload_n 0, 1) from dk_at dq44_6 (i := 3) rfl) rfl rfl, ?_⟩
  refine List.forall_mem_cons.mpr ⟨ok_iload_n C (show decode cX11_isSaid 173 = .ok (.iload_n 1, 1) from dk_at dq44_6 (i := 4) rfl) rfl rfl, ?_⟩
  refine List.forall_mem_cons.mpr ⟨ok_aload_n C (show decode cX11_isSaid 174 = .ok (.aload_n 0, 1) from dk_at dq44_6 (i := 5) rfl) rfl rfl, ?_⟩
  refine List.forall_mem_cons.mpr ⟨ok_getf C (wi_X11) rfl (by decide) kw_1186 (show decode cX11_isSaid 175 = .ok (.getfield 33, 3) from dk_at dq44_6 (i := 6) rfl) rfl, ?_⟩
  refine List.forall_mem_cons.mpr ⟨ok_iload C (show decode cX11_isSaid 178 = .ok (.iload 4, 2) from dk_at dq44_6 (i := 7) rfl) rfl, ?_⟩
  refine List.forall_mem_cons.mpr ⟨ok_iaload C (show decode cX11_isSaid 180 = .ok (.iaload, 1) from dk_at dq44_6 (i := 8) rfl) rfl, ?_⟩
  refine List.forall_mem_cons.mpr ⟨ok_aload_n C (show decode cX11_isSaid 181 = .ok (.aload_n 0, 1) from dk_at dq44_6 (i := 9) rfl) rfl rfl, ?_⟩
  refine List.forall_mem_cons.mpr ⟨ok_getf C (wi_X11) rfl (by decide) kw_1186 (show decode cX11_isSaid 182 = .ok (.getfield 33, 3) from dk_at dq44_6 (i := 10) rfl) rfl, ?_⟩
  refine List.forall_mem_cons.mpr ⟨ok_iload C (show decode cX11_isSaid 185 = .ok (.iload 4, 2) from dk_at dq44_6 (i := 11) rfl) rfl, ?_⟩
  refine List.forall_mem_cons.mpr ⟨ok_iconst C (show decode cX11_isSaid 187 = .ok (.iconst 1, 1) from dk_at dq44_6 (i := 12) rfl) (by decide) rfl, ?_⟩
  refine List.forall_mem_cons.mpr ⟨ok_iadd C (show decode cX11_isSaid 188 = .ok (.iadd, 1) from dk_at dq44_6 (i := 13) rfl) rfl, ?_⟩
  refine List.forall_mem_cons.mpr ⟨ok_iaload C (show decode cX11_isSaid 189 = .ok (.iaload, 1) from dk_at dq44_6 (i := 14) rfl) rfl, ?_⟩
  refine List.forall_mem_cons.mpr ⟨ok_aload_n C (show decode cX11_isSaid 190 = .ok (.aload_n 0, 1) from dk_at dq44_6 (i := 15) rfl) rfl rfl, ?_⟩
  refine List.forall_mem_cons.mpr ⟨ok_getf C (wi_X11) rfl (by decide) kw_1186 (show decode cX11_isSaid 191 = .ok (.getfield 33, 3) from dk_at dq44_7 (i := 0) rfl) rfl, ?_⟩
  refine List.forall_mem_cons.mpr ⟨ok_iload C (show decode cX11_isSaid 194 = .ok (.iload 4, 2) from dk_at dq44_7 (i := 1) rfl) rfl, ?_⟩
  refine List.forall_mem_cons.mpr ⟨ok_iconst C (show decode cX11_isSaid 196 = .ok (.iconst 2, 1) from dk_at dq44_7 (i := 2) rfl) (by decide) rfl, ?_⟩
  refine List.forall_mem_cons.mpr ⟨ok_iadd C (show decode cX11_isSaid 197 = .ok (.iadd, 1) from dk_at dq44_7 (i := 3) rfl) rfl, ?_⟩
  refine List.forall_mem_cons.mpr ⟨ok_iaload C (show decode cX11_isSaid 198 = .ok (.iaload, 1) from dk_at dq44_7 (i := 4) rfl) rfl, ?_⟩
  refine List.forall_mem_cons.mpr ⟨ok_callV C h_X11_isLeaf ⟨rfl, rfl⟩ rfl kw_1700 kw_1697 kw_1699 kp_103 kw_11 rfl ds_X11_isLeaf ⟨by decide, by decide⟩ (show decode cX11_isSaid 199 = .ok (.invokevirtual 395, 3) from dk_at dq44_7 (i := 5) rfl) rfl, ?_⟩
  refine List.forall_mem_cons.mpr ⟨ok_zastore C (show decode cX11_isSaid 202 = .ok (.bastore, 1) from dk_at dq44_7 (i := 6) rfl) rfl, ?_⟩
  refine List.forall_mem_cons.mpr ⟨ok_iinc C (show decode cX11_isSaid 203 = .ok (.iinc 2 1, 3) from dk_at dq44_7 (i := 7) rfl) (by decide) (by decide) rfl, ?_⟩
  refine List.forall_mem_cons.mpr ⟨ok_iinc C (show decode cX11_isSaid 206 = .ok (.iinc 3 1, 3) from dk_at dq44_7 (i := 8) rfl) (by decide) (by decide) rfl, ?_⟩
  refine List.forall_mem_cons.mpr ⟨ok_goto C (show decode cX11_isSaid 209 = .ok (.goto (-205), 3) from dk_at dq44_7 (i := 9) rfl) (tg := 4) (by decide) rfl, ?_⟩
  refine List.forall_mem_cons.mpr ⟨ok_aload_n C (show decode cX11_isSaid 212 = .ok (.aload_n 0, 1) from dk_at dq44_7 (i := 10) rfl) rfl rfl, ?_⟩
  refine List.forall_mem_cons.mpr ⟨ok_getf C (wi_X11) rfl (by decide) kw_1219 (show decode cX11_isSaid 213 = .ok (.getfield 74, 3) from dk_at dq44_7 (i := 11) rfl) rfl, ?_⟩
  refine List.forall_mem_cons.mpr ⟨ok_iconst C (show decode cX11_isSaid 216 = .ok (.iconst 0, 1) from dk_at dq44_7 (i := 12) rfl) (by decide) rfl, ?_⟩
  refine List.forall_mem_cons.mpr ⟨ok_zaload C (show decode cX11_isSaid 217 = .ok (.baload, 1) from dk_at dq44_7 (i := 13) rfl) rfl, ?_⟩
  refine List.forall_mem_cons.mpr ⟨ok_zret C rfl (show decode cX11_isSaid 218 = .ok (.ireturn, 1) from dk_at dq44_7 (i := 14) rfl), ?_⟩
  exact fun _ h => absurd h List.not_mem_nil
def L_X11_said (f_X11_isSaid : List Value → ab_H → Option ab_O) : List (Nat × ab_A) := [
  (0, ab_nx 1 (ab_aload 0)),
  (1, ab_nx 2 (ab_lit (.int 0))),
  (2, ab_nx 5 (ab_putf 11 0 0)),
  (5, ab_nx 6 (ab_aload 0)),
  (6, ab_nx 9 (ab_getf 11 6)),
  (9, ab_nx 12 (ab_lit (.int 253))),
  (12, ab_nx 13 (ab_ald 1)),
  (13, ab_if 16 21 (fun x => decide (x = 0))),
  (16, ab_nx 17 (ab_iload 1)),
  (17, ab_nx 18 (ab_lit (.int (-1)))),
  (18, ab_icmp 21 23 (fun x y => decide (y ≤ x))),
  (21, ab_nx 22 (ab_lit (.int (-1)))),
  (22, ab_ret 0 0),
  (23, ab_nx 24 (ab_lit (.int 0))),
  (24, ab_nx 25 (ab_istore 2)),
  (25, ab_nx 26 (ab_lit (.int 0))),
  (26, ab_nx 27 (ab_istore 3)),
  (27, ab_nx 28 (ab_iload 3)),
  (28, ab_nx 29 (ab_aload 0)),
  (29, ab_nx 32 (ab_getf 11 6)),
  (32, ab_nx 33 (ab_lit (.int 0))),
  (33, ab_nx 34 (ab_ald 1)),
  (34, ab_icmp 37 64 (fun x y => decide (y ≤ x))),
  (37, ab_nx 38 (ab_aload 0)),
  (38, ab_nx 39 (ab_iload 3)),
  (39, ab_nx 42 (ab_callV 2 11 f_X11_isSaid 0 0 0 0)),
  (42, ab_if 45 48 (fun x => !decide (x = 0))),
  (45, ab_goto 58),
  (48, ab_nx 49 (ab_iload 2)),
  (49, ab_nx 50 (ab_iload 1)),
  (50, ab_icmp 53 55 (fun x y => !decide (x = y))),
  (53, ab_nx 54 (ab_iload 3)),
  (54, ab_ret 0 0),
  (55, ab_nx 58 (ab_iinc 2 1)),
  (58, ab_nx 61 (ab_iinc 3 1)),
  (61, ab_goto 27),
  (64, ab_nx 65 (ab_iload 1)),
  (65, ab_nx 66 (ab_lit (.int (-1)))),
  (66, ab_icmp 69 73 (fun x y => !decide (x = y))),
  (69, ab_nx 70 (ab_iload 2)),
  (70, ab_goto 74),
  (73, ab_nx 74 (ab_lit (.int (-1)))),
  (74, ab_ret 0 0)]
set_option maxRecDepth 100000 in
theorem dq44_8 : ([(0, .aload_n 0, 1), (1, .iconst 0, 1), (2, .putfield 1, 3), (5, .aload_n 0, 1), (6, .getfield 33, 3), (9, .sipush 253, 3), (12, .iaload, 1), (13, .ifCond .eq 8, 3), (16, .iload_n 1, 1), (17, .iconst (-1), 1), (18, .if_icmp .ge 5, 3), (21, .iconst (-1), 1), (22, .ireturn, 1), (23, .iconst 0, 1), (24, .istore_n 2, 1), (25, .iconst 0, 1)] : List (Nat × Instr × Nat)).all (fun q => decide (decode cX11_said q.1 = .ok q.2)) = true := by decide +kernel
set_option maxRecDepth 100000 in
theorem dq44_9 : ([(26, .istore_n 3, 1), (27, .iload_n 3, 1), (28, .aload_n 0, 1), (29, .getfield 33, 3), (32, .iconst 0, 1), (33, .iaload, 1), (34, .if_icmp .ge 30, 3), (37, .aload_n 0, 1), (38, .iload_n 3, 1), (39, .invokevirtual 399, 3), (42, .ifCond .ne 6, 3), (45, .goto 13, 3), (48, .iload_n 2, 1), (49, .iload_n 1, 1), (50, .if_icmp .ne 5, 3), (53, .iload_n 3, 1)] : List (Nat × Instr × Nat)).all (fun q => decide (decode cX11_said q.1 = .ok q.2)) = true := by decide +kernel
set_option maxRecDepth 100000 in
theorem dq44_10 : ([(54, .ireturn, 1), (55, .iinc 2 1, 3), (58, .iinc 3 1, 3), (61, .goto (-34), 3), (64, .iload_n 1, 1), (65, .iconst (-1), 1), (66, .if_icmp .ne 7, 3), (69, .iload_n 2, 1), (70, .goto 4, 3), (73, .iconst (-1), 1), (74, .ireturn, 1)] : List (Nat × Instr × Nat)).all (fun q => decide (decode cX11_said q.1 = .ok q.2)) = true := by decide +kernel
set_option maxRecDepth 100000 in
set_option maxHeartbeats 4000000 in
theorem M_X11_said {l : Launch} {b : ab_B} {D : va_G} {cA : Nat → ClassId} {f_X11_isSaid : List Value → ab_H → Option ab_O} (h_X11_isSaid : ab_M l b D ab_cl cA (ab_E0 b) yX11_isSaid (Cond.code yX11_isSaid cX11_isSaid 5 (some .boolean) :: ab_G) ({ frames := 5, cells := 0, slots := 0, locals := 500 } : Room) f_X11_isSaid) : ab_M l b D ab_cl cA (ab_E0 b) yX11_said (Cond.code yX11_said cX11_said 4 (some .int) :: ab_G) ({ frames := 6, cells := 0, slots := 0, locals := 600 } : Room) (ab_X (ab_T (L_X11_said f_X11_isSaid)) 4) := by
  refine ab_meth (ret := (some .int)) (L_X11_said f_X11_isSaid) (by decide) rfl fun p e R s m args below meth c o C => ?_
  unfold L_X11_said
  refine List.forall_mem_cons.mpr ⟨ok_aload_n C (show decode cX11_said 0 = .ok (.aload_n 0, 1) from dk_at dq44_8 (i := 0) rfl) rfl rfl, ?_⟩
  refine List.forall_mem_cons.mpr ⟨ok_iconst C (show decode cX11_said 1 = .ok (.iconst 0, 1) from dk_at dq44_8 (i := 1) rfl) (by decide) rfl, ?_⟩
  refine List.forall_mem_cons.mpr ⟨ok_putf C (wi_X11) tyX11 tyX11_ok nmX11 rfl (by decide) kw_1180 (Or.inl rfl) (Or.inl ⟨rfl, rfl⟩) (show decode cX11_said 2 = .ok (.putfield 1, 3) from dk_at dq44_8 (i := 2) rfl) rfl, ?_⟩
  refine List.forall_mem_cons.mpr ⟨ok_aload_n C (show decode cX11_said 5 = .ok (.aload_n 0, 1) from dk_at dq44_8 (i := 3) rfl) rfl rfl, ?_⟩
  refine List.forall_mem_cons.mpr ⟨ok_getf C (wi_X11) rfl (by decide) kw_1186 (show decode cX11_said 6 = .ok (.getfield 33, 3) from dk_at dq44_8 (i := 4) rfl) rfl, ?_⟩
  refine List.forall_mem_cons.mpr ⟨ok_sipush C (show decode cX11_said 9 = .ok (.sipush 253, 3) from dk_at dq44_8 (i := 5) rfl) (by decide) rfl, ?_⟩
  refine List.forall_mem_cons.mpr ⟨ok_iaload C (show decode cX11_said 12 = .ok (.iaload, 1) from dk_at dq44_8 (i := 6) rfl) rfl, ?_⟩
  refine List.forall_mem_cons.mpr ⟨ok_ifeq C (show decode cX11_said 13 = .ok (.ifCond .eq 8, 3) from dk_at dq44_8 (i := 7) rfl) (tg := 21) (by decide) rfl rfl, ?_⟩
  refine List.forall_mem_cons.mpr ⟨ok_iload_n C (show decode cX11_said 16 = .ok (.iload_n 1, 1) from dk_at dq44_8 (i := 8) rfl) rfl rfl, ?_⟩
  refine List.forall_mem_cons.mpr ⟨ok_iconst C (show decode cX11_said 17 = .ok (.iconst (-1), 1) from dk_at dq44_8 (i := 9) rfl) (by decide) rfl, ?_⟩
  refine List.forall_mem_cons.mpr ⟨ok_icmpge C (show decode cX11_said 18 = .ok (.if_icmp .ge 5, 3) from dk_at dq44_8 (i := 10) rfl) (tg := 23) (by decide) rfl rfl, ?_⟩
  refine List.forall_mem_cons.mpr ⟨ok_iconst C (show decode cX11_said 21 = .ok (.iconst (-1), 1) from dk_at dq44_8 (i := 11) rfl) (by decide) rfl, ?_⟩
  refine List.forall_mem_cons.mpr ⟨ok_ret C rfl (show decode cX11_said 22 = .ok (.ireturn, 1) from dk_at dq44_8 (i := 12) rfl), ?_⟩
  refine List.forall_mem_cons.mpr ⟨ok_iconst C (show decode cX11_said 23 = .ok (.iconst 0, 1) from dk_at dq44_8 (i := 13) rfl) (by decide) rfl, ?_⟩
  refine List.forall_mem_cons.mpr ⟨ok_istore_n C (show decode cX11_said 24 = .ok (.istore_n 2, 1) from dk_at dq44_8 (i := 14) rfl) rfl (by decide) rfl, ?_⟩
  refine List.forall_mem_cons.mpr ⟨ok_iconst C (show decode cX11_said 25 = .ok (.iconst 0, 1) from dk_at dq44_8 (i := 15) rfl) (by decide) rfl, ?_⟩
  refine List.forall_mem_cons.mpr ⟨ok_istore_n C (show decode cX11_said 26 = .ok (.istore_n 3, 1) from dk_at dq44_9 (i := 0) rfl) rfl (by decide) rfl, ?_⟩
  refine List.forall_mem_cons.mpr ⟨ok_iload_n C (show decode cX11_said 27 = .ok (.iload_n 3, 1) from dk_at dq44_9 (i := 1) rfl) rfl rfl, ?_⟩
  refine List.forall_mem_cons.mpr ⟨ok_aload_n C (show decode cX11_said 28 = .ok (.aload_n 0, 1) from dk_at dq44_9 (i := 2) rfl) rfl rfl, ?_⟩
  refine List.forall_mem_cons.mpr ⟨ok_getf C (wi_X11) rfl (by decide) kw_1186 (show decode cX11_said 29 = .ok (.getfield 33, 3) from dk_at dq44_9 (i := 3) rfl) rfl, ?_⟩
  refine List.forall_mem_cons.mpr ⟨ok_iconst C (show decode cX11_said 32 = .ok (.iconst 0, 1) from dk_at dq44_9 (i := 4) rfl) (by decide) rfl, ?_⟩
  refine List.forall_mem_cons.mpr ⟨ok_iaload C (show decode cX11_said 33 = .ok (.iaload, 1) from dk_at dq44_9 (i := 5) rfl) rfl, ?_⟩
  refine List.forall_mem_cons.mpr ⟨ok_icmpge C (show decode cX11_said 34 = .ok (.if_icmp .ge 30, 3) from dk_at dq44_9 (i := 6) rfl) (tg := 64) (by decide) rfl rfl, ?_⟩
  refine List.forall_mem_cons.mpr ⟨ok_aload_n C (show decode cX11_said 37 = .ok (.aload_n 0, 1) from dk_at dq44_9 (i := 7) rfl) rfl rfl, ?_⟩
  refine List.forall_mem_cons.mpr ⟨ok_iload_n C (show decode cX11_said 38 = .ok (.iload_n 3, 1) from dk_at dq44_9 (i := 8) rfl) rfl rfl, ?_⟩
  refine List.forall_mem_cons.mpr ⟨ok_callV C h_X11_isSaid ⟨rfl, rfl⟩ rfl kw_1696 kw_1693 kw_1695 kp_102 kw_11 rfl ds_X11_isSaid ⟨by decide, by decide⟩ (show decode cX11_said 39 = .ok (.invokevirtual 399, 3) from dk_at dq44_9 (i := 9) rfl) rfl, ?_⟩
  refine List.forall_mem_cons.mpr ⟨ok_ifne C (show decode cX11_said 42 = .ok (.ifCond .ne 6, 3) from dk_at dq44_9 (i := 10) rfl) (tg := 48) (by decide) rfl rfl, ?_⟩
  refine List.forall_mem_cons.mpr ⟨ok_goto C (show decode cX11_said 45 = .ok (.goto 13, 3) from dk_at dq44_9 (i := 11) rfl) (tg := 58) (by decide) rfl, ?_⟩
  refine List.forall_mem_cons.mpr ⟨ok_iload_n C (show decode cX11_said 48 = .ok (.iload_n 2, 1) from dk_at dq44_9 (i := 12) rfl) rfl rfl, ?_⟩
  refine List.forall_mem_cons.mpr ⟨ok_iload_n C (show decode cX11_said 49 = .ok (.iload_n 1, 1) from dk_at dq44_9 (i := 13) rfl) rfl rfl, ?_⟩
  refine List.forall_mem_cons.mpr ⟨ok_icmpne C (show decode cX11_said 50 = .ok (.if_icmp .ne 5, 3) from dk_at dq44_9 (i := 14) rfl) (tg := 55) (by decide) rfl rfl, ?_⟩
  refine List.forall_mem_cons.mpr ⟨ok_iload_n C (show decode cX11_said 53 = .ok (.iload_n 3, 1) from dk_at dq44_9 (i := 15) rfl) rfl rfl, ?_⟩
  refine List.forall_mem_cons.mpr ⟨ok_ret C rfl (show decode cX11_said 54 = .ok (.ireturn, 1) from dk_at dq44_10 (i := 0) rfl), ?_⟩
  refine List.forall_mem_cons.mpr ⟨ok_iinc C (show decode cX11_said 55 = .ok (.iinc 2 1, 3) from dk_at dq44_10 (i := 1) rfl) (by decide) (by decide) rfl, ?_⟩
  refine List.forall_mem_cons.mpr ⟨ok_iinc C (show decode cX11_said 58 = .ok (.iinc 3 1, 3) from dk_at dq44_10 (i := 2) rfl) (by decide) (by decide) rfl, ?_⟩
  refine List.forall_mem_cons.mpr ⟨ok_goto C (show decode cX11_said 61 = .ok (.goto (-34), 3) from dk_at dq44_10 (i := 3) rfl) (tg := 27) (by decide) rfl, ?_⟩
  refine List.forall_mem_cons.mpr ⟨ok_iload_n C (show decode cX11_said 64 = .ok (.iload_n 1, 1) from dk_at dq44_10 (i := 4) rfl) rfl rfl, ?_⟩
  refine List.forall_mem_cons.mpr ⟨ok_iconst C (show decode cX11_said 65 = .ok (.iconst (-1), 1) from dk_at dq44_10 (i := 5) rfl) (by decide) rfl, ?_⟩
  refine List.forall_mem_cons.mpr ⟨ok_icmpne C (show decode cX11_said 66 = .ok (.if_icmp .ne 7, 3) from dk_at dq44_10 (i := 6) rfl) (tg := 73) (by decide) rfl rfl, ?_⟩
  refine List.forall_mem_cons.mpr ⟨ok_iload_n C (show decode cX11_said 69 = .ok (.iload_n 2, 1) from dk_at dq44_10 (i := 7) rfl) rfl rfl, ?_⟩
  refine List.forall_mem_cons.mpr ⟨ok_goto C (show decode cX11_said 70 = .ok (.goto 4, 3) from dk_at dq44_10 (i := 8) rfl) (tg := 74) (by decide) rfl, ?_⟩
  refine List.forall_mem_cons.mpr ⟨ok_iconst C (show decode cX11_said 73 = .ok (.iconst (-1), 1) from dk_at dq44_10 (i := 9) rfl) (by decide) rfl, ?_⟩
  refine List.forall_mem_cons.mpr ⟨ok_ret C rfl (show decode cX11_said 74 = .ok (.ireturn, 1) from dk_at dq44_10 (i := 10) rfl), ?_⟩
  exact fun _ h => absurd h List.not_mem_nil
def L_X11_image (f_X11_isIn : List Value → ab_H → Option ab_O) : List (Nat × ab_A) := [
  (0, ab_nx 1 (ab_aload 0)),
  (1, ab_nx 2 (ab_lit (.int 0))),
  (2, ab_nx 5 (ab_putf 11 0 0)),
  (5, ab_nx 6 (ab_iload 1)),
  (6, ab_nx 7 (ab_lit (.int 0))),
  (7, ab_nx 8 (ab_lit (.int 1))),
  (8, ab_nx 11 (ab_call 3 f_X11_isIn 0 0 0 0)),
  (11, ab_if 14 16 (fun x => !decide (x = 0))),
  (14, ab_nx 15 (ab_lit (.int 0))),
  (15, ab_zret 0 0),
  (16, ab_nx 17 (ab_lit (.int 0))),
  (17, ab_nx 18 (ab_istore 2)),
  (18, ab_nx 19 (ab_iload 2)),
  (19, ab_nx 22 (ab_lit (.int 434))),
  (22, ab_icmp 25 49 (fun x y => decide (y ≤ x))),
  (25, ab_nx 26 (ab_aload 0)),
  (26, ab_nx 29 (ab_getf 11 40)),
  (29, ab_nx 32 (ab_lit (.int 434))),
  (32, ab_nx 33 (ab_iload 1)),
  (33, ab_nx 34 (ab_bin (fun x y => x * y))),
  (34, ab_nx 35 (ab_iload 2)),
  (35, ab_nx 36 (ab_bin (fun x y => x + y))),
  (36, ab_nx 37 (ab_aload 0)),
  (37, ab_nx 40 (ab_getf 11 6)),
  (40, ab_nx 41 (ab_iload 2)),
  (41, ab_nx 42 (ab_ald 1)),
  (42, ab_nx 43 (ab_ast 1)),
  (43, ab_nx 46 (ab_iinc 2 1)),
  (46, ab_goto 18),
  (49, ab_nx 50 (ab_lit (.int 0))),
  (50, ab_nx 51 (ab_istore 2)),
  (51, ab_nx 52 (ab_iload 2)),
  (52, ab_nx 54 (ab_lit (.int 14))),
  (54, ab_icmp 57 80 (fun x y => decide (y ≤ x))),
  (57, ab_nx 58 (ab_aload 0)),
  (58, ab_nx 61 (ab_getf 11 41)),
  (61, ab_nx 63 (ab_lit (.int 14))),
  (63, ab_nx 64 (ab_iload 1)),
  (64, ab_nx 65 (ab_bin (fun x y => x * y))),
  (65, ab_nx 66 (ab_iload 2)),
  (66, ab_nx 67 (ab_bin (fun x y => x + y))),
  (67, ab_nx 68 (ab_aload 0)),
  (68, ab_nx 71 (ab_getf 11 9)),
  (71, ab_nx 72 (ab_iload 2)),
  (72, ab_nx 73 ab_lald),
  (73, ab_nx 74 ab_last),
  (74, ab_nx 77 (ab_iinc 2 1)),
  (77, ab_goto 51),
  (80, ab_nx 81 (ab_aload 0)),
  (81, ab_nx 84 (ab_getf 11 42)),
  (84, ab_nx 85 (ab_iload 1)),
  (85, ab_nx 86 (ab_lit (.int 1))),
  (86, ab_nx 87 (ab_ast 3)),
  (87, ab_nx 88 (ab_lit (.int 1))),
  (88, ab_zret 0 0)]
set_option maxRecDepth 100000 in
theorem dq44_11 : ([(0, .aload_n 0, 1), (1, .iconst 0, 1), (2, .putfield 1, 3), (5, .iload_n 1, 1), (6, .iconst 0, 1), (7, .iconst 1, 1), (8, .invokestatic 179, 3), (11, .ifCond .ne 5, 3), (14, .iconst 0, 1), (15, .ireturn, 1), (16, .iconst 0, 1), (17, .istore_n 2, 1), (18, .iload_n 2, 1), (19, .sipush 434, 3), (22, .if_icmp .ge 27, 3), (25, .aload_n 0, 1)] : List (Nat × Instr × Nat)).all (fun q => decide (decode cX11_image q.1 = .ok q.2)) = true := by decide +kernel
set_option maxRecDepth 100000 in
theorem dq44_12 : ([(26, .getfield 78, 3), (29, .sipush 434, 3), (32, .iload_n 1, 1), (33, .imul, 1), (34, .iload_n 2, 1), (35, .iadd, 1), (36, .aload_n 0, 1), (37, .getfield 33, 3), (40, .iload_n 2, 1), (41, .iaload, 1), (42, .iastore, 1), (43, .iinc 2 1, 3), (46, .goto (-28), 3), (49, .iconst 0, 1), (50, .istore_n 2, 1), (51, .iload_n 2, 1)] : List (Nat × Instr × Nat)).all (fun q => decide (decode cX11_image q.1 = .ok q.2)) = true := by decide +kernel
set_option maxRecDepth 100000 in
theorem dq44_13 : ([(52, .bipush 14, 2), (54, .if_icmp .ge 26, 3), (57, .aload_n 0, 1), (58, .getfield 81, 3), (61, .bipush 14, 2), (63, .iload_n 1, 1), (64, .imul, 1), (65, .iload_n 2, 1), (66, .iadd, 1), (67, .aload_n 0, 1), (68, .getfield 43, 3), (71, .iload_n 2, 1), (72, .laload, 1), (73, .lastore, 1), (74, .iinc 2 1, 3), (77, .goto (-26), 3)] : List (Nat × Instr × Nat)).all (fun q => decide (decode cX11_image q.1 = .ok q.2)) = true := by decide +kernel
set_option maxRecDepth 100000 in
theorem dq44_14 : ([(80, .aload_n 0, 1), (81, .getfield 84, 3), (84, .iload_n 1, 1), (85, .iconst 1, 1), (86, .bastore, 1), (87, .iconst 1, 1), (88, .ireturn, 1)] : List (Nat × Instr × Nat)).all (fun q => decide (decode cX11_image q.1 = .ok q.2)) = true := by decide +kernel
set_option maxRecDepth 100000 in
set_option maxHeartbeats 4000000 in
theorem M_X11_image {l : Launch} {b : ab_B} {D : va_G} {cA : Nat → ClassId} {f_X11_isIn : List Value → ab_H → Option ab_O} (h_X11_isIn : ab_M l b D ab_cl cA (ab_E0 b) yX11_isIn (Cond.code yX11_isIn cX11_isIn 3 (some .boolean) :: ab_G) ({ frames := 1, cells := 0, slots := 0, locals := 100 } : Room) f_X11_isIn) : ab_M l b D ab_cl cA (ab_E0 b) yX11_image (Cond.code yX11_image cX11_image 3 (some .boolean) :: ab_G) ({ frames := 2, cells := 0, slots := 0, locals := 200 } : Room) (ab_X (ab_T (L_X11_image f_X11_isIn)) 3) := by
  refine ab_meth (ret := (some .boolean)) (L_X11_image f_X11_isIn) (by decide) rfl fun p e R s m args below meth c o C => ?_
  unfold L_X11_image
  refine List.forall_mem_cons.mpr ⟨ok_aload_n C (show decode cX11_image 0 = .ok (.aload_n 0, 1) from dk_at dq44_11 (i := 0) rfl) rfl rfl, ?_⟩
  refine List.forall_mem_cons.mpr ⟨ok_iconst C (show decode cX11_image 1 = .ok (.iconst 0, 1) from dk_at dq44_11 (i := 1) rfl) (by decide) rfl, ?_⟩
  refine List.forall_mem_cons.mpr ⟨ok_putf C (wi_X11) tyX11 tyX11_ok nmX11 rfl (by decide) kw_1180 (Or.inl rfl) (Or.inl ⟨rfl, rfl⟩) (show decode cX11_image 2 = .ok (.putfield 1, 3) from dk_at dq44_11 (i := 2) rfl) rfl, ?_⟩
  refine List.forall_mem_cons.mpr ⟨ok_iload_n C (show decode cX11_image 5 = .ok (.iload_n 1, 1) from dk_at dq44_11 (i := 3) rfl) rfl rfl, ?_⟩
  refine List.forall_mem_cons.mpr ⟨ok_iconst C (show decode cX11_image 6 = .ok (.iconst 0, 1) from dk_at dq44_11 (i := 4) rfl) (by decide) rfl, ?_⟩
  refine List.forall_mem_cons.mpr ⟨ok_iconst C (show decode cX11_image 7 = .ok (.iconst 1, 1) from dk_at dq44_11 (i := 5) rfl) (by decide) rfl, ?_⟩
  refine List.forall_mem_cons.mpr ⟨ok_callS C h_X11_isIn ⟨rfl, rfl⟩ kw_1355 kw_1353 kw_1354 kw_11 ds_X11_isIn ⟨by decide, by decide⟩ (show decode cX11_image 8 = .ok (.invokestatic 179, 3) from dk_at dq44_11 (i := 6) rfl) rfl, ?_⟩
  refine List.forall_mem_cons.mpr ⟨ok_ifne C (show decode cX11_image 11 = .ok (.ifCond .ne 5, 3) from dk_at dq44_11 (i := 7) rfl) (tg := 16) (by decide) rfl rfl, ?_⟩
  refine List.forall_mem_cons.mpr ⟨ok_iconst C (show decode cX11_image 14 = .ok (.iconst 0, 1) from dk_at dq44_11 (i := 8) rfl) (by decide) rfl, ?_⟩
  refine List.forall_mem_cons.mpr ⟨ok_zret C rfl (show decode cX11_image 15 = .ok (.ireturn, 1) from dk_at dq44_11 (i := 9) rfl), ?_⟩
  refine List.forall_mem_cons.mpr ⟨ok_iconst C (show decode cX11_image 16 = .ok (.iconst 0, 1) from dk_at dq44_11 (i := 10) rfl) (by decide) rfl, ?_⟩
  refine List.forall_mem_cons.mpr ⟨ok_istore_n C (show decode cX11_image 17 = .ok (.istore_n 2, 1) from dk_at dq44_11 (i := 11) rfl) rfl (by decide) rfl, ?_⟩
  refine List.forall_mem_cons.mpr ⟨ok_iload_n C (show decode cX11_image 18 = .ok (.iload_n 2, 1) from dk_at dq44_11 (i := 12) rfl) rfl rfl, ?_⟩
  refine List.forall_mem_cons.mpr ⟨ok_sipush C (show decode cX11_image 19 = .ok (.sipush 434, 3) from dk_at dq44_11 (i := 13) rfl) (by decide) rfl, ?_⟩
  refine List.forall_mem_cons.mpr ⟨ok_icmpge C (show decode cX11_image 22 = .ok (.if_icmp .ge 27, 3) from dk_at dq44_11 (i := 14) rfl) (tg := 49) (by decide) rfl rfl, ?_⟩
  refine List.forall_mem_cons.mpr ⟨ok_aload_n C (show decode cX11_image 25 = .ok (.aload_n 0, 1) from dk_at dq44_11 (i := 15) rfl) rfl rfl, ?_⟩
  refine List.forall_mem_cons.mpr ⟨ok_getf C (wi_X11) rfl (by decide) kw_1220 (show decode cX11_image 26 = .ok (.getfield 78, 3) from dk_at dq44_12 (i := 0) rfl) rfl, ?_⟩
  refine List.forall_mem_cons.mpr ⟨ok_sipush C (show decode cX11_image 29 = .ok (.sipush 434, 3) from dk_at dq44_12 (i := 1) rfl) (by decide) rfl, ?_⟩
  refine List.forall_mem_cons.mpr ⟨ok_iload_n C (show decode cX11_image 32 = .ok (.iload_n 1, 1) from dk_at dq44_12 (i := 2) rfl) rfl rfl, ?_⟩
  refine List.forall_mem_cons.mpr ⟨ok_imul C (show decode cX11_image 33 = .ok (.imul, 1) from dk_at dq44_12 (i := 3) rfl) rfl, ?_⟩
  refine List.forall_mem_cons.mpr ⟨ok_iload_n C (show decode cX11_image 34 = .ok (.iload_n 2, 1) from dk_at dq44_12 (i := 4) rfl) rfl rfl, ?_⟩
  refine List.forall_mem_cons.mpr ⟨ok_iadd C (show decode cX11_image 35 = .ok (.iadd, 1) from dk_at dq44_12 (i := 5) rfl) rfl, ?_⟩
  refine List.forall_mem_cons.mpr ⟨ok_aload_n C (show decode cX11_image 36 = .ok (.aload_n 0, 1) from dk_at dq44_12 (i := 6) rfl) rfl rfl, ?_⟩
  refine List.forall_mem_cons.mpr ⟨ok_getf C (wi_X11) rfl (by decide) kw_1186 (show decode cX11_image 37 = .ok (.getfield 33, 3) from dk_at dq44_12 (i := 7) rfl) rfl, ?_⟩
  refine List.forall_mem_cons.mpr ⟨ok_iload_n C (show decode cX11_image 40 = .ok (.iload_n 2, 1) from dk_at dq44_12 (i := 8) rfl) rfl rfl, ?_⟩
  refine List.forall_mem_cons.mpr ⟨ok_iaload C (show decode cX11_image 41 = .ok (.iaload, 1) from dk_at dq44_12 (i := 9) rfl) rfl, ?_⟩
  refine List.forall_mem_cons.mpr ⟨ok_iastore C (show decode cX11_image 42 = .ok (.iastore, 1) from dk_at dq44_12 (i := 10) rfl) rfl, ?_⟩
  refine List.forall_mem_cons.mpr ⟨ok_iinc C (show decode cX11_image 43 = .ok (.iinc 2 1, 3) from dk_at dq44_12 (i := 11) rfl) (by decide) (by decide) rfl, ?_⟩
  refine List.forall_mem_cons.mpr ⟨ok_goto C (show decode cX11_image 46 = .ok (.goto (-28), 3) from dk_at dq44_12 (i := 12) rfl) (tg := 18) (by decide) rfl, ?_⟩
  refine List.forall_mem_cons.mpr ⟨ok_iconst C (show decode cX11_image 49 = .ok (.iconst 0, 1) from dk_at dq44_12 (i := 13) rfl) (by decide) rfl, ?_⟩
  refine List.forall_mem_cons.mpr ⟨ok_istore_n C (show decode cX11_image 50 = .ok (.istore_n 2, 1) from dk_at dq44_12 (i := 14) rfl) rfl (by decide) rfl, ?_⟩
  refine List.forall_mem_cons.mpr ⟨ok_iload_n C (show decode cX11_image 51 = .ok (.iload_n 2, 1) from dk_at dq44_12 (i := 15) rfl) rfl rfl, ?_⟩
  refine List.forall_mem_cons.mpr ⟨ok_bipush C (show decode cX11_image 52 = .ok (.bipush 14, 2) from dk_at dq44_13 (i := 0) rfl) (by decide) rfl, ?_⟩
  refine List.forall_mem_cons.mpr ⟨ok_icmpge C (show decode cX11_image 54 = .ok (.if_icmp .ge 26, 3) from dk_at dq44_13 (i := 1) rfl) (tg := 80) (by decide) rfl rfl, ?_⟩
  refine List.forall_mem_cons.mpr ⟨ok_aload_n C (show decode cX11_image 57 = .ok (.aload_n 0, 1) from dk_at dq44_13 (i := 2) rfl) rfl rfl, ?_⟩
  refine List.forall_mem_cons.mpr ⟨ok_getf C (wi_X11) rfl (by decide) kw_1221 (show decode cX11_image 58 = .ok (.getfield 81, 3) from dk_at dq44_13 (i := 3) rfl) rfl, ?_⟩
  refine List.forall_mem_cons.mpr ⟨ok_bipush C (show decode cX11_image 61 = .ok (.bipush 14, 2) from dk_at dq44_13 (i := 4) rfl) (by decide) rfl, ?_⟩
  refine List.forall_mem_cons.mpr ⟨ok_iload_n C (show decode cX11_image 63 = .ok (.iload_n 1, 1) from dk_at dq44_13 (i := 5) rfl) rfl rfl, ?_⟩
  refine List.forall_mem_cons.mpr ⟨ok_imul C (show decode cX11_image 64 = .ok (.imul, 1) from dk_at dq44_13 (i := 6) rfl) rfl, ?_⟩
  refine List.forall_mem_cons.mpr ⟨ok_iload_n C (show decode cX11_image 65 = .ok (.iload_n 2, 1) from dk_at dq44_13 (i := 7) rfl) rfl rfl, ?_⟩
  refine List.forall_mem_cons.mpr ⟨ok_iadd C (show decode cX11_image 66 = .ok (.iadd, 1) from dk_at dq44_13 (i := 8) rfl) rfl, ?_⟩
  refine List.forall_mem_cons.mpr ⟨ok_aload_n C (show decode cX11_image 67 = .ok (.aload_n 0, 1) from dk_at dq44_13 (i := 9) rfl) rfl rfl, ?_⟩
  refine List.forall_mem_cons.mpr ⟨ok_getf C (wi_X11) rfl (by decide) kw_1189 (show decode cX11_image 68 = .ok (.getfield 43, 3) from dk_at dq44_13 (i := 10) rfl) rfl, ?_⟩
  refine List.forall_mem_cons.mpr ⟨ok_iload_n C (show decode cX11_image 71 = .ok (.iload_n 2, 1) from dk_at dq44_13 (i := 11) rfl) rfl rfl, ?_⟩
  refine List.forall_mem_cons.mpr ⟨ok_laload C (show decode cX11_image 72 = .ok (.laload, 1) from dk_at dq44_13 (i := 12) rfl) rfl, ?_⟩
  refine List.forall_mem_cons.mpr ⟨ok_lastore C (show decode cX11_image 73 = .ok (.lastore, 1) from dk_at dq44_13 (i := 13) rfl) rfl, ?_⟩
  refine List.forall_mem_cons.mpr ⟨ok_iinc C (show decode cX11_image 74 = .ok (.iinc 2 1, 3) from dk_at dq44_13 (i := 14) rfl) (by decide) (by decide) rfl, ?_⟩
  refine List.forall_mem_cons.mpr ⟨ok_goto C (show decode cX11_image 77 = .ok (.goto (-26), 3) from dk_at dq44_13 (i := 15) rfl) (tg := 51) (by decide) rfl, ?_⟩
  refine List.forall_mem_cons.mpr ⟨ok_aload_n C (show decode cX11_image 80 = .ok (.aload_n 0, 1) from dk_at dq44_14 (i := 0) rfl) rfl rfl, ?_⟩
  refine List.forall_mem_cons.mpr ⟨ok_getf C (wi_X11) rfl (by decide) kw_1222 (show decode cX11_image 81 = .ok (.getfield 84, 3) from dk_at dq44_14 (i := 1) rfl) rfl, ?_⟩
  refine List.forall_mem_cons.mpr ⟨ok_iload_n C (show decode cX11_image 84 = .ok (.iload_n 1, 1) from dk_at dq44_14 (i := 2) rfl) rfl rfl, ?_⟩
  refine List.forall_mem_cons.mpr ⟨ok_iconst C (show decode cX11_image 85 = .ok (.iconst 1, 1) from dk_at dq44_14 (i := 3) rfl) (by decide) rfl, ?_⟩
  refine List.forall_mem_cons.mpr ⟨ok_zastore C (show decode cX11_image 86 = .ok (.bastore, 1) from dk_at dq44_14 (i := 4) rfl) rfl, ?_⟩
  refine List.forall_mem_cons.mpr ⟨ok_iconst C (show decode cX11_image 87 = .ok (.iconst 1, 1) from dk_at dq44_14 (i := 5) rfl) (by decide) rfl, ?_⟩
  refine List.forall_mem_cons.mpr ⟨ok_zret C rfl (show decode cX11_image 88 = .ok (.ireturn, 1) from dk_at dq44_14 (i := 6) rfl), ?_⟩
  exact fun _ h => absurd h List.not_mem_nil
def L_X11_restore (f_X11_isIn : List Value → ab_H → Option ab_O) : List (Nat × ab_A) := [
  (0, ab_nx 1 (ab_aload 0)),
  (1, ab_nx 2 (ab_lit (.int 0))),
  (2, ab_nx 5 (ab_putf 11 0 0)),
  (5, ab_nx 6 (ab_iload 1)),
  (6, ab_nx 7 (ab_lit (.int 0))),
  (7, ab_nx 8 (ab_lit (.int 1))),
  (8, ab_nx 11 (ab_call 3 f_X11_isIn 0 0 0 0)),
  (11, ab_if 14 23 (fun x => decide (x = 0))),
  (14, ab_nx 15 (ab_aload 0)),
  (15, ab_nx 18 (ab_getf 11 42)),
  (18, ab_nx 19 (ab_iload 1)),
  (19, ab_nx 20 (ab_ald 3)),
  (20, ab_if 23 25 (fun x => !decide (x = 0))),
  (23, ab_nx 24 (ab_lit (.int 0))),
  (24, ab_zret 0 0),
  (25, ab_nx 26 (ab_lit (.int 0))),
  (26, ab_nx 27 (ab_istore 2)),
  (27, ab_nx 28 (ab_iload 2)),
  (28, ab_nx 31 (ab_lit (.int 434))),
  (31, ab_icmp 34 58 (fun x y => decide (y ≤ x))),
  (34, ab_nx 35 (ab_aload 0)),
  (35, ab_nx 38 (ab_getf 11 6)),
  (38, ab_nx 39 (ab_iload 2)),
  (39, ab_nx 40 (ab_aload 0)),
  (40, ab_nx 43 (ab_getf 11 40)),
  (43, ab_nx 46 (ab_lit (.int 434))),
  (46, ab_nx 47 (ab_iload 1)),
  (47, ab_nx 48 (ab_bin (fun x y => x * y))),
  (48, ab_nx 49 (ab_iload 2)),
  (49, ab_nx 50 (ab_bin (fun x y => x + y))),
  (50, ab_nx 51 (ab_ald 1)),
  (51, ab_nx 52 (ab_ast 1)),
  (52, ab_nx 55 (ab_iinc 2 1)),
  (55, ab_goto 27),
  (58, ab_nx 59 (ab_lit (.int 0))),
  (59, ab_nx 60 (ab_istore 2)),
  (60, ab_nx 61 (ab_iload 2)),
  (61, ab_nx 63 (ab_lit (.int 14))),
  (63, ab_icmp 66 89 (fun x y => decide (y ≤ x))),
  (66, ab_nx 67 (ab_aload 0)),
  (67, ab_nx 70 (ab_getf 11 9)),
  (70, ab_nx 71 (ab_iload 2)),
  (71, ab_nx 72 (ab_aload 0)),
  (72, ab_nx 75 (ab_getf 11 41)),
  (75, ab_nx 77 (ab_lit (.int 14))),
  (77, ab_nx 78 (ab_iload 1)),
  (78, ab_nx 79 (ab_bin (fun x y => x * y))),
  (79, ab_nx 80 (ab_iload 2)),
  (80, ab_nx 81 (ab_bin (fun x y => x + y))),
  (81, ab_nx 82 ab_lald),
  (82, ab_nx 83 ab_last),
  (83, ab_nx 86 (ab_iinc 2 1)),
  (86, ab_goto 60),
  (89, ab_nx 90 (ab_aload 0)),
  (90, ab_nx 91 (ab_lit (.int 0))),
  (91, ab_nx 94 (ab_putf 11 25 0)),
  (94, ab_nx 95 (ab_lit (.int 1))),
  (95, ab_zret 0 0)]
set_option maxRecDepth 100000 in
theorem dq44_15 : ([(0, .aload_n 0, 1), (1, .iconst 0, 1), (2, .putfield 1, 3), (5, .iload_n 1, 1), (6, .iconst 0, 1), (7, .iconst 1, 1), (8, .invokestatic 179, 3), (11, .ifCond .eq 12, 3), (14, .aload_n 0, 1), (15, .getfield 84, 3), (18, .iload_n 1, 1), (19, .baload, 1), (20, .ifCond .ne 5, 3), (23, .iconst 0, 1), (24, .ireturn, 1), (25, .iconst 0, 1)] : List (Nat × Instr × Nat)).all (fun q => decide (decode cX11_restore q.1 = .ok q.2)) = true := by decide +kernel
set_option maxRecDepth 100000 in
theorem dq44_16 : ([(26, .istore_n 2, 1), (27, .iload_n 2, 1), (28, .sipush 434, 3), (31, .if_icmp .ge 27, 3), (34, .aload_n 0, 1), (35, .getfield 33, 3), (38, .iload_n 2, 1), (39, .aload_n 0, 1), (40, .getfield 78, 3), (43, .sipush 434, 3), (46, .iload_n 1, 1), (47, .imul, 1), (48, .iload_n 2, 1), (49, .iadd, 1), (50, .iaload, 1), (51, .iastore, 1)] : List (Nat × Instr × Nat)).all (fun q => decide (decode cX11_restore q.1 = .ok q.2)) = true := by decide +kernel
set_option maxRecDepth 100000 in
theorem dq44_17 : ([(52, .iinc 2 1, 3), (55, .goto (-28), 3), (58, .iconst 0, 1), (59, .istore_n 2, 1), (60, .iload_n 2, 1), (61, .bipush 14, 2), (63, .if_icmp .ge 26, 3), (66, .aload_n 0, 1), (67, .getfield 43, 3), (70, .iload_n 2, 1), (71, .aload_n 0, 1), (72, .getfield 81, 3), (75, .bipush 14, 2), (77, .iload_n 1, 1), (78, .imul, 1), (79, .iload_n 2, 1)] : List (Nat × Instr × Nat)).all (fun q => decide (decode cX11_restore q.1 = .ok q.2)) = true := by decide +kernel
set_option maxRecDepth 100000 in
theorem dq44_18 : ([(80, .iadd, 1), (81, .laload, 1), (82, .lastore, 1), (83, .iinc 2 1, 3), (86, .goto (-26), 3), (89, .aload_n 0, 1), (90, .iconst 0, 1), (91, .putfield 236, 3), (94, .iconst 1, 1), (95, .ireturn, 1)] : List (Nat × Instr × Nat)).all (fun q => decide (decode cX11_restore q.1 = .ok q.2)) = true := by decide +kernel
set_option maxRecDepth 100000 in
set_option maxHeartbeats 4000000 in
theorem M_X11_restore {l : Launch} {b : ab_B} {D : va_G} {cA : Nat → ClassId} {f_X11_isIn : List Value → ab_H → Option ab_O} (h_X11_isIn : ab_M l b D ab_cl cA (ab_E0 b) yX11_isIn (Cond.code yX11_isIn cX11_isIn 3 (some .boolean) :: ab_G) ({ frames := 1, cells := 0, slots := 0, locals := 100 } : Room) f_X11_isIn) : ab_M l b D ab_cl cA (ab_E0 b) yX11_restore (Cond.code yX11_restore cX11_restore 3 (some .boolean) :: ab_G) ({ frames := 2, cells := 0, slots := 0, locals := 200 } : Room) (ab_X (ab_T (L_X11_restore f_X11_isIn)) 3) := by
  refine ab_meth (ret := (some .boolean)) (L_X11_restore f_X11_isIn) (by decide) rfl fun p e R s m args below meth c o C => ?_
  unfold L_X11_restore
  refine List.forall_mem_cons.mpr ⟨ok_aload_n C (show decode cX11_restore 0 = .ok (.aload_n 0, 1) from dk_at dq44_15 (i := 0) rfl) rfl rfl, ?_⟩
  refine List.forall_mem_cons.mpr ⟨ok_iconst C (show decode cX11_restore 1 = .ok (.iconst 0, 1) from dk_at dq44_15 (i := 1) rfl) (by decide) rfl, ?_⟩
  refine List.forall_mem_cons.mpr ⟨ok_putf C (wi_X11) tyX11 tyX11_ok nmX11 rfl (by decide) kw_1180 (Or.inl rfl) (Or.inl ⟨rfl, rfl⟩) (show decode cX11_restore 2 = .ok (.putfield 1, 3) from dk_at dq44_15 (i := 2) rfl) rfl, ?_⟩
  refine List.forall_mem_cons.mpr ⟨ok_iload_n C (show decode cX11_restore 5 = .ok (.iload_n 1, 1) from dk_at dq44_15 (i := 3) rfl) rfl rfl, ?_⟩
  refine List.forall_mem_cons.mpr ⟨ok_iconst C (show decode cX11_restore 6 = .ok (.iconst 0, 1) from dk_at dq44_15 (i := 4) rfl) (by decide) rfl, ?_⟩
  refine List.forall_mem_cons.mpr ⟨ok_iconst C (show decode cX11_restore 7 = .ok (.iconst 1, 1) from dk_at dq44_15 (i := 5) rfl) (by decide) rfl, ?_⟩
  refine List.forall_mem_cons.mpr ⟨ok_callS C h_X11_isIn ⟨rfl, rfl⟩ kw_1355 kw_1353 kw_1354 kw_11 ds_X11_isIn ⟨by decide, by decide⟩ (show decode cX11_restore 8 = .ok (.invokestatic 179, 3) from dk_at dq44_15 (i := 6) rfl) rfl, ?_⟩
  refine List.forall_mem_cons.mpr ⟨ok_ifeq C (show decode cX11_restore 11 = .ok (.ifCond .eq 12, 3) from dk_at dq44_15 (i := 7) rfl) (tg := 23) (by decide) rfl rfl, ?_⟩
  refine List.forall_mem_cons.mpr ⟨ok_aload_n C (show decode cX11_restore 14 = .ok (.aload_n 0, 1) from dk_at dq44_15 (i := 8) rfl) rfl rfl, ?_⟩
  refine List.forall_mem_cons.mpr ⟨ok_getf C (wi_X11) rfl (by decide) kw_1222 (show decode cX11_restore 15 = .ok (.getfield 84, 3) from dk_at dq44_15 (i := 9) rfl) rfl, ?_⟩
  refine List.forall_mem_cons.mpr ⟨ok_iload_n C (show decode cX11_restore 18 = .ok (.iload_n 1, 1) from dk_at dq44_15 (i := 10) rfl) rfl rfl, ?_⟩
  refine List.forall_mem_cons.mpr ⟨ok_zaload C (show decode cX11_restore 19 = .ok (.baload, 1) from dk_at dq44_15 (i := 11) rfl) rfl, ?_⟩
  refine List.forall_mem_cons.mpr ⟨ok_ifne C (show decode cX11_restore 20 = .ok (.ifCond .ne 5, 3) from dk_at dq44_15 (i := 12) rfl) (tg := 25) (by decide) rfl rfl, ?_⟩
  refine List.forall_mem_cons.mpr ⟨ok_iconst C (show decode cX11_restore 23 = .ok (.iconst 0, 1) from dk_at dq44_15 (i := 13) rfl) (by decide) rfl, ?_⟩
  refine List.forall_mem_cons.mpr ⟨ok_zret C rfl (show decode cX11_restore 24 = .ok (.ireturn, 1) from dk_at dq44_15 (i := 14) rfl), ?_⟩
  refine List.forall_mem_cons.mpr ⟨ok_iconst C (show decode cX11_restore 25 = .ok (.iconst 0, 1) from dk_at dq44_15 (i := 15) rfl) (by decide) rfl, ?_⟩
  refine List.forall_mem_cons.mpr ⟨ok_istore_n C (show decode cX11_restore 26 = .ok (.istore_n 2, 1) from dk_at dq44_16 (i := 0) rfl) rfl (by decide) rfl, ?_⟩
  refine List.forall_mem_cons.mpr ⟨ok_iload_n C (show decode cX11_restore 27 = .ok (.iload_n 2, 1) from dk_at dq44_16 (i := 1) rfl) rfl rfl, ?_⟩
  refine List.forall_mem_cons.mpr ⟨ok_sipush C (show decode cX11_restore 28 = .ok (.sipush 434, 3) from dk_at dq44_16 (i := 2) rfl) (by decide) rfl, ?_⟩
  refine List.forall_mem_cons.mpr ⟨ok_icmpge C (show decode cX11_restore 31 = .ok (.if_icmp .ge 27, 3) from dk_at dq44_16 (i := 3) rfl) (tg := 58) (by decide) rfl rfl, ?_⟩
  refine List.forall_mem_cons.mpr ⟨ok_aload_n C (show decode cX11_restore 34 = .ok (.aload_n 0, 1) from dk_at dq44_16 (i := 4) rfl) rfl rfl, ?_⟩
  refine List.forall_mem_cons.mpr ⟨ok_getf C (wi_X11) rfl (by decide) kw_1186 (show decode cX11_restore 35 = .ok (.getfield 33, 3) from dk_at dq44_16 (i := 5) rfl) rfl, ?_⟩
  refine List.forall_mem_cons.mpr ⟨ok_iload_n C (show decode cX11_restore 38 = .ok (.iload_n 2, 1) from dk_at dq44_16 (i := 6) rfl) rfl rfl, ?_⟩
  refine List.forall_mem_cons.mpr ⟨ok_aload_n C (show decode cX11_restore 39 = .ok (.aload_n 0, 1) from dk_at dq44_16 (i := 7) rfl) rfl rfl, ?_⟩
  refine List.forall_mem_cons.mpr ⟨ok_getf C (wi_X11) rfl (by decide) kw_1220 (show decode cX11_restore 40 = .ok (.getfield 78, 3) from dk_at dq44_16 (i := 8) rfl) rfl, ?_⟩
  refine List.forall_mem_cons.mpr ⟨ok_sipush C (show decode cX11_restore 43 = .ok (.sipush 434, 3) from dk_at dq44_16 (i := 9) rfl) (by decide) rfl, ?_⟩
  refine List.forall_mem_cons.mpr ⟨ok_iload_n C (show decode cX11_restore 46 = .ok (.iload_n 1, 1) from dk_at dq44_16 (i := 10) rfl) rfl rfl, ?_⟩
  refine List.forall_mem_cons.mpr ⟨ok_imul C (show decode cX11_restore 47 = .ok (.imul, 1) from dk_at dq44_16 (i := 11) rfl) rfl, ?_⟩
  refine List.forall_mem_cons.mpr ⟨ok_iload_n C (show decode cX11_restore 48 = .ok (.iload_n 2, 1) from dk_at dq44_16 (i := 12) rfl) rfl rfl, ?_⟩
  refine List.forall_mem_cons.mpr ⟨ok_iadd C (show decode cX11_restore 49 = .ok (.iadd, 1) from dk_at dq44_16 (i := 13) rfl) rfl, ?_⟩
  refine List.forall_mem_cons.mpr ⟨ok_iaload C (show decode cX11_restore 50 = .ok (.iaload, 1) from dk_at dq44_16 (i := 14) rfl) rfl, ?_⟩
  refine List.forall_mem_cons.mpr ⟨ok_iastore C (show decode cX11_restore 51 = .ok (.iastore, 1) from dk_at dq44_16 (i := 15) rfl) rfl, ?_⟩
  refine List.forall_mem_cons.mpr ⟨ok_iinc C (show decode cX11_restore 52 = .ok (.iinc 2 1, 3) from dk_at dq44_17 (i := 0) rfl) (by decide) (by decide) rfl, ?_⟩
  refine List.forall_mem_cons.mpr ⟨ok_goto C (show decode cX11_restore 55 = .ok (.goto (-28), 3) from dk_at dq44_17 (i := 1) rfl) (tg := 27) (by decide) rfl, ?_⟩
  refine List.forall_mem_cons.mpr ⟨ok_iconst C (show decode cX11_restore 58 = .ok (.iconst 0, 1) from dk_at dq44_17 (i := 2) rfl) (by decide) rfl, ?_⟩
  refine List.forall_mem_cons.mpr ⟨ok_istore_n C (show decode cX11_restore 59 = .ok (.istore_n 2, 1) from dk_at dq44_17 (i := 3) rfl) rfl (by decide) rfl, ?_⟩
  refine List.forall_mem_cons.mpr ⟨ok_iload_n C (show decode cX11_restore 60 = .ok (.iload_n 2, 1) from dk_at dq44_17 (i := 4) rfl) rfl rfl, ?_⟩
  refine List.forall_mem_cons.mpr ⟨ok_bipush C (show decode cX11_restore 61 = .ok (.bipush 14, 2) from dk_at dq44_17 (i := 5) rfl) (by decide) rfl, ?_⟩
  refine List.forall_mem_cons.mpr ⟨ok_icmpge C (show decode cX11_restore 63 = .ok (.if_icmp .ge 26, 3) from dk_at dq44_17 (i := 6) rfl) (tg := 89) (by decide) rfl rfl, ?_⟩
  refine List.forall_mem_cons.mpr ⟨ok_aload_n C (show decode cX11_restore 66 = .ok (.aload_n 0, 1) from dk_at dq44_17 (i := 7) rfl) rfl rfl, ?_⟩
  refine List.forall_mem_cons.mpr ⟨ok_getf C (wi_X11) rfl (by decide) kw_1189 (show decode cX11_restore 67 = .ok (.getfield 43, 3) from dk_at dq44_17 (i := 8) rfl) rfl, ?_⟩
  refine List.forall_mem_cons.mpr ⟨ok_iload_n C (show decode cX11_restore 70 = .ok (.iload_n 2, 1) from dk_at dq44_17 (i := 9) rfl) rfl rfl, ?_⟩
  refine List.forall_mem_cons.mpr ⟨ok_aload_n C (show decode cX11_restore 71 = .ok (.aload_n 0, 1) from dk_at dq44_17 (i := 10) rfl) rfl rfl, ?_⟩
  refine List.forall_mem_cons.mpr ⟨ok_getf C (wi_X11) rfl (by decide) kw_1221 (show decode cX11_restore 72 = .ok (.getfield 81, 3) from dk_at dq44_17 (i := 11) rfl) rfl, ?_⟩
  refine List.forall_mem_cons.mpr ⟨ok_bipush C (show decode cX11_restore 75 = .ok (.bipush 14, 2) from dk_at dq44_17 (i := 12) rfl) (by decide) rfl, ?_⟩
  refine List.forall_mem_cons.mpr ⟨ok_iload_n C (show decode cX11_restore 77 = .ok (.iload_n 1, 1) from dk_at dq44_17 (i := 13) rfl) rfl rfl, ?_⟩
  refine List.forall_mem_cons.mpr ⟨ok_imul C (show decode cX11_restore 78 = .ok (.imul, 1) from dk_at dq44_17 (i := 14) rfl) rfl, ?_⟩
  refine List.forall_mem_cons.mpr ⟨ok_iload_n C (show decode cX11_restore 79 = .ok (.iload_n 2, 1) from dk_at dq44_17 (i := 15) rfl) rfl rfl, ?_⟩
  refine List.forall_mem_cons.mpr ⟨ok_iadd C (show decode cX11_restore 80 = .ok (.iadd, 1) from dk_at dq44_18 (i := 0) rfl) rfl, ?_⟩
  refine List.forall_mem_cons.mpr ⟨ok_laload C (show decode cX11_restore 81 = .ok (.laload, 1) from dk_at dq44_18 (i := 1) rfl) rfl, ?_⟩
  refine List.forall_mem_cons.mpr ⟨ok_lastore C (show decode cX11_restore 82 = .ok (.lastore, 1) from dk_at dq44_18 (i := 2) rfl) rfl, ?_⟩
  refine List.forall_mem_cons.mpr ⟨ok_iinc C (show decode cX11_restore 83 = .ok (.iinc 2 1, 3) from dk_at dq44_18 (i := 3) rfl) (by decide) (by decide) rfl, ?_⟩
  refine List.forall_mem_cons.mpr ⟨ok_goto C (show decode cX11_restore 86 = .ok (.goto (-26), 3) from dk_at dq44_18 (i := 4) rfl) (tg := 60) (by decide) rfl, ?_⟩
  refine List.forall_mem_cons.mpr ⟨ok_aload_n C (show decode cX11_restore 89 = .ok (.aload_n 0, 1) from dk_at dq44_18 (i := 5) rfl) rfl rfl, ?_⟩
  refine List.forall_mem_cons.mpr ⟨ok_iconst C (show decode cX11_restore 90 = .ok (.iconst 0, 1) from dk_at dq44_18 (i := 6) rfl) (by decide) rfl, ?_⟩
  refine List.forall_mem_cons.mpr ⟨ok_putf C (wi_X11) tyX11 tyX11_ok nmX11 rfl (by decide) kw_1205 (Or.inl rfl) (Or.inl ⟨rfl, rfl⟩) (show decode cX11_restore 91 = .ok (.putfield 236, 3) from dk_at dq44_18 (i := 7) rfl) rfl, ?_⟩
  refine List.forall_mem_cons.mpr ⟨ok_iconst C (show decode cX11_restore 94 = .ok (.iconst 1, 1) from dk_at dq44_18 (i := 8) rfl) (by decide) rfl, ?_⟩
  refine List.forall_mem_cons.mpr ⟨ok_zret C rfl (show decode cX11_restore 95 = .ok (.ireturn, 1) from dk_at dq44_18 (i := 9) rfl), ?_⟩
  exact fun _ h => absurd h List.not_mem_nil
def L_X11_count (f_X11_isIn : List Value → ab_H → Option ab_O) : List (Nat × ab_A) := [
  (0, ab_nx 1 (ab_aload 0)),
  (1, ab_nx 2 (ab_lit (.int 0))),
  (2, ab_nx 5 (ab_putf 11 0 0)),
  (5, ab_nx 6 (ab_iload 1)),
  (6, ab_nx 7 (ab_lit (.int 4))),
  (7, ab_icmp 10 17 (fun x y => !decide (x = y))),
  (10, ab_nx 11 (ab_aload 0)),
  (11, ab_nx 14 (ab_getf 11 2)),
  (14, ab_goto 36),
  (17, ab_nx 18 (ab_iload 1)),
  (18, ab_nx 19 (ab_lit (.int 0))),
  (19, ab_nx 20 (ab_lit (.int 3))),
  (20, ab_nx 23 (ab_call 3 f_X11_isIn 0 0 0 0)),
  (23, ab_if 26 35 (fun x => decide (x = 0))),
  (26, ab_nx 27 (ab_aload 0)),
  (27, ab_nx 30 (ab_getf 11 6)),
  (30, ab_nx 31 (ab_iload 1)),
  (31, ab_nx 32 (ab_ald 1)),
  (32, ab_goto 36),
  (35, ab_nx 36 (ab_lit (.int (-1)))),
  (36, ab_ret 0 0)]
set_option maxRecDepth 100000 in
theorem dq44_19 : ([(0, .aload_n 0, 1), (1, .iconst 0, 1), (2, .putfield 1, 3), (5, .iload_n 1, 1), (6, .iconst 4, 1), (7, .if_icmp .ne 10, 3), (10, .aload_n 0, 1), (11, .getfield 7, 3), (14, .goto 22, 3), (17, .iload_n 1, 1), (18, .iconst 0, 1), (19, .iconst 3, 1), (20, .invokestatic 179, 3), (23, .ifCond .eq 12, 3), (26, .aload_n 0, 1), (27, .getfield 33, 3)] : List (Nat × Instr × Nat)).all (fun q => decide (decode cX11_count q.1 = .ok q.2)) = true := by decide +kernel
set_option maxRecDepth 100000 in
theorem dq44_20 : ([(30, .iload_n 1, 1), (31, .iaload, 1), (32, .goto 4, 3), (35, .iconst (-1), 1), (36, .ireturn, 1)] : List (Nat × Instr × Nat)).all (fun q => decide (decode cX11_count q.1 = .ok q.2)) = true := by decide +kernel
set_option maxRecDepth 100000 in
set_option maxHeartbeats 4000000 in
theorem M_X11_count {l : Launch} {b : ab_B} {D : va_G} {cA : Nat → ClassId} {f_X11_isIn : List Value → ab_H → Option ab_O} (h_X11_isIn : ab_M l b D ab_cl cA (ab_E0 b) yX11_isIn (Cond.code yX11_isIn cX11_isIn 3 (some .boolean) :: ab_G) ({ frames := 1, cells := 0, slots := 0, locals := 100 } : Room) f_X11_isIn) : ab_M l b D ab_cl cA (ab_E0 b) yX11_count (Cond.code yX11_count cX11_count 2 (some .int) :: ab_G) ({ frames := 2, cells := 0, slots := 0, locals := 200 } : Room) (ab_X (ab_T (L_X11_count f_X11_isIn)) 2) := by
  refine ab_meth (ret := (some .int)) (L_X11_count f_X11_isIn) (by decide) rfl fun p e R s m args below meth c o C => ?_
  unfold L_X11_count
  refine List.forall_mem_cons.mpr ⟨ok_aload_n C (show decode cX11_count 0 = .ok (.aload_n 0, 1) from dk_at dq44_19 (i := 0) rfl) rfl rfl, ?_⟩
  refine List.forall_mem_cons.mpr ⟨ok_iconst C (show decode cX11_count 1 = .ok (.iconst 0, 1) from dk_at dq44_19 (i := 1) rfl) (by decide) rfl, ?_⟩
  refine List.forall_mem_cons.mpr ⟨ok_putf C (wi_X11) tyX11 tyX11_ok nmX11 rfl (by decide) kw_1180 (Or.inl rfl) (Or.inl ⟨rfl, rfl⟩) (show decode cX11_count 2 = .ok (.putfield 1, 3) from dk_at dq44_19 (i := 2) rfl) rfl, ?_⟩
  refine List.forall_mem_cons.mpr ⟨ok_iload_n C (show decode cX11_count 5 = .ok (.iload_n 1, 1) from dk_at dq44_19 (i := 3) rfl) rfl rfl, ?_⟩
  refine List.forall_mem_cons.mpr ⟨ok_iconst C (show decode cX11_count 6 = .ok (.iconst 4, 1) from dk_at dq44_19 (i := 4) rfl) (by decide) rfl, ?_⟩
  refine List.forall_mem_cons.mpr ⟨ok_icmpne C (show decode cX11_count 7 = .ok (.if_icmp .ne 10, 3) from dk_at dq44_19 (i := 5) rfl) (tg := 17) (by decide) rfl rfl, ?_⟩
  refine List.forall_mem_cons.mpr ⟨ok_aload_n C (show decode cX11_count 10 = .ok (.aload_n 0, 1) from dk_at dq44_19 (i := 6) rfl) rfl rfl, ?_⟩
  refine List.forall_mem_cons.mpr ⟨ok_getf C (wi_X11) rfl (by decide) kw_1182 (show decode cX11_count 11 = .ok (.getfield 7, 3) from dk_at dq44_19 (i := 7) rfl) rfl, ?_⟩
  refine List.forall_mem_cons.mpr ⟨ok_goto C (show decode cX11_count 14 = .ok (.goto 22, 3) from dk_at dq44_19 (i := 8) rfl) (tg := 36) (by decide) rfl, ?_⟩
  refine List.forall_mem_cons.mpr ⟨ok_iload_n C (show decode cX11_count 17 = .ok (.iload_n 1, 1) from dk_at dq44_19 (i := 9) rfl) rfl rfl, ?_⟩
  refine List.forall_mem_cons.mpr ⟨ok_iconst C (show decode cX11_count 18 = .ok (.iconst 0, 1) from dk_at dq44_19 (i := 10) rfl) (by decide) rfl, ?_⟩
  refine List.forall_mem_cons.mpr ⟨ok_iconst C (show decode cX11_count 19 = .ok (.iconst 3, 1) from dk_at dq44_19 (i := 11) rfl) (by decide) rfl, ?_⟩
  refine List.forall_mem_cons.mpr ⟨ok_callS C h_X11_isIn ⟨rfl, rfl⟩ kw_1355 kw_1353 kw_1354 kw_11 ds_X11_isIn ⟨by decide, by decide⟩ (show decode cX11_count 20 = .ok (.invokestatic 179, 3) from dk_at dq44_19 (i := 12) rfl) rfl, ?_⟩
  refine List.forall_mem_cons.mpr ⟨ok_ifeq C (show decode cX11_count 23 = .ok (.ifCond .eq 12, 3) from dk_at dq44_19 (i := 13) rfl) (tg := 35) (by decide) rfl rfl, ?_⟩
  refine List.forall_mem_cons.mpr ⟨ok_aload_n C (show decode cX11_count 26 = .ok (.aload_n 0, 1) from dk_at dq44_19 (i := 14) rfl) rfl rfl, ?_⟩
  refine List.forall_mem_cons.mpr ⟨ok_getf C (wi_X11) rfl (by decide) kw_1186 (show decode cX11_count 27 = .ok (.getfield 33, 3) from dk_at dq44_19 (i := 15) rfl) rfl, ?_⟩
  refine List.forall_mem_cons.mpr ⟨ok_iload_n C (show decode cX11_count 30 = .ok (.iload_n 1, 1) from dk_at dq44_20 (i := 0) rfl) rfl rfl, ?_⟩
  refine List.forall_mem_cons.mpr ⟨ok_iaload C (show decode cX11_count 31 = .ok (.iaload, 1) from dk_at dq44_20 (i := 1) rfl) rfl, ?_⟩
  refine List.forall_mem_cons.mpr ⟨ok_goto C (show decode cX11_count 32 = .ok (.goto 4, 3) from dk_at dq44_20 (i := 2) rfl) (tg := 36) (by decide) rfl, ?_⟩
  refine List.forall_mem_cons.mpr ⟨ok_iconst C (show decode cX11_count 35 = .ok (.iconst (-1), 1) from dk_at dq44_20 (i := 3) rfl) (by decide) rfl, ?_⟩
  refine List.forall_mem_cons.mpr ⟨ok_ret C rfl (show decode cX11_count 36 = .ok (.ireturn, 1) from dk_at dq44_20 (i := 4) rfl), ?_⟩
  exact fun _ h => absurd h List.not_mem_nil
end
-- 51.man.lean.txt
section
def L_X10_man (f_X10_isMan : List Value → ab_H → Option ab_O) (f_X6_missersOf : List Value → ab_H → Option ab_O) (f_X6_missedBy : List Value → ab_H → Option ab_O) (f_X6_isAlive : List Value → ab_H → Option ab_O) : List (Nat × ab_A) := [
  (0, ab_nx 1 (ab_aload 0)),
  (1, ab_nx 2 (ab_iload 1)),
  (2, ab_nx 5 (ab_callV 2 10 f_X10_isMan 0 0 1 6)),
  (5, ab_if 8 18 (fun x => !decide (x = 0))),
  (8, ab_thr),
  (11, ab_nx 12 ab_dup),
  (12, ab_no),
  (14, ab_no),
  (17, ab_no),
  (18, ab_nx 19 (ab_iload 2)),
  (19, ab_tab 0 [52, 62, 75, 88, 98] 115),
  (52, ab_nx 53 (ab_aload 0)),
  (53, ab_nx 56 (ab_getf 10 4)),
  (56, ab_nx 59 (ab_getf 6 4)),
  (59, ab_nx 60 (ab_iload 1)),
  (60, ab_nx 61 (ab_ald 1)),
  (61, ab_ret 1 6),
  (62, ab_nx 63 (ab_aload 0)),
  (63, ab_nx 66 (ab_getf 10 4)),
  (66, ab_nx 67 (ab_aload 0)),
  (67, ab_nx 70 (ab_getf 10 13)),
  (70, ab_nx 71 (ab_iload 1)),
  (71, ab_nx 74 (ab_callV 3 6 f_X6_missersOf 0 0 1 6)),
  (74, ab_ret 1 6),
  (75, ab_nx 76 (ab_aload 0)),
  (76, ab_nx 79 (ab_getf 10 4)),
  (79, ab_nx 80 (ab_aload 0)),
  (80, ab_nx 83 (ab_getf 10 13)),
  (83, ab_nx 84 (ab_iload 1)),
  (84, ab_nx 87 (ab_callV 3 6 f_X6_missedBy 0 0 1 6)),
  (87, ab_ret 1 6),
  (88, ab_nx 89 (ab_aload 0)),
  (89, ab_nx 92 (ab_getf 10 4)),
  (92, ab_nx 95 (ab_getf 6 5)),
  (95, ab_nx 96 (ab_iload 1)),
  (96, ab_nx 97 (ab_ald 1)),
  (97, ab_ret 1 6),
  (98, ab_nx 99 (ab_aload 0)),
  (99, ab_nx 102 (ab_getf 10 4)),
  (102, ab_nx 103 (ab_iload 1)),
  (103, ab_nx 106 (ab_callV 2 6 f_X6_isAlive 0 0 1 6)),
  (106, ab_if 109 113 (fun x => decide (x = 0))),
  (109, ab_nx 110 (ab_lit (.int 1))),
  (110, ab_goto 114),
  (113, ab_nx 114 (ab_lit (.int 0))),
  (114, ab_ret 1 6),
  (115, ab_thr),
  (118, ab_nx 119 ab_dup),
  (119, ab_no),
  (121, ab_no),
  (124, ab_no)]
def ab_Mx (l : Launch) (b : ab_B) (D : va_G) (cA : Nat → ClassId) (X : List Value → ab_H → Option ab_O) : Prop := ∀ (as : List Value) (hp : ab_H) (o : ab_O), X as hp = some o → vx_Met l yX10_man (Cond.code yX10_man cX10_man 3 (some .int) :: ab_G) ({ frames := 8, cells := 1, slots := 6, locals := 800 } : Room) (ab_Px b D ab_cl cA (ab_E0 b) as hp) (ab_Qy b D ab_cl cA o) (ab_Xc b D ab_cl cA o) 1 6 (fun q => b.1 ≤ q)
set_option maxRecDepth 100000 in
theorem dq51_0 : ([(0, .aload_n 0, 1), (1, .iload_n 1, 1), (2, .invokevirtual 149, 3), (5, .ifCond .ne 13, 3), (8, .new 186, 3), (11, .dup, 1), (12, .ldc 188, 2), (14, .invokespecial 190, 3), (17, .athrow, 1), (18, .iload_n 2, 1), (19, .tableswitch 96 0 4 #[33, 43, 56, 69, 79], 33), (52, .aload_n 0, 1), (53, .getfield 40, 3), (56, .getfield 193, 3), (59, .iload_n 1, 1), (60, .iaload, 1)] : List (Nat × Instr × Nat)).all (fun q => decide (decode cX10_man q.1 = .ok q.2)) = true := by decide +kernel
set_option maxRecDepth 100000 in
theorem dq51_1 : ([(61, .ireturn, 1), (62, .aload_n 0, 1), (63, .getfield 40, 3), (66, .aload_n 0, 1), (67, .getfield 83, 3), (70, .iload_n 1, 1), (71, .invokevirtual 196, 3), (74, .ireturn, 1), (75, .aload_n 0, 1), (76, .getfield 40, 3), (79, .aload_n 0, 1), (80, .getfield 83, 3), (83, .iload_n 1, 1), (84, .invokevirtual 199, 3), (87, .ireturn, 1), (88, .aload_n 0, 1)] : List (Nat × Instr × Nat)).all (fun q => decide (decode cX10_man q.1 = .ok q.2)) = true := by decide +kernel
set_option maxRecDepth 100000 in
theorem dq51_2 : ([(89, .getfield 40, 3), (92, .getfield 202, 3), (95, .iload_n 1, 1), (96, .iaload, 1), (97, .ireturn, 1), (98, .aload_n 0, 1), (99, .getfield 40, 3), (102, .iload_n 1, 1), (103, .invokevirtual 152, 3), (106, .ifCond .eq 7, 3), (109, .iconst 1, 1), (110, .goto 4, 3), (113, .iconst 0, 1), (114, .ireturn, 1), (115, .new 186, 3), (118, .dup, 1)] : List (Nat × Instr × Nat)).all (fun q => decide (decode cX10_man q.1 = .ok q.2)) = true := by decide +kernel
set_option maxRecDepth 100000 in
theorem dq51_3 : ([(119, .ldc 205, 2), (121, .invokespecial 190, 3), (124, .athrow, 1)] : List (Nat × Instr × Nat)).all (fun q => decide (decode cX10_man q.1 = .ok q.2)) = true := by decide +kernel
set_option maxRecDepth 100000 in
set_option maxHeartbeats 4000000 in
theorem M_X10_man {l : Launch} (htr : l.stackTraces = false) {b : ab_B} {D : va_G} {cA : Nat → ClassId} {f_X10_isMan : List Value → ab_H → Option ab_O} (h_X10_isMan : ab_M l b D ab_cl cA (ab_E0 b) yX10_isMan (Cond.code yX10_isMan cX10_isMan 2 (some .boolean) :: ab_G) ({ frames := 1, cells := 0, slots := 0, locals := 100 } : Room) f_X10_isMan) {f_X6_missersOf : List Value → ab_H → Option ab_O} (h_X6_missersOf : ab_M l b D ab_cl cA (ab_E0 b) yX6_missersOf (Cond.code yX6_missersOf cX6_missersOf 5 (some .int) :: ab_G) ({ frames := 3, cells := 0, slots := 0, locals := 300 } : Room) f_X6_missersOf) {f_X6_missedBy : List Value → ab_H → Option ab_O} (h_X6_missedBy : ab_M l b D ab_cl cA (ab_E0 b) yX6_missedBy (Cond.code yX6_missedBy cX6_missedBy 5 (some .int) :: ab_G) ({ frames := 3, cells := 0, slots := 0, locals := 300 } : Room) f_X6_missedBy) {f_X6_isAlive : List Value → ab_H → Option ab_O} (h_X6_isAlive : ab_M l b D ab_cl cA (ab_E0 b) yX6_isAlive (Cond.code yX6_isAlive cX6_isAlive 2 (some .boolean) :: ab_G) ({ frames := 1, cells := 0, slots := 0, locals := 100 } : Room) f_X6_isAlive) : ab_Mx l b D cA (ab_X (ab_T (L_X10_man f_X10_isMan f_X6_missersOf f_X6_missedBy f_X6_isAlive)) 3) := by
  refine ab_methx (ret := (some .int)) (L_X10_man f_X10_isMan f_X6_missersOf f_X6_missedBy f_X6_isAlive) (by decide) rfl fun p e R s m args below meth c o C hout => ?_
  unfold L_X10_man
  refine List.forall_mem_cons.mpr ⟨ok_aload_n C (show decode cX10_man 0 = .ok (.aload_n 0, 1) from dk_at dq51_0 (i := 0) rfl) rfl rfl, ?_⟩
  refine List.forall_mem_cons.mpr ⟨ok_iload_n C (show decode cX10_man 1 = .ok (.iload_n 1, 1) from dk_at dq51_0 (i := 1) rfl) rfl rfl, ?_⟩
  refine List.forall_mem_cons.mpr ⟨ok_callV C h_X10_isMan ⟨rfl, rfl⟩ rfl kw_628 kw_625 kw_627 kp_18 kw_1 rfl ds_X10_isMan ⟨by decide, by decide⟩ (show decode cX10_man 2 = .ok (.invokevirtual 149, 3) from dk_at dq51_0 (i := 2) rfl) rfl, ?_⟩
  refine List.forall_mem_cons.mpr ⟨ok_ifne C (show decode cX10_man 5 = .ok (.ifCond .ne 13, 3) from dk_at dq51_0 (i := 3) rfl) (tg := 18) (by decide) rfl rfl, ?_⟩
  refine List.forall_mem_cons.mpr ⟨ok_thr C htr hout (t := 2) (cx_E C).2.2.2.2.1 (show decode cX10_man 8 = .ok (.new 186, 3) from dk_at dq51_0 (i := 4) rfl) (show decode cX10_man 11 = .ok (.dup, 1) from dk_at dq51_0 (i := 5) rfl) (show decode cX10_man 12 = .ok (.ldc 188, 2) from dk_at dq51_0 (i := 6) rfl) (show decode cX10_man 14 = .ok (.invokespecial 190, 3) from dk_at dq51_0 (i := 7) rfl) (show decode cX10_man 17 = .ok (.athrow, 1) from dk_at dq51_0 (i := 8) rfl), ?_⟩
  refine List.forall_mem_cons.mpr ⟨ok_dup C (show decode cX10_man 11 = .ok (.dup, 1) from dk_at dq51_0 (i := 5) rfl) rfl, ?_⟩
  refine List.forall_mem_cons.mpr ⟨ok_no, ?_⟩
  refine List.forall_mem_cons.mpr ⟨ok_no, ?_⟩
  refine List.forall_mem_cons.mpr ⟨ok_no, ?_⟩
  refine List.forall_mem_cons.mpr ⟨ok_iload_n C (show decode cX10_man 18 = .ok (.iload_n 2, 1) from dk_at dq51_0 (i := 9) rfl) rfl rfl, ?_⟩
  refine List.forall_mem_cons.mpr ⟨ok_tab C (show decode cX10_man 19 = .ok (.tableswitch 96 0 4 #[33, 43, 56, 69, 79], 33) from dk_at dq51_0 (i := 10) rfl) (by decide) (by decide) (by decide), ?_⟩
  refine List.forall_mem_cons.mpr ⟨ok_aload_n C (show decode cX10_man 52 = .ok (.aload_n 0, 1) from dk_at dq51_0 (i := 11) rfl) rfl rfl, ?_⟩
  refine List.forall_mem_cons.mpr ⟨ok_getf C (wi_X10) rfl (by decide) kw_319 (show decode cX10_man 53 = .ok (.getfield 40, 3) from dk_at dq51_0 (i := 12) rfl) rfl, ?_⟩
  refine List.forall_mem_cons.mpr ⟨ok_getf C (wi_X6) rfl (by decide) kw_157 (show decode cX10_man 56 = .ok (.getfield 193, 3) from dk_at dq51_0 (i := 13) rfl) rfl, ?_⟩
  refine List.forall_mem_cons.mpr ⟨ok_iload_n C (show decode cX10_man 59 = .ok (.iload_n 1, 1) from dk_at dq51_0 (i := 14) rfl) rfl rfl, ?_⟩
  refine List.forall_mem_cons.mpr ⟨ok_iaload C (show decode cX10_man 60 = .ok (.iaload, 1) from dk_at dq51_0 (i := 15) rfl) rfl, ?_⟩
  refine List.forall_mem_cons.mpr ⟨ok_retx C rfl (show decode cX10_man 61 = .ok (.ireturn, 1) from dk_at dq51_1 (i := 0) rfl), ?_⟩
  refine List.forall_mem_cons.mpr ⟨ok_aload_n C (show decode cX10_man 62 = .ok (.aload_n 0, 1) from dk_at dq51_1 (i := 1) rfl) rfl rfl, ?_⟩
  refine List.forall_mem_cons.mpr ⟨ok_getf C (wi_X10) rfl (by decide) kw_319 (show decode cX10_man 63 = .ok (.getfield 40, 3) from dk_at dq51_1 (i := 2) rfl) rfl, ?_⟩
  refine List.forall_mem_cons.mpr ⟨ok_aload_n C (show decode cX10_man 66 = .ok (.aload_n 0, 1) from dk_at dq51_1 (i := 3) rfl) rfl rfl, ?_⟩
  refine List.forall_mem_cons.mpr ⟨ok_getf C (wi_X10) rfl (by decide) kw_328 (show decode cX10_man 67 = .ok (.getfield 83, 3) from dk_at dq51_1 (i := 4) rfl) rfl, ?_⟩
  refine List.forall_mem_cons.mpr ⟨ok_iload_n C (show decode cX10_man 70 = .ok (.iload_n 1, 1) from dk_at dq51_1 (i := 5) rfl) rfl rfl, ?_⟩
  refine List.forall_mem_cons.mpr ⟨ok_callV C h_X6_missersOf ⟨rfl, rfl⟩ rfl kw_668 kw_665 kw_666 kw_667 kw_6 rfl ds_X6_missersOf ⟨by decide, by decide⟩ (show decode cX10_man 71 = .ok (.invokevirtual 196, 3) from dk_at dq51_1 (i := 6) rfl) rfl, ?_⟩
  refine List.forall_mem_cons.mpr ⟨ok_retx C rfl (show decode cX10_man 74 = .ok (.ireturn, 1) from dk_at dq51_1 (i := 7) rfl), ?_⟩
  refine List.forall_mem_cons.mpr ⟨ok_aload_n C (show decode cX10_man 75 = .ok (.aload_n 0, 1) from dk_at dq51_1 (i := 8) rfl) rfl rfl, ?_⟩
  refine List.forall_mem_cons.mpr ⟨ok_getf C (wi_X10) rfl (by decide) kw_319 (show decode cX10_man 76 = .ok (.getfield 40, 3) from dk_at dq51_1 (i := 9) rfl) rfl, ?_⟩
  refine List.forall_mem_cons.mpr ⟨ok_aload_n C (show decode cX10_man 79 = .ok (.aload_n 0, 1) from dk_at dq51_1 (i := 10) rfl) rfl rfl, ?_⟩
  refine List.forall_mem_cons.mpr ⟨ok_getf C (wi_X10) rfl (by decide) kw_328 (show decode cX10_man 80 = .ok (.getfield 83, 3) from dk_at dq51_1 (i := 11) rfl) rfl, ?_⟩
  refine List.forall_mem_cons.mpr ⟨ok_iload_n C (show decode cX10_man 83 = .ok (.iload_n 1, 1) from dk_at dq51_1 (i := 12) rfl) rfl rfl, ?_⟩
  refine List.forall_mem_cons.mpr ⟨ok_callV C h_X6_missedBy ⟨rfl, rfl⟩ rfl kw_1135 kw_1132 kw_1133 kw_1134 kw_6 rfl ds_X6_missedBy ⟨by decide, by decide⟩ (show decode cX10_man 84 = .ok (.invokevirtual 199, 3) from dk_at dq51_1 (i := 13) rfl) rfl, ?_⟩
  refine List.forall_mem_cons.mpr ⟨ok_retx C rfl (show decode cX10_man 87 = .ok (.ireturn, 1) from dk_at dq51_1 (i := 14) rfl), ?_⟩
  refine List.forall_mem_cons.mpr ⟨ok_aload_n C (show decode cX10_man 88 = .ok (.aload_n 0, 1) from dk_at dq51_1 (i := 15) rfl) rfl rfl, ?_⟩
  refine List.forall_mem_cons.mpr ⟨ok_getf C (wi_X10) rfl (by decide) kw_319 (show decode cX10_man 89 = .ok (.getfield 40, 3) from dk_at dq51_2 (i := 0) rfl) rfl, ?_⟩
  refine List.forall_mem_cons.mpr ⟨ok_getf C (wi_X6) rfl (by decide) kw_160 (show decode cX10_man 92 = .ok (.getfield 202, 3) from dk_at dq51_2 (i := 1) rfl) rfl, ?_⟩
  refine List.forall_mem_cons.mpr ⟨ok_iload_n C (show decode cX10_man 95 = .ok (.iload_n 1, 1) from dk_at dq51_2 (i := 2) rfl) rfl rfl, ?_⟩
  refine List.forall_mem_cons.mpr ⟨ok_iaload C (show decode cX10_man 96 = .ok (.iaload, 1) from dk_at dq51_2 (i := 3) rfl) rfl, ?_⟩
  refine List.forall_mem_cons.mpr ⟨ok_retx C rfl (show decode cX10_man 97 = .ok (.ireturn, 1) from dk_at dq51_2 (i := 4) rfl), ?_⟩
  refine List.forall_mem_cons.mpr ⟨ok_aload_n C (show decode cX10_man 98 = .ok (.aload_n 0, 1) from dk_at dq51_2 (i := 5) rfl) rfl rfl, ?_⟩
  refine List.forall_mem_cons.mpr ⟨ok_getf C (wi_X10) rfl (by decide) kw_319 (show decode cX10_man 99 = .ok (.getfield 40, 3) from dk_at dq51_2 (i := 6) rfl) rfl, ?_⟩
  refine List.forall_mem_cons.mpr ⟨ok_iload_n C (show decode cX10_man 102 = .ok (.iload_n 1, 1) from dk_at dq51_2 (i := 7) rfl) rfl rfl, ?_⟩
  refine List.forall_mem_cons.mpr ⟨ok_callV C h_X6_isAlive ⟨rfl, rfl⟩ rfl kw_632 kw_629 kw_630 kw_631 kw_6 rfl ds_X6_isAlive ⟨by decide, by decide⟩ (show decode cX10_man 103 = .ok (.invokevirtual 152, 3) from dk_at dq51_2 (i := 8) rfl) rfl, ?_⟩
  refine List.forall_mem_cons.mpr ⟨ok_ifeq C (show decode cX10_man 106 = .ok (.ifCond .eq 7, 3) from dk_at dq51_2 (i := 9) rfl) (tg := 113) (by decide) rfl rfl, ?_⟩
  refine List.forall_mem_cons.mpr ⟨ok_iconst C (show decode cX10_man 109 = .ok (.iconst 1, 1) from dk_at dq51_2 (i := 10) rfl) (by decide) rfl, ?_⟩
  refine List.forall_mem_cons.mpr ⟨ok_goto C (show decode cX10_man 110 = .ok (.goto 4, 3) from dk_at dq51_2 (i := 11) rfl) (tg := 114) (by decide) rfl, ?_⟩
  refine List.forall_mem_cons.mpr ⟨ok_iconst C (show decode cX10_man 113 = .ok (.iconst 0, 1) from dk_at dq51_2 (i := 12) rfl) (by decide) rfl, ?_⟩
  refine List.forall_mem_cons.mpr ⟨ok_retx C rfl (show decode cX10_man 114 = .ok (.ireturn, 1) from dk_at dq51_2 (i := 13) rfl), ?_⟩
  refine List.forall_mem_cons.mpr ⟨ok_thr C htr hout (t := 3) (cx_E C).2.2.2.2.2.1 (show decode cX10_man 115 = .ok (.new 186, 3) from dk_at dq51_2 (i := 14) rfl) (show decode cX10_man 118 = .ok (.dup, 1) from dk_at dq51_2 (i := 15) rfl) (show decode cX10_man 119 = .ok (.ldc 205, 2) from dk_at dq51_3 (i := 0) rfl) (show decode cX10_man 121 = .ok (.invokespecial 190, 3) from dk_at dq51_3 (i := 1) rfl) (show decode cX10_man 124 = .ok (.athrow, 1) from dk_at dq51_3 (i := 2) rfl), ?_⟩
  refine List.forall_mem_cons.mpr ⟨ok_dup C (show decode cX10_man 118 = .ok (.dup, 1) from dk_at dq51_2 (i := 15) rfl) rfl, ?_⟩
  refine List.forall_mem_cons.mpr ⟨ok_no, ?_⟩
  refine List.forall_mem_cons.mpr ⟨ok_no, ?_⟩
  refine List.forall_mem_cons.mpr ⟨ok_no, ?_⟩
  exact fun _ h => absurd h List.not_mem_nil
def L_L_man (f_X10_man : List Value → ab_H → Option ab_O) : List (Nat × ab_A) := [
  (0, ab_nx 1 (ab_aload 3)),
  (1, ab_nx 2 (ab_lit (.int 0))),
  (2, ab_nx 3 (ab_aload 0)),
  (3, ab_nx 4 (ab_iload 1)),
  (4, ab_nx 5 (ab_iload 2)),
  (5, ab_callX 8 15 4 3 10 f_X10_man 1 6 1 6),
  (8, ab_nx 9 ab_i2l),
  (9, ab_nx 10 ab_last),
  (10, ab_goto 17),
  (15, ab_nx 16 (ab_lit (.int 1))),
  (16, ab_ret 1 6),
  (17, ab_nx 18 (ab_lit (.int 0))),
  (18, ab_ret 1 6)]
set_option maxRecDepth 100000 in
theorem dq51_4 : ([(0, .aload_n 3, 1), (1, .iconst 0, 1), (2, .aload_n 0, 1), (3, .iload_n 1, 1), (4, .iload_n 2, 1), (13, .astore 4, 2), (5, .invokevirtual 7, 3), (8, .i2l, 1), (9, .lastore, 1), (10, .goto 7, 3), (15, .iconst 1, 1), (16, .ireturn, 1), (17, .iconst 0, 1), (18, .ireturn, 1)] : List (Nat × Instr × Nat)).all (fun q => decide (decode cL_man q.1 = .ok q.2)) = true := by decide +kernel
set_option maxRecDepth 100000 in
set_option maxHeartbeats 4000000 in
theorem M_L_man {l : Launch} {b : ab_B} {D : va_G} {cA : Nat → ClassId} {f_X10_man : List Value → ab_H → Option ab_O} (h_X10_man : ab_Mx l b D cA f_X10_man) : ab_M l b D ab_cl cA (ab_E0 b) yL_man (Cond.codeWith yL_man cL_man 5 (some .int) [(0, 10, 13, 13)] :: ab_G) ({ frames := 9, cells := 1, slots := 6, locals := 900 } : Room) (ab_X (ab_T (L_L_man f_X10_man)) 5) := by
  refine ab_methW (ret := (some .int)) (L_L_man f_X10_man) (by decide) rfl fun p e R s m args below meth c o C htab => ?_
  unfold L_L_man
  refine List.forall_mem_cons.mpr ⟨ok_aload_n C (show decode cL_man 0 = .ok (.aload_n 3, 1) from dk_at dq51_4 (i := 0) rfl) rfl rfl, ?_⟩
  refine List.forall_mem_cons.mpr ⟨ok_iconst C (show decode cL_man 1 = .ok (.iconst 0, 1) from dk_at dq51_4 (i := 1) rfl) (by decide) rfl, ?_⟩
  refine List.forall_mem_cons.mpr ⟨ok_aload_n C (show decode cL_man 2 = .ok (.aload_n 0, 1) from dk_at dq51_4 (i := 2) rfl) rfl rfl, ?_⟩
  refine List.forall_mem_cons.mpr ⟨ok_iload_n C (show decode cL_man 3 = .ok (.iload_n 1, 1) from dk_at dq51_4 (i := 3) rfl) rfl rfl, ?_⟩
  refine List.forall_mem_cons.mpr ⟨ok_iload_n C (show decode cL_man 4 = .ok (.iload_n 2, 1) from dk_at dq51_4 (i := 4) rfl) rfl rfl, ?_⟩
  refine List.forall_mem_cons.mpr ⟨ok_callX C h_X10_man htab rfl kw_1066 kw_1063 kw_1064 kw_1065 kw_1 ds_X10_man ⟨by decide, by decide⟩ kw_1062 (show decode cL_man 13 = .ok (.astore 4, 2) from dk_at dq51_4 (i := 5) rfl) rfl (show decode cL_man 5 = .ok (.invokevirtual 7, 3) from dk_at dq51_4 (i := 6) rfl) rfl, ?_⟩
  refine List.forall_mem_cons.mpr ⟨ok_i2l C (show decode cL_man 8 = .ok (.i2l, 1) from dk_at dq51_4 (i := 7) rfl) rfl, ?_⟩
  refine List.forall_mem_cons.mpr ⟨ok_lastore C (show decode cL_man 9 = .ok (.lastore, 1) from dk_at dq51_4 (i := 8) rfl) rfl, ?_⟩
  refine List.forall_mem_cons.mpr ⟨ok_goto C (show decode cL_man 10 = .ok (.goto 7, 3) from dk_at dq51_4 (i := 9) rfl) (tg := 17) (by decide) rfl, ?_⟩
  refine List.forall_mem_cons.mpr ⟨ok_iconst C (show decode cL_man 15 = .ok (.iconst 1, 1) from dk_at dq51_4 (i := 10) rfl) (by decide) rfl, ?_⟩
  refine List.forall_mem_cons.mpr ⟨ok_ret C rfl (show decode cL_man 16 = .ok (.ireturn, 1) from dk_at dq51_4 (i := 11) rfl), ?_⟩
  refine List.forall_mem_cons.mpr ⟨ok_iconst C (show decode cL_man 17 = .ok (.iconst 0, 1) from dk_at dq51_4 (i := 12) rfl) (by decide) rfl, ?_⟩
  refine List.forall_mem_cons.mpr ⟨ok_ret C rfl (show decode cL_man 18 = .ok (.ireturn, 1) from dk_at dq51_4 (i := 13) rfl), ?_⟩
  exact fun _ h => absurd h List.not_mem_nil
end
