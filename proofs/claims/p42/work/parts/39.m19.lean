def L_X11_meet (f_X11_isMan : List Value → ab_H → Option ab_O) (f_X11_isDead : List Value → ab_H → Option ab_O) (f_X11_tries : List Value → ab_H → Option ab_O) (f_X11_areUnlike : List Value → ab_H → Option ab_O) (f_X11_goesOn : List Value → ab_H → Option ab_O) (f_X11_back : List Value → ab_H → Option ab_O) : List (Nat × ab_A) := [
  (0, ab_nx 1 (ab_aload 0)),
  (1, ab_nx 2 (ab_lit (.int 0))),
  (2, ab_nx 5 (ab_putf 11 0 0)),
  (5, ab_nx 6 (ab_aload 0)),
  (6, ab_nx 7 (ab_iload 1)),
  (7, ab_nx 10 (ab_callV 2 11 f_X11_isMan 0 0 0 0)),
  (10, ab_if 13 42 (fun x => decide (x = 0))),
  (13, ab_nx 14 (ab_aload 0)),
  (14, ab_nx 15 (ab_iload 2)),
  (15, ab_nx 18 (ab_callV 2 11 f_X11_isMan 0 0 0 0)),
  (18, ab_if 21 42 (fun x => decide (x = 0))),
  (21, ab_nx 22 (ab_iload 1)),
  (22, ab_nx 23 (ab_iload 2)),
  (23, ab_icmp 26 42 (fun x y => decide (x = y))),
  (26, ab_nx 27 (ab_aload 0)),
  (27, ab_nx 28 (ab_iload 1)),
  (28, ab_nx 31 (ab_callV 2 11 f_X11_isDead 0 0 0 0)),
  (31, ab_if 34 42 (fun x => !decide (x = 0))),
  (34, ab_nx 35 (ab_aload 0)),
  (35, ab_nx 36 (ab_iload 2)),
  (36, ab_nx 39 (ab_callV 2 11 f_X11_isDead 0 0 0 0)),
  (39, ab_if 42 44 (fun x => decide (x = 0))),
  (42, ab_nx 43 (ab_lit (.int (-1)))),
  (43, ab_ret 0 0),
  (44, ab_nx 45 (ab_aload 0)),
  (45, ab_nx 48 (ab_callV 1 11 f_X11_tries 0 0 0 0)),
  (48, ab_nx 49 (ab_lit (.int 0))),
  (49, ab_nx 50 (ab_istore 3)),
  (50, ab_nx 51 (ab_lit (.int 1))),
  (51, ab_nx 53 (ab_istore 4)),
  (53, ab_nx 55 (ab_iload 4)),
  (55, ab_if 58 95 (fun x => decide (x = 0))),
  (58, ab_nx 59 (ab_aload 0)),
  (59, ab_nx 60 (ab_iload 1)),
  (60, ab_nx 61 (ab_iload 2)),
  (61, ab_nx 64 (ab_callV 3 11 f_X11_areUnlike 0 0 0 0)),
  (64, ab_if 67 95 (fun x => decide (x = 0))),
  (67, ab_nx 68 (ab_iload 3)),
  (68, ab_nx 70 (ab_lit (.int 100))),
  (70, ab_icmp 73 86 (fun x y => decide (y ≤ x))),
  (73, ab_nx 74 (ab_aload 0)),
  (74, ab_nx 75 (ab_lit (.int 1))),
  (75, ab_nx 78 (ab_callV 2 11 f_X11_goesOn 0 0 0 0)),
  (78, ab_nx 79 (ab_lit (.int 1))),
  (79, ab_icmp 82 86 (fun x y => !decide (x = y))),
  (82, ab_nx 83 (ab_lit (.int 1))),
  (83, ab_goto 87),
  (86, ab_nx 87 (ab_lit (.int 0))),
  (87, ab_nx 89 (ab_istore 4)),
  (89, ab_nx 92 (ab_iinc 3 1)),
  (92, ab_goto 53),
  (95, ab_nx 96 (ab_aload 0)),
  (96, ab_nx 99 (ab_callV 1 11 f_X11_back 0 0 0 0)),
  (99, ab_nx 101 (ab_iload 4)),
  (101, ab_if 104 108 (fun x => decide (x = 0))),
  (104, ab_nx 105 (ab_iload 3)),
  (105, ab_goto 109),
  (108, ab_nx 109 (ab_lit (.int (-1)))),
  (109, ab_ret 0 0)]
set_option maxRecDepth 100000 in
set_option maxHeartbeats 4000000 in
theorem M_X11_meet {l : Launch} {b : ab_B} {D : va_G} {cA : Nat → ClassId} {f_X11_isMan : List Value → ab_H → Option ab_O} (h_X11_isMan : ab_M l b D ab_cl cA (ab_E0 b) yX11_isMan (Cond.code yX11_isMan cX11_isMan 2 (some .boolean) :: ab_G) ({ frames := 2, cells := 0, slots := 0, locals := 200 } : Room) f_X11_isMan) {f_X11_isDead : List Value → ab_H → Option ab_O} (h_X11_isDead : ab_M l b D ab_cl cA (ab_E0 b) yX11_isDead (Cond.code yX11_isDead cX11_isDead 2 (some .boolean) :: ab_G) ({ frames := 2, cells := 0, slots := 0, locals := 200 } : Room) f_X11_isDead) {f_X11_tries : List Value → ab_H → Option ab_O} (h_X11_tries : ab_M l b D ab_cl cA (ab_E0 b) yX11_tries (Cond.code yX11_tries cX11_tries 2 none :: ab_G) ({ frames := 1, cells := 0, slots := 0, locals := 100 } : Room) f_X11_tries) {f_X11_areUnlike : List Value → ab_H → Option ab_O} (h_X11_areUnlike : ab_M l b D ab_cl cA (ab_E0 b) yX11_areUnlike (Cond.code yX11_areUnlike cX11_areUnlike 3 (some .boolean) :: ab_G) ({ frames := 3, cells := 0, slots := 0, locals := 300 } : Room) f_X11_areUnlike) {f_X11_goesOn : List Value → ab_H → Option ab_O} (h_X11_goesOn : ab_M l b D ab_cl cA (ab_E0 b) yX11_goesOn (Cond.code yX11_goesOn cX11_goesOn 3 (some .int) :: ab_G) ({ frames := 8, cells := 0, slots := 0, locals := 800 } : Room) f_X11_goesOn) {f_X11_back : List Value → ab_H → Option ab_O} (h_X11_back : ab_M l b D ab_cl cA (ab_E0 b) yX11_back (Cond.code yX11_back cX11_back 2 none :: ab_G) ({ frames := 1, cells := 0, slots := 0, locals := 100 } : Room) f_X11_back) : ab_M l b D ab_cl cA (ab_E0 b) yX11_meet (Cond.code yX11_meet cX11_meet 5 (some .int) :: ab_G) ({ frames := 9, cells := 0, slots := 0, locals := 900 } : Room) (ab_X (ab_T (L_X11_meet f_X11_isMan f_X11_isDead f_X11_tries f_X11_areUnlike f_X11_goesOn f_X11_back)) 5) := by
  refine ab_meth (ret := (some .int)) (L_X11_meet f_X11_isMan f_X11_isDead f_X11_tries f_X11_areUnlike f_X11_goesOn f_X11_back) (by decide) rfl fun p e R s m args below meth c o C => ?_
  unfold L_X11_meet
  refine List.forall_mem_cons.mpr ⟨ok_aload_n C (show decode cX11_meet 0 = .ok (.aload_n 0, 1) by decide +kernel) rfl rfl, ?_⟩
  refine List.forall_mem_cons.mpr ⟨ok_iconst C (show decode cX11_meet 1 = .ok (.iconst 0, 1) by decide +kernel) (by decide) rfl, ?_⟩
  refine List.forall_mem_cons.mpr ⟨ok_putf C (wi_X11) tyX11 tyX11_ok nmX11 rfl (by decide) kw_1180 (Or.inl rfl) (Or.inl ⟨rfl, rfl⟩) (show decode cX11_meet 2 = .ok (.putfield 1, 3) by decide +kernel) rfl, ?_⟩
  refine List.forall_mem_cons.mpr ⟨ok_aload_n C (show decode cX11_meet 5 = .ok (.aload_n 0, 1) by decide +kernel) rfl rfl, ?_⟩
  refine List.forall_mem_cons.mpr ⟨ok_iload_n C (show decode cX11_meet 6 = .ok (.iload_n 1, 1) by decide +kernel) rfl rfl, ?_⟩
  refine List.forall_mem_cons.mpr ⟨ok_callV C h_X11_isMan ⟨rfl, rfl⟩ rfl kw_1433 kw_1430 kw_1432 kp_69 kw_11 rfl ds_X11_isMan ⟨by decide, by decide⟩ (show decode cX11_meet 7 = .ok (.invokevirtual 266, 3) by decide +kernel) rfl, ?_⟩
  refine List.forall_mem_cons.mpr ⟨ok_ifeq C (show decode cX11_meet 10 = .ok (.ifCond .eq 32, 3) by decide +kernel) (tg := 42) (by decide) rfl rfl, ?_⟩
  refine List.forall_mem_cons.mpr ⟨ok_aload_n C (show decode cX11_meet 13 = .ok (.aload_n 0, 1) by decide +kernel) rfl rfl, ?_⟩
  refine List.forall_mem_cons.mpr ⟨ok_iload_n C (show decode cX11_meet 14 = .ok (.iload_n 2, 1) by decide +kernel) rfl rfl, ?_⟩
  refine List.forall_mem_cons.mpr ⟨ok_callV C h_X11_isMan ⟨rfl, rfl⟩ rfl kw_1433 kw_1430 kw_1432 kp_69 kw_11 rfl ds_X11_isMan ⟨by decide, by decide⟩ (show decode cX11_meet 15 = .ok (.invokevirtual 266, 3) by decide +kernel) rfl, ?_⟩
  refine List.forall_mem_cons.mpr ⟨ok_ifeq C (show decode cX11_meet 18 = .ok (.ifCond .eq 24, 3) by decide +kernel) (tg := 42) (by decide) rfl rfl, ?_⟩
  refine List.forall_mem_cons.mpr ⟨ok_iload_n C (show decode cX11_meet 21 = .ok (.iload_n 1, 1) by decide +kernel) rfl rfl, ?_⟩
  refine List.forall_mem_cons.mpr ⟨ok_iload_n C (show decode cX11_meet 22 = .ok (.iload_n 2, 1) by decide +kernel) rfl rfl, ?_⟩
  refine List.forall_mem_cons.mpr ⟨ok_icmpeq C (show decode cX11_meet 23 = .ok (.if_icmp .eq 19, 3) by decide +kernel) (tg := 42) (by decide) rfl rfl, ?_⟩
  refine List.forall_mem_cons.mpr ⟨ok_aload_n C (show decode cX11_meet 26 = .ok (.aload_n 0, 1) by decide +kernel) rfl rfl, ?_⟩
  refine List.forall_mem_cons.mpr ⟨ok_iload_n C (show decode cX11_meet 27 = .ok (.iload_n 1, 1) by decide +kernel) rfl rfl, ?_⟩
  refine List.forall_mem_cons.mpr ⟨ok_callV C h_X11_isDead ⟨rfl, rfl⟩ rfl kw_1441 kw_1438 kw_1440 kp_71 kw_11 rfl ds_X11_isDead ⟨by decide, by decide⟩ (show decode cX11_meet 28 = .ok (.invokevirtual 257, 3) by decide +kernel) rfl, ?_⟩
  refine List.forall_mem_cons.mpr ⟨ok_ifne C (show decode cX11_meet 31 = .ok (.ifCond .ne 11, 3) by decide +kernel) (tg := 42) (by decide) rfl rfl, ?_⟩
  refine List.forall_mem_cons.mpr ⟨ok_aload_n C (show decode cX11_meet 34 = .ok (.aload_n 0, 1) by decide +kernel) rfl rfl, ?_⟩
  refine List.forall_mem_cons.mpr ⟨ok_iload_n C (show decode cX11_meet 35 = .ok (.iload_n 2, 1) by decide +kernel) rfl rfl, ?_⟩
  refine List.forall_mem_cons.mpr ⟨ok_callV C h_X11_isDead ⟨rfl, rfl⟩ rfl kw_1441 kw_1438 kw_1440 kp_71 kw_11 rfl ds_X11_isDead ⟨by decide, by decide⟩ (show decode cX11_meet 36 = .ok (.invokevirtual 257, 3) by decide +kernel) rfl, ?_⟩
  refine List.forall_mem_cons.mpr ⟨ok_ifeq C (show decode cX11_meet 39 = .ok (.ifCond .eq 5, 3) by decide +kernel) (tg := 44) (by decide) rfl rfl, ?_⟩
  refine List.forall_mem_cons.mpr ⟨ok_iconst C (show decode cX11_meet 42 = .ok (.iconst (-1), 1) by decide +kernel) (by decide) rfl, ?_⟩
  refine List.forall_mem_cons.mpr ⟨ok_ret C rfl (show decode cX11_meet 43 = .ok (.ireturn, 1) by decide +kernel), ?_⟩
  refine List.forall_mem_cons.mpr ⟨ok_aload_n C (show decode cX11_meet 44 = .ok (.aload_n 0, 1) by decide +kernel) rfl rfl, ?_⟩
  refine List.forall_mem_cons.mpr ⟨ok_callV C h_X11_tries ⟨rfl, rfl⟩ rfl kw_1556 kw_1553 kw_1555 kp_86 kw_11 rfl ds_X11_tries ⟨by decide, by decide⟩ (show decode cX11_meet 45 = .ok (.invokevirtual 317, 3) by decide +kernel) rfl, ?_⟩
  refine List.forall_mem_cons.mpr ⟨ok_iconst C (show decode cX11_meet 48 = .ok (.iconst 0, 1) by decide +kernel) (by decide) rfl, ?_⟩
  refine List.forall_mem_cons.mpr ⟨ok_istore_n C (show decode cX11_meet 49 = .ok (.istore_n 3, 1) by decide +kernel) rfl (by decide) rfl, ?_⟩
  refine List.forall_mem_cons.mpr ⟨ok_iconst C (show decode cX11_meet 50 = .ok (.iconst 1, 1) by decide +kernel) (by decide) rfl, ?_⟩
  refine List.forall_mem_cons.mpr ⟨ok_istore C (show decode cX11_meet 51 = .ok (.istore 4, 2) by decide +kernel) (by decide) rfl, ?_⟩
  refine List.forall_mem_cons.mpr ⟨ok_iload C (show decode cX11_meet 53 = .ok (.iload 4, 2) by decide +kernel) rfl, ?_⟩
  refine List.forall_mem_cons.mpr ⟨ok_ifeq C (show decode cX11_meet 55 = .ok (.ifCond .eq 40, 3) by decide +kernel) (tg := 95) (by decide) rfl rfl, ?_⟩
  refine List.forall_mem_cons.mpr ⟨ok_aload_n C (show decode cX11_meet 58 = .ok (.aload_n 0, 1) by decide +kernel) rfl rfl, ?_⟩
  refine List.forall_mem_cons.mpr ⟨ok_iload_n C (show decode cX11_meet 59 = .ok (.iload_n 1, 1) by decide +kernel) rfl rfl, ?_⟩
  refine List.forall_mem_cons.mpr ⟨ok_iload_n C (show decode cX11_meet 60 = .ok (.iload_n 2, 1) by decide +kernel) rfl rfl, ?_⟩
  refine List.forall_mem_cons.mpr ⟨ok_callV C h_X11_areUnlike ⟨rfl, rfl⟩ rfl kw_1453 kw_1450 kw_1452 kp_74 kw_11 rfl ds_X11_areUnlike ⟨by decide, by decide⟩ (show decode cX11_meet 61 = .ok (.invokevirtual 260, 3) by decide +kernel) rfl, ?_⟩
  refine List.forall_mem_cons.mpr ⟨ok_ifeq C (show decode cX11_meet 64 = .ok (.ifCond .eq 31, 3) by decide +kernel) (tg := 95) (by decide) rfl rfl, ?_⟩
  refine List.forall_mem_cons.mpr ⟨ok_iload_n C (show decode cX11_meet 67 = .ok (.iload_n 3, 1) by decide +kernel) rfl rfl, ?_⟩
  refine List.forall_mem_cons.mpr ⟨ok_bipush C (show decode cX11_meet 68 = .ok (.bipush 100, 2) by decide +kernel) (by decide) rfl, ?_⟩
  refine List.forall_mem_cons.mpr ⟨ok_icmpge C (show decode cX11_meet 70 = .ok (.if_icmp .ge 16, 3) by decide +kernel) (tg := 86) (by decide) rfl rfl, ?_⟩
  refine List.forall_mem_cons.mpr ⟨ok_aload_n C (show decode cX11_meet 73 = .ok (.aload_n 0, 1) by decide +kernel) rfl rfl, ?_⟩
  refine List.forall_mem_cons.mpr ⟨ok_iconst C (show decode cX11_meet 74 = .ok (.iconst 1, 1) by decide +kernel) (by decide) rfl, ?_⟩
  refine List.forall_mem_cons.mpr ⟨ok_callV C h_X11_goesOn ⟨rfl, rfl⟩ rfl kw_1509 kw_1506 kw_1508 kp_81 kw_11 rfl ds_X11_goesOn ⟨by decide, by decide⟩ (show decode cX11_meet 75 = .ok (.invokevirtual 314, 3) by decide +kernel) rfl, ?_⟩
  refine List.forall_mem_cons.mpr ⟨ok_iconst C (show decode cX11_meet 78 = .ok (.iconst 1, 1) by decide +kernel) (by decide) rfl, ?_⟩
  refine List.forall_mem_cons.mpr ⟨ok_icmpne C (show decode cX11_meet 79 = .ok (.if_icmp .ne 7, 3) by decide +kernel) (tg := 86) (by decide) rfl rfl, ?_⟩
  refine List.forall_mem_cons.mpr ⟨ok_iconst C (show decode cX11_meet 82 = .ok (.iconst 1, 1) by decide +kernel) (by decide) rfl, ?_⟩
  refine List.forall_mem_cons.mpr ⟨ok_goto C (show decode cX11_meet 83 = .ok (.goto 4, 3) by decide +kernel) (tg := 87) (by decide) rfl, ?_⟩
  refine List.forall_mem_cons.mpr ⟨ok_iconst C (show decode cX11_meet 86 = .ok (.iconst 0, 1) by decide +kernel) (by decide) rfl, ?_⟩
  refine List.forall_mem_cons.mpr ⟨ok_istore C (show decode cX11_meet 87 = .ok (.istore 4, 2) by decide +kernel) (by decide) rfl, ?_⟩
  refine List.forall_mem_cons.mpr ⟨ok_iinc C (show decode cX11_meet 89 = .ok (.iinc 3 1, 3) by decide +kernel) (by decide) (by decide) rfl, ?_⟩
  refine List.forall_mem_cons.mpr ⟨ok_goto C (show decode cX11_meet 92 = .ok (.goto (-39), 3) by decide +kernel) (tg := 53) (by decide) rfl, ?_⟩
  refine List.forall_mem_cons.mpr ⟨ok_aload_n C (show decode cX11_meet 95 = .ok (.aload_n 0, 1) by decide +kernel) rfl rfl, ?_⟩
  refine List.forall_mem_cons.mpr ⟨ok_callV C h_X11_back ⟨rfl, rfl⟩ rfl kw_1560 kw_1557 kw_1559 kp_87 kw_11 rfl ds_X11_back ⟨by decide, by decide⟩ (show decode cX11_meet 96 = .ok (.invokevirtual 320, 3) by decide +kernel) rfl, ?_⟩
  refine List.forall_mem_cons.mpr ⟨ok_iload C (show decode cX11_meet 99 = .ok (.iload 4, 2) by decide +kernel) rfl, ?_⟩
  refine List.forall_mem_cons.mpr ⟨ok_ifeq C (show decode cX11_meet 101 = .ok (.ifCond .eq 7, 3) by decide +kernel) (tg := 108) (by decide) rfl rfl, ?_⟩
  refine List.forall_mem_cons.mpr ⟨ok_iload_n C (show decode cX11_meet 104 = .ok (.iload_n 3, 1) by decide +kernel) rfl rfl, ?_⟩
  refine List.forall_mem_cons.mpr ⟨ok_goto C (show decode cX11_meet 105 = .ok (.goto 4, 3) by decide +kernel) (tg := 109) (by decide) rfl, ?_⟩
  refine List.forall_mem_cons.mpr ⟨ok_iconst C (show decode cX11_meet 108 = .ok (.iconst (-1), 1) by decide +kernel) (by decide) rfl, ?_⟩
  refine List.forall_mem_cons.mpr ⟨ok_ret C rfl (show decode cX11_meet 109 = .ok (.ireturn, 1) by decide +kernel), ?_⟩
  exact fun _ h => absurd h List.not_mem_nil
def L_X11_loads (f_X11_isIn : List Value → ab_H → Option ab_O) (f_X11_tries : List Value → ab_H → Option ab_O) (f_X11_goesOn : List Value → ab_H → Option ab_O) (f_X11_back : List Value → ab_H → Option ab_O) : List (Nat × ab_A) := [
  (0, ab_nx 1 (ab_aload 0)),
  (1, ab_nx 2 (ab_lit (.int 0))),
  (2, ab_nx 5 (ab_putf 11 0 0)),
  (5, ab_nx 6 (ab_iload 1)),
  (6, ab_nx 7 (ab_lit (.int 1))),
  (7, ab_nx 9 (ab_lit (.int 60))),
  (9, ab_nx 12 (ab_call 3 f_X11_isIn 0 0 0 0)),
  (12, ab_if 15 17 (fun x => !decide (x = 0))),
  (15, ab_nx 16 (ab_lit (.int (-1)))),
  (16, ab_ret 0 0),
  (17, ab_nx 18 (ab_aload 0)),
  (18, ab_nx 21 (ab_callV 1 11 f_X11_tries 0 0 0 0)),
  (21, ab_nx 22 (ab_aload 0)),
  (22, ab_nx 25 (ab_getf 11 6)),
  (25, ab_nx 27 (ab_lit (.int 122))),
  (27, ab_nx 28 (ab_ald 1)),
  (28, ab_nx 29 (ab_istore 2)),
  (29, ab_nx 30 (ab_aload 0)),
  (30, ab_nx 31 (ab_iload 1)),
  (31, ab_nx 34 (ab_callV 2 11 f_X11_goesOn 0 0 0 0)),
  (34, ab_nx 35 ab_pop),
  (35, ab_nx 36 (ab_aload 0)),
  (36, ab_nx 39 (ab_getf 11 6)),
  (39, ab_nx 41 (ab_lit (.int 122))),
  (41, ab_nx 42 (ab_ald 1)),
  (42, ab_nx 43 (ab_iload 2)),
  (43, ab_nx 44 (ab_bin (fun x y => x - y))),
  (44, ab_nx 45 (ab_istore 3)),
  (45, ab_nx 46 (ab_aload 0)),
  (46, ab_nx 49 (ab_callV 1 11 f_X11_back 0 0 0 0)),
  (49, ab_nx 50 (ab_iload 3)),
  (50, ab_ret 0 0)]
set_option maxRecDepth 100000 in
set_option maxHeartbeats 4000000 in
theorem M_X11_loads {l : Launch} {b : ab_B} {D : va_G} {cA : Nat → ClassId} {f_X11_isIn : List Value → ab_H → Option ab_O} (h_X11_isIn : ab_M l b D ab_cl cA (ab_E0 b) yX11_isIn (Cond.code yX11_isIn cX11_isIn 3 (some .boolean) :: ab_G) ({ frames := 1, cells := 0, slots := 0, locals := 100 } : Room) f_X11_isIn) {f_X11_tries : List Value → ab_H → Option ab_O} (h_X11_tries : ab_M l b D ab_cl cA (ab_E0 b) yX11_tries (Cond.code yX11_tries cX11_tries 2 none :: ab_G) ({ frames := 1, cells := 0, slots := 0, locals := 100 } : Room) f_X11_tries) {f_X11_goesOn : List Value → ab_H → Option ab_O} (h_X11_goesOn : ab_M l b D ab_cl cA (ab_E0 b) yX11_goesOn (Cond.code yX11_goesOn cX11_goesOn 3 (some .int) :: ab_G) ({ frames := 8, cells := 0, slots := 0, locals := 800 } : Room) f_X11_goesOn) {f_X11_back : List Value → ab_H → Option ab_O} (h_X11_back : ab_M l b D ab_cl cA (ab_E0 b) yX11_back (Cond.code yX11_back cX11_back 2 none :: ab_G) ({ frames := 1, cells := 0, slots := 0, locals := 100 } : Room) f_X11_back) : ab_M l b D ab_cl cA (ab_E0 b) yX11_loads (Cond.code yX11_loads cX11_loads 4 (some .int) :: ab_G) ({ frames := 9, cells := 0, slots := 0, locals := 900 } : Room) (ab_X (ab_T (L_X11_loads f_X11_isIn f_X11_tries f_X11_goesOn f_X11_back)) 4) := by
  refine ab_meth (ret := (some .int)) (L_X11_loads f_X11_isIn f_X11_tries f_X11_goesOn f_X11_back) (by decide) rfl fun p e R s m args below meth c o C => ?_
  unfold L_X11_loads
  refine List.forall_mem_cons.mpr ⟨ok_aload_n C (show decode cX11_loads 0 = .ok (.aload_n 0, 1) by decide +kernel) rfl rfl, ?_⟩
  refine List.forall_mem_cons.mpr ⟨ok_iconst C (show decode cX11_loads 1 = .ok (.iconst 0, 1) by decide +kernel) (by decide) rfl, ?_⟩
  refine List.forall_mem_cons.mpr ⟨ok_putf C (wi_X11) tyX11 tyX11_ok nmX11 rfl (by decide) kw_1180 (Or.inl rfl) (Or.inl ⟨rfl, rfl⟩) (show decode cX11_loads 2 = .ok (.putfield 1, 3) by decide +kernel) rfl, ?_⟩
  refine List.forall_mem_cons.mpr ⟨ok_iload_n C (show decode cX11_loads 5 = .ok (.iload_n 1, 1) by decide +kernel) rfl rfl, ?_⟩
  refine List.forall_mem_cons.mpr ⟨ok_iconst C (show decode cX11_loads 6 = .ok (.iconst 1, 1) by decide +kernel) (by decide) rfl, ?_⟩
  refine List.forall_mem_cons.mpr ⟨ok_bipush C (show decode cX11_loads 7 = .ok (.bipush 60, 2) by decide +kernel) (by decide) rfl, ?_⟩
  refine List.forall_mem_cons.mpr ⟨ok_callS C h_X11_isIn ⟨rfl, rfl⟩ kw_1355 kw_1353 kw_1354 kw_11 ds_X11_isIn ⟨by decide, by decide⟩ (show decode cX11_loads 9 = .ok (.invokestatic 179, 3) by decide +kernel) rfl, ?_⟩
  refine List.forall_mem_cons.mpr ⟨ok_ifne C (show decode cX11_loads 12 = .ok (.ifCond .ne 5, 3) by decide +kernel) (tg := 17) (by decide) rfl rfl, ?_⟩
  refine List.forall_mem_cons.mpr ⟨ok_iconst C (show decode cX11_loads 15 = .ok (.iconst (-1), 1) by decide +kernel) (by decide) rfl, ?_⟩
  refine List.forall_mem_cons.mpr ⟨ok_ret C rfl (show decode cX11_loads 16 = .ok (.ireturn, 1) by decide +kernel), ?_⟩
  refine List.forall_mem_cons.mpr ⟨ok_aload_n C (show decode cX11_loads 17 = .ok (.aload_n 0, 1) by decide +kernel) rfl rfl, ?_⟩
  refine List.forall_mem_cons.mpr ⟨ok_callV C h_X11_tries ⟨rfl, rfl⟩ rfl kw_1556 kw_1553 kw_1555 kp_86 kw_11 rfl ds_X11_tries ⟨by decide, by decide⟩ (show decode cX11_loads 18 = .ok (.invokevirtual 317, 3) by decide +kernel) rfl, ?_⟩
  refine List.forall_mem_cons.mpr ⟨ok_aload_n C (show decode cX11_loads 21 = .ok (.aload_n 0, 1) by decide +kernel) rfl rfl, ?_⟩
  refine List.forall_mem_cons.mpr ⟨ok_getf C (wi_X11) rfl (by decide) kw_1186 (show decode cX11_loads 22 = .ok (.getfield 33, 3) by decide +kernel) rfl, ?_⟩
  refine List.forall_mem_cons.mpr ⟨ok_bipush C (show decode cX11_loads 25 = .ok (.bipush 122, 2) by decide +kernel) (by decide) rfl, ?_⟩
  refine List.forall_mem_cons.mpr ⟨ok_iaload C (show decode cX11_loads 27 = .ok (.iaload, 1) by decide +kernel) rfl, ?_⟩
  refine List.forall_mem_cons.mpr ⟨ok_istore_n C (show decode cX11_loads 28 = .ok (.istore_n 2, 1) by decide +kernel) rfl (by decide) rfl, ?_⟩
  refine List.forall_mem_cons.mpr ⟨ok_aload_n C (show decode cX11_loads 29 = .ok (.aload_n 0, 1) by decide +kernel) rfl rfl, ?_⟩
  refine List.forall_mem_cons.mpr ⟨ok_iload_n C (show decode cX11_loads 30 = .ok (.iload_n 1, 1) by decide +kernel) rfl rfl, ?_⟩
  refine List.forall_mem_cons.mpr ⟨ok_callV C h_X11_goesOn ⟨rfl, rfl⟩ rfl kw_1509 kw_1506 kw_1508 kp_81 kw_11 rfl ds_X11_goesOn ⟨by decide, by decide⟩ (show decode cX11_loads 31 = .ok (.invokevirtual 314, 3) by decide +kernel) rfl, ?_⟩
  refine List.forall_mem_cons.mpr ⟨ok_pop C (show decode cX11_loads 34 = .ok (.pop, 1) by decide +kernel) rfl, ?_⟩
  refine List.forall_mem_cons.mpr ⟨ok_aload_n C (show decode cX11_loads 35 = .ok (.aload_n 0, 1) by decide +kernel) rfl rfl, ?_⟩
  refine List.forall_mem_cons.mpr ⟨ok_getf C (wi_X11) rfl (by decide) kw_1186 (show decode cX11_loads 36 = .ok (.getfield 33, 3) by decide +kernel) rfl, ?_⟩
  refine List.forall_mem_cons.mpr ⟨ok_bipush C (show decode cX11_loads 39 = .ok (.bipush 122, 2) by decide +kernel) (by decide) rfl, ?_⟩
  refine List.forall_mem_cons.mpr ⟨ok_iaload C (show decode cX11_loads 41 = .ok (.iaload, 1) by decide +kernel) rfl, ?_⟩
  refine List.forall_mem_cons.mpr ⟨ok_iload_n C (show decode cX11_loads 42 = .ok (.iload_n 2, 1) by decide +kernel) rfl rfl, ?_⟩
  refine List.forall_mem_cons.mpr ⟨ok_isub C (show decode cX11_loads 43 = .ok (.isub, 1) by decide +kernel) rfl, ?_⟩
  refine List.forall_mem_cons.mpr ⟨ok_istore_n C (show decode cX11_loads 44 = .ok (.istore_n 3, 1) by decide +kernel) rfl (by decide) rfl, ?_⟩
  refine List.forall_mem_cons.mpr ⟨ok_aload_n C (show decode cX11_loads 45 = .ok (.aload_n 0, 1) by decide +kernel) rfl rfl, ?_⟩
  refine List.forall_mem_cons.mpr ⟨ok_callV C h_X11_back ⟨rfl, rfl⟩ rfl kw_1560 kw_1557 kw_1559 kp_87 kw_11 rfl ds_X11_back ⟨by decide, by decide⟩ (show decode cX11_loads 46 = .ok (.invokevirtual 320, 3) by decide +kernel) rfl, ?_⟩
  refine List.forall_mem_cons.mpr ⟨ok_iload_n C (show decode cX11_loads 49 = .ok (.iload_n 3, 1) by decide +kernel) rfl rfl, ?_⟩
  refine List.forall_mem_cons.mpr ⟨ok_ret C rfl (show decode cX11_loads 50 = .ok (.ireturn, 1) by decide +kernel), ?_⟩
  exact fun _ h => absurd h List.not_mem_nil
def L_X11_which (f_X11_taken : List Value → ab_H → Option ab_O) (f_X11_isIn : List Value → ab_H → Option ab_O) (f_X11_octet : List Value → ab_H → Option ab_O) (f_X11_cell : List Value → ab_H → Option ab_O) (f_X11_lesser : List Value → ab_H → Option ab_O) : List (Nat × ab_A) := [
  (0, ab_nx 1 (ab_aload 0)),
  (1, ab_nx 2 (ab_lit (.int 0))),
  (2, ab_nx 5 (ab_putf 11 0 0)),
  (5, ab_nx 6 (ab_aload 0)),
  (6, ab_nx 9 (ab_lit (.int 940))),
  (9, ab_nx 12 (ab_callV 2 11 f_X11_taken 0 0 0 0)),
  (12, ab_nx 13 (ab_aload 0)),
  (13, ab_nx 16 (ab_getf 11 3)),
  (16, ab_nx 17 (ab_lit (.int 3))),
  (17, ab_nx 19 (ab_lit (.int 31))),
  (19, ab_nx 22 (ab_call 3 f_X11_isIn 0 0 0 0)),
  (22, ab_if 25 34 (fun x => decide (x = 0))),
  (25, ab_nx 26 (ab_aload 0)),
  (26, ab_nx 27 (ab_lit (.int 0))),
  (27, ab_nx 30 (ab_callV 2 11 f_X11_octet 0 0 0 0)),
  (30, ab_nx 31 (ab_lit (.int 1))),
  (31, ab_icmp 34 36 (fun x y => decide (x ≤ y))),
  (34, ab_nx 35 (ab_lit (.int (-1)))),
  (35, ab_ret 0 0),
  (36, ab_nx 37 (ab_lit (.int 0))),
  (37, ab_nx 38 (ab_istore 1)),
  (38, ab_nx 39 (ab_lit (.int 0))),
  (39, ab_nx 40 (ab_istore 2)),
  (40, ab_nx 41 (ab_iload 2)),
  (41, ab_nx 42 (ab_aload 0)),
  (42, ab_nx 45 (ab_getf 11 6)),
  (45, ab_nx 46 (ab_lit (.int 0))),
  (46, ab_nx 47 (ab_ald 1)),
  (47, ab_icmp 50 170 (fun x y => decide (y ≤ x))),
  (50, ab_nx 51 (ab_iload 2)),
  (51, ab_nx 52 (ab_aload 0)),
  (52, ab_nx 53 (ab_lit (.int 0))),
  (53, ab_nx 56 (ab_callV 2 11 f_X11_octet 0 0 0 0)),
  (56, ab_nx 59 (ab_call 2 f_X11_cell 0 0 0 0)),
  (59, ab_nx 60 (ab_istore 3)),
  (60, ab_nx 61 (ab_lit (.int 1))),
  (61, ab_nx 63 (ab_istore 4)),
  (63, ab_nx 64 (ab_lit (.int 2))),
  (64, ab_nx 66 (ab_istore 5)),
  (66, ab_nx 68 (ab_iload 5)),
  (68, ab_nx 69 (ab_aload 0)),
  (69, ab_nx 72 (ab_getf 11 3)),
  (72, ab_icmp 75 149 (fun x y => decide (y ≤ x))),
  (75, ab_nx 78 (ab_lit (.int 999))),
  (78, ab_nx 79 (ab_aload 0)),
  (79, ab_nx 81 (ab_iload 5)),
  (81, ab_nx 82 (ab_lit (.int 1))),
  (82, ab_nx 83 (ab_bin (fun x y => x - y))),
  (83, ab_nx 86 (ab_callV 2 11 f_X11_octet 0 0 0 0)),
  (86, ab_nx 87 (ab_aload 0)),
  (87, ab_nx 90 (ab_getf 11 6)),
  (90, ab_nx 92 (ab_lit (.int 40))),
  (92, ab_nx 93 (ab_iload 3)),
  (93, ab_nx 94 (ab_bin (fun x y => x + y))),
  (94, ab_nx 95 (ab_ald 1)),
  (95, ab_nx 96 (ab_bin (fun x y => x + y))),
  (96, ab_nx 99 (ab_call 2 f_X11_lesser 0 0 0 0)),
  (99, ab_nx 100 (ab_aload 0)),
  (100, ab_nx 103 (ab_getf 11 6)),
  (103, ab_nx 105 (ab_lit (.int 28))),
  (105, ab_nx 106 (ab_iload 3)),
  (106, ab_nx 107 (ab_bin (fun x y => x + y))),
  (107, ab_nx 108 (ab_ald 1)),
  (108, ab_nx 109 (ab_bin (fun x y => x - y))),
  (109, ab_nx 111 (ab_istore 6)),
  (111, ab_nx 113 (ab_iload 4)),
  (113, ab_if 116 140 (fun x => decide (x = 0))),
  (116, ab_nx 117 (ab_aload 0)),
  (117, ab_nx 119 (ab_iload 5)),
  (119, ab_nx 122 (ab_callV 2 11 f_X11_octet 0 0 0 0)),
  (122, ab_nx 124 (ab_iload 6)),
  (124, ab_if 127 131 (fun x => decide (0 ≤ x))),
  (127, ab_nx 128 (ab_lit (.int 0))),
  (128, ab_goto 133),
  (131, ab_nx 133 (ab_iload 6)),
  (133, ab_icmp 136 140 (fun x y => !decide (x = y))),
  (136, ab_nx 137 (ab_lit (.int 1))),
  (137, ab_goto 141),
  (140, ab_nx 141 (ab_lit (.int 0))),
  (141, ab_nx 143 (ab_istore 4)),
  (143, ab_nx 146 (ab_iinc 5 1)),
  (146, ab_goto 66),
  (149, ab_nx 150 (ab_iload 1)),
  (150, ab_nx 152 (ab_iload 4)),
  (152, ab_if 155 161 (fun x => decide (x = 0))),
  (155, ab_nx 156 (ab_lit (.int 1))),
  (156, ab_nx 157 (ab_iload 2)),
  (157, ab_nx 158 (ab_bin (fun x y => x <<< (y &&& 31)))),
  (158, ab_goto 162),
  (161, ab_nx 162 (ab_lit (.int 0))),
  (162, ab_nx 163 (ab_bin (fun x y => x ||| y))),
  (163, ab_nx 164 (ab_istore 1)),
  (164, ab_nx 167 (ab_iinc 2 1)),
  (167, ab_goto 40),
  (170, ab_nx 171 (ab_iload 1)),
  (171, ab_ret 0 0)]
set_option maxRecDepth 100000 in
set_option maxHeartbeats 4000000 in
theorem M_X11_which {l : Launch} {b : ab_B} {D : va_G} {cA : Nat → ClassId} {f_X11_taken : List Value → ab_H → Option ab_O} (h_X11_taken : ab_M l b D ab_cl cA (ab_E0 b) yX11_taken (Cond.code yX11_taken cX11_taken 2 none :: ab_G) ({ frames := 1, cells := 0, slots := 0, locals := 100 } : Room) f_X11_taken) {f_X11_isIn : List Value → ab_H → Option ab_O} (h_X11_isIn : ab_M l b D ab_cl cA (ab_E0 b) yX11_isIn (Cond.code yX11_isIn cX11_isIn 3 (some .boolean) :: ab_G) ({ frames := 1, cells := 0, slots := 0, locals := 100 } : Room) f_X11_isIn) {f_X11_octet : List Value → ab_H → Option ab_O} (h_X11_octet : ab_M l b D ab_cl cA (ab_E0 b) yX11_octet (Cond.code yX11_octet cX11_octet 2 (some .int) :: ab_G) ({ frames := 1, cells := 0, slots := 0, locals := 100 } : Room) f_X11_octet) {f_X11_cell : List Value → ab_H → Option ab_O} (h_X11_cell : ab_M l b D ab_cl cA (ab_E0 b) yX11_cell (Cond.code yX11_cell cX11_cell 2 (some .int) :: ab_G) ({ frames := 1, cells := 0, slots := 0, locals := 100 } : Room) f_X11_cell) {f_X11_lesser : List Value → ab_H → Option ab_O} (h_X11_lesser : ab_M l b D ab_cl cA (ab_E0 b) yX11_lesser (Cond.code yX11_lesser cX11_lesser 2 (some .int) :: ab_G) ({ frames := 1, cells := 0, slots := 0, locals := 100 } : Room) f_X11_lesser) : ab_M l b D ab_cl cA (ab_E0 b) yX11_which (Cond.code yX11_which cX11_which 7 (some .int) :: ab_G) ({ frames := 2, cells := 0, slots := 0, locals := 200 } : Room) (ab_X (ab_T (L_X11_which f_X11_taken f_X11_isIn f_X11_octet f_X11_cell f_X11_lesser)) 7) := by
  refine ab_meth (ret := (some .int)) (L_X11_which f_X11_taken f_X11_isIn f_X11_octet f_X11_cell f_X11_lesser) (by decide) rfl fun p e R s m args below meth c o C => ?_
  unfold L_X11_which
  refine List.forall_mem_cons.mpr ⟨ok_aload_n C (show decode cX11_which 0 = .ok (.aload_n 0, 1) by decide +kernel) rfl rfl, ?_⟩
  refine List.forall_mem_cons.mpr ⟨ok_iconst C (show decode cX11_which 1 = .ok (.iconst 0, 1) by decide +kernel) (by decide) rfl, ?_⟩
  refine List.forall_mem_cons.mpr ⟨ok_putf C (wi_X11) tyX11 tyX11_ok nmX11 rfl (by decide) kw_1180 (Or.inl rfl) (Or.inl ⟨rfl, rfl⟩) (show decode cX11_which 2 = .ok (.putfield 1, 3) by decide +kernel) rfl, ?_⟩
  refine List.forall_mem_cons.mpr ⟨ok_aload_n C (show decode cX11_which 5 = .ok (.aload_n 0, 1) by decide +kernel) rfl rfl, ?_⟩
  refine List.forall_mem_cons.mpr ⟨ok_sipush C (show decode cX11_which 6 = .ok (.sipush 940, 3) by decide +kernel) (by decide) rfl, ?_⟩
  refine List.forall_mem_cons.mpr ⟨ok_callV C h_X11_taken ⟨rfl, rfl⟩ rfl kw_1318 kw_1315 kw_1317 kp_48 kw_11 rfl ds_X11_taken ⟨by decide, by decide⟩ (show decode cX11_which 9 = .ok (.invokevirtual 224, 3) by decide +kernel) rfl, ?_⟩
  refine List.forall_mem_cons.mpr ⟨ok_aload_n C (show decode cX11_which 12 = .ok (.aload_n 0, 1) by decide +kernel) rfl rfl, ?_⟩
  refine List.forall_mem_cons.mpr ⟨ok_getf C (wi_X11) rfl (by decide) kw_1183 (show decode cX11_which 13 = .ok (.getfield 18, 3) by decide +kernel) rfl, ?_⟩
  refine List.forall_mem_cons.mpr ⟨ok_iconst C (show decode cX11_which 16 = .ok (.iconst 3, 1) by decide +kernel) (by decide) rfl, ?_⟩
  refine List.forall_mem_cons.mpr ⟨ok_bipush C (show decode cX11_which 17 = .ok (.bipush 31, 2) by decide +kernel) (by decide) rfl, ?_⟩
  refine List.forall_mem_cons.mpr ⟨ok_callS C h_X11_isIn ⟨rfl, rfl⟩ kw_1355 kw_1353 kw_1354 kw_11 ds_X11_isIn ⟨by decide, by decide⟩ (show decode cX11_which 19 = .ok (.invokestatic 179, 3) by decide +kernel) rfl, ?_⟩
  refine List.forall_mem_cons.mpr ⟨ok_ifeq C (show decode cX11_which 22 = .ok (.ifCond .eq 12, 3) by decide +kernel) (tg := 34) (by decide) rfl rfl, ?_⟩
  refine List.forall_mem_cons.mpr ⟨ok_aload_n C (show decode cX11_which 25 = .ok (.aload_n 0, 1) by decide +kernel) rfl rfl, ?_⟩
  refine List.forall_mem_cons.mpr ⟨ok_iconst C (show decode cX11_which 26 = .ok (.iconst 0, 1) by decide +kernel) (by decide) rfl, ?_⟩
  refine List.forall_mem_cons.mpr ⟨ok_callV C h_X11_octet ⟨rfl, rfl⟩ rfl kw_1584 kw_1581 kw_1583 kp_88 kw_11 rfl ds_X11_octet ⟨by decide, by decide⟩ (show decode cX11_which 27 = .ok (.invokevirtual 323, 3) by decide +kernel) rfl, ?_⟩
  refine List.forall_mem_cons.mpr ⟨ok_iconst C (show decode cX11_which 30 = .ok (.iconst 1, 1) by decide +kernel) (by decide) rfl, ?_⟩
  refine List.forall_mem_cons.mpr ⟨ok_icmple C (show decode cX11_which 31 = .ok (.if_icmp .le 5, 3) by decide +kernel) (tg := 36) (by decide) rfl rfl, ?_⟩
  refine List.forall_mem_cons.mpr ⟨ok_iconst C (show decode cX11_which 34 = .ok (.iconst (-1), 1) by decide +kernel) (by decide) rfl, ?_⟩
  refine List.forall_mem_cons.mpr ⟨ok_ret C rfl (show decode cX11_which 35 = .ok (.ireturn, 1) by decide +kernel), ?_⟩
  refine List.forall_mem_cons.mpr ⟨ok_iconst C (show decode cX11_which 36 = .ok (.iconst 0, 1) by decide +kernel) (by decide) rfl, ?_⟩
  refine List.forall_mem_cons.mpr ⟨ok_istore_n C (show decode cX11_which 37 = .ok (.istore_n 1, 1) by decide +kernel) rfl (by decide) rfl, ?_⟩
  refine List.forall_mem_cons.mpr ⟨ok_iconst C (show decode cX11_which 38 = .ok (.iconst 0, 1) by decide +kernel) (by decide) rfl, ?_⟩
  refine List.forall_mem_cons.mpr ⟨ok_istore_n C (show decode cX11_which 39 = .ok (.istore_n 2, 1) by decide +kernel) rfl (by decide) rfl, ?_⟩
  refine List.forall_mem_cons.mpr ⟨ok_iload_n C (show decode cX11_which 40 = .ok (.iload_n 2, 1) by decide +kernel) rfl rfl, ?_⟩
  refine List.forall_mem_cons.mpr ⟨ok_aload_n C (show decode cX11_which 41 = .ok (.aload_n 0, 1) by decide +kernel) rfl rfl, ?_⟩
  refine List.forall_mem_cons.mpr ⟨ok_getf C (wi_X11) rfl (by decide) kw_1186 (show decode cX11_which 42 = .ok (.getfield 33, 3) by decide +kernel) rfl, ?_⟩
  refine List.forall_mem_cons.mpr ⟨ok_iconst C (show decode cX11_which 45 = .ok (.iconst 0, 1) by decide +kernel) (by decide) rfl, ?_⟩
  refine List.forall_mem_cons.mpr ⟨ok_iaload C (show decode cX11_which 46 = .ok (.iaload, 1) by decide +kernel) rfl, ?_⟩
  refine List.forall_mem_cons.mpr ⟨ok_icmpge C (show decode cX11_which 47 = .ok (.if_icmp .ge 123, 3) by decide +kernel) (tg := 170) (by decide) rfl rfl, ?_⟩
  refine List.forall_mem_cons.mpr ⟨ok_iload_n C (show decode cX11_which 50 = .ok (.iload_n 2, 1) by decide +kernel) rfl rfl, ?_⟩
  refine List.forall_mem_cons.mpr ⟨ok_aload_n C (show decode cX11_which 51 = .ok (.aload_n 0, 1) by decide +kernel) rfl rfl, ?_⟩
  refine List.forall_mem_cons.mpr ⟨ok_iconst C (show decode cX11_which 52 = .ok (.iconst 0, 1) by decide +kernel) (by decide) rfl, ?_⟩
  refine List.forall_mem_cons.mpr ⟨ok_callV C h_X11_octet ⟨rfl, rfl⟩ rfl kw_1584 kw_1581 kw_1583 kp_88 kw_11 rfl ds_X11_octet ⟨by decide, by decide⟩ (show decode cX11_which 53 = .ok (.invokevirtual 323, 3) by decide +kernel) rfl, ?_⟩
  refine List.forall_mem_cons.mpr ⟨ok_callS C h_X11_cell ⟨rfl, rfl⟩ kw_1413 kw_1411 kw_1412 kw_11 ds_X11_cell ⟨by decide, by decide⟩ (show decode cX11_which 56 = .ok (.invokestatic 245, 3) by decide +kernel) rfl, ?_⟩
  refine List.forall_mem_cons.mpr ⟨ok_istore_n C (show decode cX11_which 59 = .ok (.istore_n 3, 1) by decide +kernel) rfl (by decide) rfl, ?_⟩
  refine List.forall_mem_cons.mpr ⟨ok_iconst C (show decode cX11_which 60 = .ok (.iconst 1, 1) by decide +kernel) (by decide) rfl, ?_⟩
  refine List.forall_mem_cons.mpr ⟨ok_istore C (show decode cX11_which 61 = .ok (.istore 4, 2) by decide +kernel) (by decide) rfl, ?_⟩
  refine List.forall_mem_cons.mpr ⟨ok_iconst C (show decode cX11_which 63 = .ok (.iconst 2, 1) by decide +kernel) (by decide) rfl, ?_⟩
  refine List.forall_mem_cons.mpr ⟨ok_istore C (show decode cX11_which 64 = .ok (.istore 5, 2) by decide +kernel) (by decide) rfl, ?_⟩
  refine List.forall_mem_cons.mpr ⟨ok_iload C (show decode cX11_which 66 = .ok (.iload 5, 2) by decide +kernel) rfl, ?_⟩
  refine List.forall_mem_cons.mpr ⟨ok_aload_n C (show decode cX11_which 68 = .ok (.aload_n 0, 1) by decide +kernel) rfl rfl, ?_⟩
  refine List.forall_mem_cons.mpr ⟨ok_getf C (wi_X11) rfl (by decide) kw_1183 (show decode cX11_which 69 = .ok (.getfield 18, 3) by decide +kernel) rfl, ?_⟩
  refine List.forall_mem_cons.mpr ⟨ok_icmpge C (show decode cX11_which 72 = .ok (.if_icmp .ge 77, 3) by decide +kernel) (tg := 149) (by decide) rfl rfl, ?_⟩
  refine List.forall_mem_cons.mpr ⟨ok_sipush C (show decode cX11_which 75 = .ok (.sipush 999, 3) by decide +kernel) (by decide) rfl, ?_⟩
  refine List.forall_mem_cons.mpr ⟨ok_aload_n C (show decode cX11_which 78 = .ok (.aload_n 0, 1) by decide +kernel) rfl rfl, ?_⟩
  refine List.forall_mem_cons.mpr ⟨ok_iload C (show decode cX11_which 79 = .ok (.iload 5, 2) by decide +kernel) rfl, ?_⟩
  refine List.forall_mem_cons.mpr ⟨ok_iconst C (show decode cX11_which 81 = .ok (.iconst 1, 1) by decide +kernel) (by decide) rfl, ?_⟩
  refine List.forall_mem_cons.mpr ⟨ok_isub C (show decode cX11_which 82 = .ok (.isub, 1) by decide +kernel) rfl, ?_⟩
  refine List.forall_mem_cons.mpr ⟨ok_callV C h_X11_octet ⟨rfl, rfl⟩ rfl kw_1584 kw_1581 kw_1583 kp_88 kw_11 rfl ds_X11_octet ⟨by decide, by decide⟩ (show decode cX11_which 83 = .ok (.invokevirtual 323, 3) by decide +kernel) rfl, ?_⟩
  refine List.forall_mem_cons.mpr ⟨ok_aload_n C (show decode cX11_which 86 = .ok (.aload_n 0, 1) by decide +kernel) rfl rfl, ?_⟩
  refine List.forall_mem_cons.mpr ⟨ok_getf C (wi_X11) rfl (by decide) kw_1186 (show decode cX11_which 87 = .ok (.getfield 33, 3) by decide +kernel) rfl, ?_⟩
  refine List.forall_mem_cons.mpr ⟨ok_bipush C (show decode cX11_which 90 = .ok (.bipush 40, 2) by decide +kernel) (by decide) rfl, ?_⟩
  refine List.forall_mem_cons.mpr ⟨ok_iload_n C (show decode cX11_which 92 = .ok (.iload_n 3, 1) by decide +kernel) rfl rfl, ?_⟩
  refine List.forall_mem_cons.mpr ⟨ok_iadd C (show decode cX11_which 93 = .ok (.iadd, 1) by decide +kernel) rfl, ?_⟩
  refine List.forall_mem_cons.mpr ⟨ok_iaload C (show decode cX11_which 94 = .ok (.iaload, 1) by decide +kernel) rfl, ?_⟩
  refine List.forall_mem_cons.mpr ⟨ok_iadd C (show decode cX11_which 95 = .ok (.iadd, 1) by decide +kernel) rfl, ?_⟩
  refine List.forall_mem_cons.mpr ⟨ok_callS C h_X11_lesser ⟨rfl, rfl⟩ kw_1524 kw_1522 kw_1523 kw_11 ds_X11_lesser ⟨by decide, by decide⟩ (show decode cX11_which 96 = .ok (.invokestatic 286, 3) by decide +kernel) rfl, ?_⟩
  refine List.forall_mem_cons.mpr ⟨ok_aload_n C (show decode cX11_which 99 = .ok (.aload_n 0, 1) by decide +kernel) rfl rfl, ?_⟩
  refine List.forall_mem_cons.mpr ⟨ok_getf C (wi_X11) rfl (by decide) kw_1186 (show decode cX11_which 100 = .ok (.getfield 33, 3) by decide +kernel) rfl, ?_⟩
  refine List.forall_mem_cons.mpr ⟨ok_bipush C (show decode cX11_which 103 = .ok (.bipush 28, 2) by decide +kernel) (by decide) rfl, ?_⟩
  refine List.forall_mem_cons.mpr ⟨ok_iload_n C (show decode cX11_which 105 = .ok (.iload_n 3, 1) by decide +kernel) rfl rfl, ?_⟩
  refine List.forall_mem_cons.mpr ⟨ok_iadd C (show decode cX11_which 106 = .ok (.iadd, 1) by decide +kernel) rfl, ?_⟩
  refine List.forall_mem_cons.mpr ⟨ok_iaload C (show decode cX11_which 107 = .ok (.iaload, 1) by decide +kernel) rfl, ?_⟩
  refine List.forall_mem_cons.mpr ⟨ok_isub C (show decode cX11_which 108 = .ok (.isub, 1) by decide +kernel) rfl, ?_⟩
  refine List.forall_mem_cons.mpr ⟨ok_istore C (show decode cX11_which 109 = .ok (.istore 6, 2) by decide +kernel) (by decide) rfl, ?_⟩
  refine List.forall_mem_cons.mpr ⟨ok_iload C (show decode cX11_which 111 = .ok (.iload 4, 2) by decide +kernel) rfl, ?_⟩
  refine List.forall_mem_cons.mpr ⟨ok_ifeq C (show decode cX11_which 113 = .ok (.ifCond .eq 27, 3) by decide +kernel) (tg := 140) (by decide) rfl rfl, ?_⟩
  refine List.forall_mem_cons.mpr ⟨ok_aload_n C (show decode cX11_which 116 = .ok (.aload_n 0, 1) by decide +kernel) rfl rfl, ?_⟩
  refine List.forall_mem_cons.mpr ⟨ok_iload C (show decode cX11_which 117 = .ok (.iload 5, 2) by decide +kernel) rfl, ?_⟩
  refine List.forall_mem_cons.mpr ⟨ok_callV C h_X11_octet ⟨rfl, rfl⟩ rfl kw_1584 kw_1581 kw_1583 kp_88 kw_11 rfl ds_X11_octet ⟨by decide, by decide⟩ (show decode cX11_which 119 = .ok (.invokevirtual 323, 3) by decide +kernel) rfl, ?_⟩
  refine List.forall_mem_cons.mpr ⟨ok_iload C (show decode cX11_which 122 = .ok (.iload 6, 2) by decide +kernel) rfl, ?_⟩
  refine List.forall_mem_cons.mpr ⟨ok_ifge C (show decode cX11_which 124 = .ok (.ifCond .ge 7, 3) by decide +kernel) (tg := 131) (by decide) rfl rfl, ?_⟩
  refine List.forall_mem_cons.mpr ⟨ok_iconst C (show decode cX11_which 127 = .ok (.iconst 0, 1) by decide +kernel) (by decide) rfl, ?_⟩
  refine List.forall_mem_cons.mpr ⟨ok_goto C (show decode cX11_which 128 = .ok (.goto 5, 3) by decide +kernel) (tg := 133) (by decide) rfl, ?_⟩
  refine List.forall_mem_cons.mpr ⟨ok_iload C (show decode cX11_which 131 = .ok (.iload 6, 2) by decide +kernel) rfl, ?_⟩
  refine List.forall_mem_cons.mpr ⟨ok_icmpne C (show decode cX11_which 133 = .ok (.if_icmp .ne 7, 3) by decide +kernel) (tg := 140) (by decide) rfl rfl, ?_⟩
  refine List.forall_mem_cons.mpr ⟨ok_iconst C (show decode cX11_which 136 = .ok (.iconst 1, 1) by decide +kernel) (by decide) rfl, ?_⟩
  refine List.forall_mem_cons.mpr ⟨ok_goto C (show decode cX11_which 137 = .ok (.goto 4, 3) by decide +kernel) (tg := 141) (by decide) rfl, ?_⟩
  refine List.forall_mem_cons.mpr ⟨ok_iconst C (show decode cX11_which 140 = .ok (.iconst 0, 1) by decide +kernel) (by decide) rfl, ?_⟩
  refine List.forall_mem_cons.mpr ⟨ok_istore C (show decode cX11_which 141 = .ok (.istore 4, 2) by decide +kernel) (by decide) rfl, ?_⟩
  refine List.forall_mem_cons.mpr ⟨ok_iinc C (show decode cX11_which 143 = .ok (.iinc 5 1, 3) by decide +kernel) (by decide) (by decide) rfl, ?_⟩
  refine List.forall_mem_cons.mpr ⟨ok_goto C (show decode cX11_which 146 = .ok (.goto (-80), 3) by decide +kernel) (tg := 66) (by decide) rfl, ?_⟩
  refine List.forall_mem_cons.mpr ⟨ok_iload_n C (show decode cX11_which 149 = .ok (.iload_n 1, 1) by decide +kernel) rfl rfl, ?_⟩
  refine List.forall_mem_cons.mpr ⟨ok_iload C (show decode cX11_which 150 = .ok (.iload 4, 2) by decide +kernel) rfl, ?_⟩
  refine List.forall_mem_cons.mpr ⟨ok_ifeq C (show decode cX11_which 152 = .ok (.ifCond .eq 9, 3) by decide +kernel) (tg := 161) (by decide) rfl rfl, ?_⟩
  refine List.forall_mem_cons.mpr ⟨ok_iconst C (show decode cX11_which 155 = .ok (.iconst 1, 1) by decide +kernel) (by decide) rfl, ?_⟩
  refine List.forall_mem_cons.mpr ⟨ok_iload_n C (show decode cX11_which 156 = .ok (.iload_n 2, 1) by decide +kernel) rfl rfl, ?_⟩
  refine List.forall_mem_cons.mpr ⟨ok_ishl C (show decode cX11_which 157 = .ok (.ishl, 1) by decide +kernel) rfl, ?_⟩
  refine List.forall_mem_cons.mpr ⟨ok_goto C (show decode cX11_which 158 = .ok (.goto 4, 3) by decide +kernel) (tg := 162) (by decide) rfl, ?_⟩
  refine List.forall_mem_cons.mpr ⟨ok_iconst C (show decode cX11_which 161 = .ok (.iconst 0, 1) by decide +kernel) (by decide) rfl, ?_⟩
  refine List.forall_mem_cons.mpr ⟨ok_ior C (show decode cX11_which 162 = .ok (.ior, 1) by decide +kernel) rfl, ?_⟩
  refine List.forall_mem_cons.mpr ⟨ok_istore_n C (show decode cX11_which 163 = .ok (.istore_n 1, 1) by decide +kernel) rfl (by decide) rfl, ?_⟩
  refine List.forall_mem_cons.mpr ⟨ok_iinc C (show decode cX11_which 164 = .ok (.iinc 2 1, 3) by decide +kernel) (by decide) (by decide) rfl, ?_⟩
  refine List.forall_mem_cons.mpr ⟨ok_goto C (show decode cX11_which 167 = .ok (.goto (-127), 3) by decide +kernel) (tg := 40) (by decide) rfl, ?_⟩
  refine List.forall_mem_cons.mpr ⟨ok_iload_n C (show decode cX11_which 170 = .ok (.iload_n 1, 1) by decide +kernel) rfl rfl, ?_⟩
  refine List.forall_mem_cons.mpr ⟨ok_ret C rfl (show decode cX11_which 171 = .ok (.ireturn, 1) by decide +kernel), ?_⟩
  exact fun _ h => absurd h List.not_mem_nil
def L_X11_lays : List (Nat × ab_A) := [
  (0, ab_nx 1 (ab_lit (.int 0))),
  (1, ab_nx 2 (ab_istore 2)),
  (2, ab_nx 3 (ab_iload 2)),
  (3, ab_nx 5 (ab_lit (.int 12))),
  (5, ab_icmp 8 34 (fun x y => decide (y ≤ x))),
  (8, ab_nx 9 (ab_aload 0)),
  (9, ab_nx 12 (ab_getf 11 26)),
  (12, ab_nx 14 (ab_lit (.int 20))),
  (14, ab_nx 15 (ab_iload 1)),
  (15, ab_nx 16 (ab_bin (fun x y => x * y))),
  (16, ab_nx 17 (ab_iload 2)),
  (17, ab_nx 18 (ab_bin (fun x y => x + y))),
  (18, ab_nx 19 (ab_aload 0)),
  (19, ab_nx 22 (ab_getf 11 6)),
  (22, ab_nx 24 (ab_lit (.int 124))),
  (24, ab_nx 25 (ab_iload 2)),
  (25, ab_nx 26 (ab_bin (fun x y => x + y))),
  (26, ab_nx 27 (ab_ald 1)),
  (27, ab_nx 28 (ab_ast 1)),
  (28, ab_nx 31 (ab_iinc 2 1)),
  (31, ab_goto 2),
  (34, ab_nx 35 (ab_lit (.int 0))),
  (35, ab_nx 36 (ab_istore 2)),
  (36, ab_nx 37 (ab_iload 2)),
  (37, ab_nx 39 (ab_lit (.int 8))),
  (39, ab_icmp 42 72 (fun x y => decide (y ≤ x))),
  (42, ab_nx 43 (ab_aload 0)),
  (43, ab_nx 46 (ab_getf 11 26)),
  (46, ab_nx 48 (ab_lit (.int 20))),
  (48, ab_nx 49 (ab_iload 1)),
  (49, ab_nx 50 (ab_bin (fun x y => x * y))),
  (50, ab_nx 52 (ab_lit (.int 12))),
  (52, ab_nx 53 (ab_bin (fun x y => x + y))),
  (53, ab_nx 54 (ab_iload 2)),
  (54, ab_nx 55 (ab_bin (fun x y => x + y))),
  (55, ab_nx 56 (ab_aload 0)),
  (56, ab_nx 59 (ab_getf 11 6)),
  (59, ab_nx 62 (ab_lit (.int 172))),
  (62, ab_nx 63 (ab_iload 2)),
  (63, ab_nx 64 (ab_bin (fun x y => x + y))),
  (64, ab_nx 65 (ab_ald 1)),
  (65, ab_nx 66 (ab_ast 1)),
  (66, ab_nx 69 (ab_iinc 2 1)),
  (69, ab_goto 36),
  (72, ab_vret 0 0)]
set_option maxRecDepth 100000 in
set_option maxHeartbeats 4000000 in
theorem M_X11_lays {l : Launch} {b : ab_B} {D : va_G} {cA : Nat → ClassId} : ab_M l b D ab_cl cA (ab_E0 b) yX11_lays (Cond.code yX11_lays cX11_lays 3 none :: ab_G) ({ frames := 1, cells := 0, slots := 0, locals := 100 } : Room) (ab_X (ab_T L_X11_lays) 3) := by
  refine ab_meth (ret := none) L_X11_lays (by decide) rfl fun p e R s m args below meth c o C => ?_
  unfold L_X11_lays
  refine List.forall_mem_cons.mpr ⟨ok_iconst C (show decode cX11_lays 0 = .ok (.iconst 0, 1) by decide +kernel) (by decide) rfl, ?_⟩
  refine List.forall_mem_cons.mpr ⟨ok_istore_n C (show decode cX11_lays 1 = .ok (.istore_n 2, 1) by decide +kernel) rfl (by decide) rfl, ?_⟩
  refine List.forall_mem_cons.mpr ⟨ok_iload_n C (show decode cX11_lays 2 = .ok (.iload_n 2, 1) by decide +kernel) rfl rfl, ?_⟩
  refine List.forall_mem_cons.mpr ⟨ok_bipush C (show decode cX11_lays 3 = .ok (.bipush 12, 2) by decide +kernel) (by decide) rfl, ?_⟩
  refine List.forall_mem_cons.mpr ⟨ok_icmpge C (show decode cX11_lays 5 = .ok (.if_icmp .ge 29, 3) by decide +kernel) (tg := 34) (by decide) rfl rfl, ?_⟩
  refine List.forall_mem_cons.mpr ⟨ok_aload_n C (show decode cX11_lays 8 = .ok (.aload_n 0, 1) by decide +kernel) rfl rfl, ?_⟩
  refine List.forall_mem_cons.mpr ⟨ok_getf C (wi_X11) rfl (by decide) kw_1206 (show decode cX11_lays 9 = .ok (.getfield 59, 3) by decide +kernel) rfl, ?_⟩
  refine List.forall_mem_cons.mpr ⟨ok_bipush C (show decode cX11_lays 12 = .ok (.bipush 20, 2) by decide +kernel) (by decide) rfl, ?_⟩
  refine List.forall_mem_cons.mpr ⟨ok_iload_n C (show decode cX11_lays 14 = .ok (.iload_n 1, 1) by decide +kernel) rfl rfl, ?_⟩
  refine List.forall_mem_cons.mpr ⟨ok_imul C (show decode cX11_lays 15 = .ok (.imul, 1) by decide +kernel) rfl, ?_⟩
  refine List.forall_mem_cons.mpr ⟨ok_iload_n C (show decode cX11_lays 16 = .ok (.iload_n 2, 1) by decide +kernel) rfl rfl, ?_⟩
  refine List.forall_mem_cons.mpr ⟨ok_iadd C (show decode cX11_lays 17 = .ok (.iadd, 1) by decide +kernel) rfl, ?_⟩
  refine List.forall_mem_cons.mpr ⟨ok_aload_n C (show decode cX11_lays 18 = .ok (.aload_n 0, 1) by decide +kernel) rfl rfl, ?_⟩
  refine List.forall_mem_cons.mpr ⟨ok_getf C (wi_X11) rfl (by decide) kw_1186 (show decode cX11_lays 19 = .ok (.getfield 33, 3) by decide +kernel) rfl, ?_⟩
  refine List.forall_mem_cons.mpr ⟨ok_bipush C (show decode cX11_lays 22 = .ok (.bipush 124, 2) by decide +kernel) (by decide) rfl, ?_⟩
  refine List.forall_mem_cons.mpr ⟨ok_iload_n C (show decode cX11_lays 24 = .ok (.iload_n 2, 1) by decide +kernel) rfl rfl, ?_⟩
  refine List.forall_mem_cons.mpr ⟨ok_iadd C (show decode cX11_lays 25 = .ok (.iadd, 1) by decide +kernel) rfl, ?_⟩
  refine List.forall_mem_cons.mpr ⟨ok_iaload C (show decode cX11_lays 26 = .ok (.iaload, 1) by decide +kernel) rfl, ?_⟩
  refine List.forall_mem_cons.mpr ⟨ok_iastore C (show decode cX11_lays 27 = .ok (.iastore, 1) by decide +kernel) rfl, ?_⟩
  refine List.forall_mem_cons.mpr ⟨ok_iinc C (show decode cX11_lays 28 = .ok (.iinc 2 1, 3) by decide +kernel) (by decide) (by decide) rfl, ?_⟩
  refine List.forall_mem_cons.mpr ⟨ok_goto C (show decode cX11_lays 31 = .ok (.goto (-29), 3) by decide +kernel) (tg := 2) (by decide) rfl, ?_⟩
  refine List.forall_mem_cons.mpr ⟨ok_iconst C (show decode cX11_lays 34 = .ok (.iconst 0, 1) by decide +kernel) (by decide) rfl, ?_⟩
  refine List.forall_mem_cons.mpr ⟨ok_istore_n C (show decode cX11_lays 35 = .ok (.istore_n 2, 1) by decide +kernel) rfl (by decide) rfl, ?_⟩
  refine List.forall_mem_cons.mpr ⟨ok_iload_n C (show decode cX11_lays 36 = .ok (.iload_n 2, 1) by decide +kernel) rfl rfl, ?_⟩
  refine List.forall_mem_cons.mpr ⟨ok_bipush C (show decode cX11_lays 37 = .ok (.bipush 8, 2) by decide +kernel) (by decide) rfl, ?_⟩
  refine List.forall_mem_cons.mpr ⟨ok_icmpge C (show decode cX11_lays 39 = .ok (.if_icmp .ge 33, 3) by decide +kernel) (tg := 72) (by decide) rfl rfl, ?_⟩
  refine List.forall_mem_cons.mpr ⟨ok_aload_n C (show decode cX11_lays 42 = .ok (.aload_n 0, 1) by decide +kernel) rfl rfl, ?_⟩
  refine List.forall_mem_cons.mpr ⟨ok_getf C (wi_X11) rfl (by decide) kw_1206 (show decode cX11_lays 43 = .ok (.getfield 59, 3) by decide +kernel) rfl, ?_⟩
  refine List.forall_mem_cons.mpr ⟨ok_bipush C (show decode cX11_lays 46 = .ok (.bipush 20, 2) by decide +kernel) (by decide) rfl, ?_⟩
  refine List.forall_mem_cons.mpr ⟨ok_iload_n C (show decode cX11_lays 48 = .ok (.iload_n 1, 1) by decide +kernel) rfl rfl, ?_⟩
  refine List.forall_mem_cons.mpr ⟨ok_imul C (show decode cX11_lays 49 = .ok (.imul, 1) by decide +kernel) rfl, ?_⟩
  refine List.forall_mem_cons.mpr ⟨ok_bipush C (show decode cX11_lays 50 = .ok (.bipush 12, 2) by decide +kernel) (by decide) rfl, ?_⟩
  refine List.forall_mem_cons.mpr ⟨ok_iadd C (show decode cX11_lays 52 = .ok (.iadd, 1) by decide +kernel) rfl, ?_⟩
  refine List.forall_mem_cons.mpr ⟨ok_iload_n C (show decode cX11_lays 53 = .ok (.iload_n 2, 1) by decide +kernel) rfl rfl, ?_⟩
  refine List.forall_mem_cons.mpr ⟨ok_iadd C (show decode cX11_lays 54 = .ok (.iadd, 1) by decide +kernel) rfl, ?_⟩
  refine List.forall_mem_cons.mpr ⟨ok_aload_n C (show decode cX11_lays 55 = .ok (.aload_n 0, 1) by decide +kernel) rfl rfl, ?_⟩
  refine List.forall_mem_cons.mpr ⟨ok_getf C (wi_X11) rfl (by decide) kw_1186 (show decode cX11_lays 56 = .ok (.getfield 33, 3) by decide +kernel) rfl, ?_⟩
  refine List.forall_mem_cons.mpr ⟨ok_sipush C (show decode cX11_lays 59 = .ok (.sipush 172, 3) by decide +kernel) (by decide) rfl, ?_⟩
  refine List.forall_mem_cons.mpr ⟨ok_iload_n C (show decode cX11_lays 62 = .ok (.iload_n 2, 1) by decide +kernel) rfl rfl, ?_⟩
  refine List.forall_mem_cons.mpr ⟨ok_iadd C (show decode cX11_lays 63 = .ok (.iadd, 1) by decide +kernel) rfl, ?_⟩
  refine List.forall_mem_cons.mpr ⟨ok_iaload C (show decode cX11_lays 64 = .ok (.iaload, 1) by decide +kernel) rfl, ?_⟩
  refine List.forall_mem_cons.mpr ⟨ok_iastore C (show decode cX11_lays 65 = .ok (.iastore, 1) by decide +kernel) rfl, ?_⟩
  refine List.forall_mem_cons.mpr ⟨ok_iinc C (show decode cX11_lays 66 = .ok (.iinc 2 1, 3) by decide +kernel) (by decide) (by decide) rfl, ?_⟩
  refine List.forall_mem_cons.mpr ⟨ok_goto C (show decode cX11_lays 69 = .ok (.goto (-33), 3) by decide +kernel) (tg := 36) (by decide) rfl, ?_⟩
  refine List.forall_mem_cons.mpr ⟨ok_vret C rfl (show decode cX11_lays 72 = .ok (.return_, 1) by decide +kernel), ?_⟩
  exact fun _ h => absurd h List.not_mem_nil
def L_X11_areAlike : List (Nat × ab_A) := [
  (0, ab_nx 1 (ab_lit (.int 0))),
  (1, ab_nx 2 (ab_istore 3)),
  (2, ab_nx 3 (ab_iload 3)),
  (3, ab_nx 5 (ab_lit (.int 20))),
  (5, ab_icmp 8 41 (fun x y => decide (y ≤ x))),
  (8, ab_nx 9 (ab_aload 0)),
  (9, ab_nx 12 (ab_getf 11 26)),
  (12, ab_nx 14 (ab_lit (.int 20))),
  (14, ab_nx 15 (ab_iload 1)),
  (15, ab_nx 16 (ab_bin (fun x y => x * y))),
  (16, ab_nx 17 (ab_iload 3)),
  (17, ab_nx 18 (ab_bin (fun x y => x + y))),
  (18, ab_nx 19 (ab_ald 1)),
  (19, ab_nx 20 (ab_aload 0)),
  (20, ab_nx 23 (ab_getf 11 26)),
  (23, ab_nx 25 (ab_lit (.int 20))),
  (25, ab_nx 26 (ab_iload 2)),
  (26, ab_nx 27 (ab_bin (fun x y => x * y))),
  (27, ab_nx 28 (ab_iload 3)),
  (28, ab_nx 29 (ab_bin (fun x y => x + y))),
  (29, ab_nx 30 (ab_ald 1)),
  (30, ab_icmp 33 35 (fun x y => decide (x = y))),
  (33, ab_nx 34 (ab_lit (.int 0))),
  (34, ab_zret 0 0),
  (35, ab_nx 38 (ab_iinc 3 1)),
  (38, ab_goto 2),
  (41, ab_nx 42 (ab_lit (.int 1))),
  (42, ab_zret 0 0)]
set_option maxRecDepth 100000 in
set_option maxHeartbeats 4000000 in
theorem M_X11_areAlike {l : Launch} {b : ab_B} {D : va_G} {cA : Nat → ClassId} : ab_M l b D ab_cl cA (ab_E0 b) yX11_areAlike (Cond.code yX11_areAlike cX11_areAlike 4 (some .boolean) :: ab_G) ({ frames := 1, cells := 0, slots := 0, locals := 100 } : Room) (ab_X (ab_T L_X11_areAlike) 4) := by
  refine ab_meth (ret := (some .boolean)) L_X11_areAlike (by decide) rfl fun p e R s m args below meth c o C => ?_
  unfold L_X11_areAlike
  refine List.forall_mem_cons.mpr ⟨ok_iconst C (show decode cX11_areAlike 0 = .ok (.iconst 0, 1) by decide +kernel) (by decide) rfl, ?_⟩
  refine List.forall_mem_cons.mpr ⟨ok_istore_n C (show decode cX11_areAlike 1 = .ok (.istore_n 3, 1) by decide +kernel) rfl (by decide) rfl, ?_⟩
  refine List.forall_mem_cons.mpr ⟨ok_iload_n C (show decode cX11_areAlike 2 = .ok (.iload_n 3, 1) by decide +kernel) rfl rfl, ?_⟩
  refine List.forall_mem_cons.mpr ⟨ok_bipush C (show decode cX11_areAlike 3 = .ok (.bipush 20, 2) by decide +kernel) (by decide) rfl, ?_⟩
  refine List.forall_mem_cons.mpr ⟨ok_icmpge C (show decode cX11_areAlike 5 = .ok (.if_icmp .ge 36, 3) by decide +kernel) (tg := 41) (by decide) rfl rfl, ?_⟩
  refine List.forall_mem_cons.mpr ⟨ok_aload_n C (show decode cX11_areAlike 8 = .ok (.aload_n 0, 1) by decide +kernel) rfl rfl, ?_⟩
  refine List.forall_mem_cons.mpr ⟨ok_getf C (wi_X11) rfl (by decide) kw_1206 (show decode cX11_areAlike 9 = .ok (.getfield 59, 3) by decide +kernel) rfl, ?_⟩
  refine List.forall_mem_cons.mpr ⟨ok_bipush C (show decode cX11_areAlike 12 = .ok (.bipush 20, 2) by decide +kernel) (by decide) rfl, ?_⟩
  refine List.forall_mem_cons.mpr ⟨ok_iload_n C (show decode cX11_areAlike 14 = .ok (.iload_n 1, 1) by decide +kernel) rfl rfl, ?_⟩
  refine List.forall_mem_cons.mpr ⟨ok_imul C (show decode cX11_areAlike 15 = .ok (.imul, 1) by decide +kernel) rfl, ?_⟩
  refine List.forall_mem_cons.mpr ⟨ok_iload_n C (show decode cX11_areAlike 16 = .ok (.iload_n 3, 1) by decide +kernel) rfl rfl, ?_⟩
  refine List.forall_mem_cons.mpr ⟨ok_iadd C (show decode cX11_areAlike 17 = .ok (.iadd, 1) by decide +kernel) rfl, ?_⟩
  refine List.forall_mem_cons.mpr ⟨ok_iaload C (show decode cX11_areAlike 18 = .ok (.iaload, 1) by decide +kernel) rfl, ?_⟩
  refine List.forall_mem_cons.mpr ⟨ok_aload_n C (show decode cX11_areAlike 19 = .ok (.aload_n 0, 1) by decide +kernel) rfl rfl, ?_⟩
  refine List.forall_mem_cons.mpr ⟨ok_getf C (wi_X11) rfl (by decide) kw_1206 (show decode cX11_areAlike 20 = .ok (.getfield 59, 3) by decide +kernel) rfl, ?_⟩
  refine List.forall_mem_cons.mpr ⟨ok_bipush C (show decode cX11_areAlike 23 = .ok (.bipush 20, 2) by decide +kernel) (by decide) rfl, ?_⟩
  refine List.forall_mem_cons.mpr ⟨ok_iload_n C (show decode cX11_areAlike 25 = .ok (.iload_n 2, 1) by decide +kernel) rfl rfl, ?_⟩
  refine List.forall_mem_cons.mpr ⟨ok_imul C (show decode cX11_areAlike 26 = .ok (.imul, 1) by decide +kernel) rfl, ?_⟩
  refine List.forall_mem_cons.mpr ⟨ok_iload_n C (show decode cX11_areAlike 27 = .ok (.iload_n 3, 1) by decide +kernel) rfl rfl, ?_⟩
  refine List.forall_mem_cons.mpr ⟨ok_iadd C (show decode cX11_areAlike 28 = .ok (.iadd, 1) by decide +kernel) rfl, ?_⟩
  refine List.forall_mem_cons.mpr ⟨ok_iaload C (show decode cX11_areAlike 29 = .ok (.iaload, 1) by decide +kernel) rfl, ?_⟩
  refine List.forall_mem_cons.mpr ⟨ok_icmpeq C (show decode cX11_areAlike 30 = .ok (.if_icmp .eq 5, 3) by decide +kernel) (tg := 35) (by decide) rfl rfl, ?_⟩
  refine List.forall_mem_cons.mpr ⟨ok_iconst C (show decode cX11_areAlike 33 = .ok (.iconst 0, 1) by decide +kernel) (by decide) rfl, ?_⟩
  refine List.forall_mem_cons.mpr ⟨ok_zret C rfl (show decode cX11_areAlike 34 = .ok (.ireturn, 1) by decide +kernel), ?_⟩
  refine List.forall_mem_cons.mpr ⟨ok_iinc C (show decode cX11_areAlike 35 = .ok (.iinc 3 1, 3) by decide +kernel) (by decide) (by decide) rfl, ?_⟩
  refine List.forall_mem_cons.mpr ⟨ok_goto C (show decode cX11_areAlike 38 = .ok (.goto (-36), 3) by decide +kernel) (tg := 2) (by decide) rfl, ?_⟩
  refine List.forall_mem_cons.mpr ⟨ok_iconst C (show decode cX11_areAlike 41 = .ok (.iconst 1, 1) by decide +kernel) (by decide) rfl, ?_⟩
  refine List.forall_mem_cons.mpr ⟨ok_zret C rfl (show decode cX11_areAlike 42 = .ok (.ireturn, 1) by decide +kernel), ?_⟩
  exact fun _ h => absurd h List.not_mem_nil
def L_X11_settles (f_X11_tries : List Value → ab_H → Option ab_O) (f_X11_lays : List Value → ab_H → Option ab_O) (f_X11_areAlike : List Value → ab_H → Option ab_O) (f_X11_goesOn : List Value → ab_H → Option ab_O) (f_X11_back : List Value → ab_H → Option ab_O) : List (Nat × ab_A) := [
  (0, ab_nx 1 (ab_aload 0)),
  (1, ab_nx 2 (ab_lit (.int 0))),
  (2, ab_nx 5 (ab_putf 11 0 0)),
  (5, ab_nx 6 (ab_aload 0)),
  (6, ab_nx 9 (ab_callV 1 11 f_X11_tries 0 0 0 0)),
  (9, ab_nx 10 (ab_lit (.int (-1)))),
  (10, ab_nx 11 (ab_istore 1)),
  (11, ab_nx 12 (ab_lit (.int 0))),
  (12, ab_nx 13 (ab_istore 2)),
  (13, ab_nx 14 (ab_iload 2)),
  (14, ab_nx 17 (ab_lit (.int 202))),
  (17, ab_icmp 20 82 (fun x y => decide (y < x))),
  (20, ab_nx 21 (ab_iload 1)),
  (21, ab_if 24 82 (fun x => decide (0 ≤ x))),
  (24, ab_nx 25 (ab_aload 0)),
  (25, ab_nx 26 (ab_iload 2)),
  (26, ab_nx 27 (ab_lit (.int 3))),
  (27, ab_nx 28 ab_irem),
  (28, ab_nx 31 (ab_callV 2 11 f_X11_lays 0 0 0 0)),
  (31, ab_nx 32 (ab_iload 2)),
  (32, ab_nx 33 (ab_lit (.int 1))),
  (33, ab_icmp 36 64 (fun x y => decide (x ≤ y))),
  (36, ab_nx 37 (ab_aload 0)),
  (37, ab_nx 38 (ab_iload 2)),
  (38, ab_nx 39 (ab_lit (.int 3))),
  (39, ab_nx 40 ab_irem),
  (40, ab_nx 41 (ab_iload 2)),
  (41, ab_nx 42 (ab_lit (.int 2))),
  (42, ab_nx 43 (ab_bin (fun x y => x - y))),
  (43, ab_nx 44 (ab_lit (.int 3))),
  (44, ab_nx 45 ab_irem),
  (45, ab_nx 48 (ab_callV 3 11 f_X11_areAlike 0 0 0 0)),
  (48, ab_if 51 64 (fun x => decide (x = 0))),
  (51, ab_nx 52 (ab_aload 0)),
  (52, ab_nx 55 (ab_getf 11 6)),
  (55, ab_nx 57 (ab_lit (.int 120))),
  (57, ab_nx 58 (ab_ald 1)),
  (58, ab_nx 59 (ab_lit (.int 2))),
  (59, ab_nx 60 (ab_bin (fun x y => x - y))),
  (60, ab_nx 61 (ab_istore 1)),
  (61, ab_goto 76),
  (64, ab_nx 65 (ab_aload 0)),
  (65, ab_nx 66 (ab_lit (.int 1))),
  (66, ab_nx 69 (ab_callV 2 11 f_X11_goesOn 0 0 0 0)),
  (69, ab_if 72 76 (fun x => !decide (x = 0))),
  (72, ab_nx 75 (ab_lit (.int 202))),
  (75, ab_nx 76 (ab_istore 2)),
  (76, ab_nx 79 (ab_iinc 2 1)),
  (79, ab_goto 13),
  (82, ab_nx 83 (ab_aload 0)),
  (83, ab_nx 86 (ab_callV 1 11 f_X11_back 0 0 0 0)),
  (86, ab_nx 87 (ab_iload 1)),
  (87, ab_ret 0 0)]
set_option maxRecDepth 100000 in
set_option maxHeartbeats 4000000 in
theorem M_X11_settles {l : Launch} {b : ab_B} {D : va_G} {cA : Nat → ClassId} {f_X11_tries : List Value → ab_H → Option ab_O} (h_X11_tries : ab_M l b D ab_cl cA (ab_E0 b) yX11_tries (Cond.code yX11_tries cX11_tries 2 none :: ab_G) ({ frames := 1, cells := 0, slots := 0, locals := 100 } : Room) f_X11_tries) {f_X11_lays : List Value → ab_H → Option ab_O} (h_X11_lays : ab_M l b D ab_cl cA (ab_E0 b) yX11_lays (Cond.code yX11_lays cX11_lays 3 none :: ab_G) ({ frames := 1, cells := 0, slots := 0, locals := 100 } : Room) f_X11_lays) {f_X11_areAlike : List Value → ab_H → Option ab_O} (h_X11_areAlike : ab_M l b D ab_cl cA (ab_E0 b) yX11_areAlike (Cond.code yX11_areAlike cX11_areAlike 4 (some .boolean) :: ab_G) ({ frames := 1, cells := 0, slots := 0, locals := 100 } : Room) f_X11_areAlike) {f_X11_goesOn : List Value → ab_H → Option ab_O} (h_X11_goesOn : ab_M l b D ab_cl cA (ab_E0 b) yX11_goesOn (Cond.code yX11_goesOn cX11_goesOn 3 (some .int) :: ab_G) ({ frames := 8, cells := 0, slots := 0, locals := 800 } : Room) f_X11_goesOn) {f_X11_back : List Value → ab_H → Option ab_O} (h_X11_back : ab_M l b D ab_cl cA (ab_E0 b) yX11_back (Cond.code yX11_back cX11_back 2 none :: ab_G) ({ frames := 1, cells := 0, slots := 0, locals := 100 } : Room) f_X11_back) : ab_M l b D ab_cl cA (ab_E0 b) yX11_settles (Cond.code yX11_settles cX11_settles 3 (some .int) :: ab_G) ({ frames := 9, cells := 0, slots := 0, locals := 900 } : Room) (ab_X (ab_T (L_X11_settles f_X11_tries f_X11_lays f_X11_areAlike f_X11_goesOn f_X11_back)) 3) := by
  refine ab_meth (ret := (some .int)) (L_X11_settles f_X11_tries f_X11_lays f_X11_areAlike f_X11_goesOn f_X11_back) (by decide) rfl fun p e R s m args below meth c o C => ?_
  unfold L_X11_settles
  refine List.forall_mem_cons.mpr ⟨ok_aload_n C (show decode cX11_settles 0 = .ok (.aload_n 0, 1) by decide +kernel) rfl rfl, ?_⟩
  refine List.forall_mem_cons.mpr ⟨ok_iconst C (show decode cX11_settles 1 = .ok (.iconst 0, 1) by decide +kernel) (by decide) rfl, ?_⟩
  refine List.forall_mem_cons.mpr ⟨ok_putf C (wi_X11) tyX11 tyX11_ok nmX11 rfl (by decide) kw_1180 (Or.inl rfl) (Or.inl ⟨rfl, rfl⟩) (show decode cX11_settles 2 = .ok (.putfield 1, 3) by decide +kernel) rfl, ?_⟩
  refine List.forall_mem_cons.mpr ⟨ok_aload_n C (show decode cX11_settles 5 = .ok (.aload_n 0, 1) by decide +kernel) rfl rfl, ?_⟩
  refine List.forall_mem_cons.mpr ⟨ok_callV C h_X11_tries ⟨rfl, rfl⟩ rfl kw_1556 kw_1553 kw_1555 kp_86 kw_11 rfl ds_X11_tries ⟨by decide, by decide⟩ (show decode cX11_settles 6 = .ok (.invokevirtual 317, 3) by decide +kernel) rfl, ?_⟩
  refine List.forall_mem_cons.mpr ⟨ok_iconst C (show decode cX11_settles 9 = .ok (.iconst (-1), 1) by decide +kernel) (by decide) rfl, ?_⟩
  refine List.forall_mem_cons.mpr ⟨ok_istore_n C (show decode cX11_settles 10 = .ok (.istore_n 1, 1) by decide +kernel) rfl (by decide) rfl, ?_⟩
  refine List.forall_mem_cons.mpr ⟨ok_iconst C (show decode cX11_settles 11 = .ok (.iconst 0, 1) by decide +kernel) (by decide) rfl, ?_⟩
  refine List.forall_mem_cons.mpr ⟨ok_istore_n C (show decode cX11_settles 12 = .ok (.istore_n 2, 1) by decide +kernel) rfl (by decide) rfl, ?_⟩
  refine List.forall_mem_cons.mpr ⟨ok_iload_n C (show decode cX11_settles 13 = .ok (.iload_n 2, 1) by decide +kernel) rfl rfl, ?_⟩
  refine List.forall_mem_cons.mpr ⟨ok_sipush C (show decode cX11_settles 14 = .ok (.sipush 202, 3) by decide +kernel) (by decide) rfl, ?_⟩
  refine List.forall_mem_cons.mpr ⟨ok_icmpgt C (show decode cX11_settles 17 = .ok (.if_icmp .gt 65, 3) by decide +kernel) (tg := 82) (by decide) rfl rfl, ?_⟩
  refine List.forall_mem_cons.mpr ⟨ok_iload_n C (show decode cX11_settles 20 = .ok (.iload_n 1, 1) by decide +kernel) rfl rfl, ?_⟩
  refine List.forall_mem_cons.mpr ⟨ok_ifge C (show decode cX11_settles 21 = .ok (.ifCond .ge 61, 3) by decide +kernel) (tg := 82) (by decide) rfl rfl, ?_⟩
  refine List.forall_mem_cons.mpr ⟨ok_aload_n C (show decode cX11_settles 24 = .ok (.aload_n 0, 1) by decide +kernel) rfl rfl, ?_⟩
  refine List.forall_mem_cons.mpr ⟨ok_iload_n C (show decode cX11_settles 25 = .ok (.iload_n 2, 1) by decide +kernel) rfl rfl, ?_⟩
  refine List.forall_mem_cons.mpr ⟨ok_iconst C (show decode cX11_settles 26 = .ok (.iconst 3, 1) by decide +kernel) (by decide) rfl, ?_⟩
  refine List.forall_mem_cons.mpr ⟨ok_irem C (show decode cX11_settles 27 = .ok (.irem, 1) by decide +kernel) rfl, ?_⟩
  refine List.forall_mem_cons.mpr ⟨ok_callV C h_X11_lays ⟨rfl, rfl⟩ rfl kw_1592 kw_1589 kw_1591 kp_89 kw_11 rfl ds_X11_lays ⟨by decide, by decide⟩ (show decode cX11_settles 28 = .ok (.invokevirtual 326, 3) by decide +kernel) rfl, ?_⟩
  refine List.forall_mem_cons.mpr ⟨ok_iload_n C (show decode cX11_settles 31 = .ok (.iload_n 2, 1) by decide +kernel) rfl rfl, ?_⟩
  refine List.forall_mem_cons.mpr ⟨ok_iconst C (show decode cX11_settles 32 = .ok (.iconst 1, 1) by decide +kernel) (by decide) rfl, ?_⟩
  refine List.forall_mem_cons.mpr ⟨ok_icmple C (show decode cX11_settles 33 = .ok (.if_icmp .le 31, 3) by decide +kernel) (tg := 64) (by decide) rfl rfl, ?_⟩
  refine List.forall_mem_cons.mpr ⟨ok_aload_n C (show decode cX11_settles 36 = .ok (.aload_n 0, 1) by decide +kernel) rfl rfl, ?_⟩
  refine List.forall_mem_cons.mpr ⟨ok_iload_n C (show decode cX11_settles 37 = .ok (.iload_n 2, 1) by decide +kernel) rfl rfl, ?_⟩
  refine List.forall_mem_cons.mpr ⟨ok_iconst C (show decode cX11_settles 38 = .ok (.iconst 3, 1) by decide +kernel) (by decide) rfl, ?_⟩
  refine List.forall_mem_cons.mpr ⟨ok_irem C (show decode cX11_settles 39 = .ok (.irem, 1) by decide +kernel) rfl, ?_⟩
  refine List.forall_mem_cons.mpr ⟨ok_iload_n C (show decode cX11_settles 40 = .ok (.iload_n 2, 1) by decide +kernel) rfl rfl, ?_⟩
  refine List.forall_mem_cons.mpr ⟨ok_iconst C (show decode cX11_settles 41 = .ok (.iconst 2, 1) by decide +kernel) (by decide) rfl, ?_⟩
  refine List.forall_mem_cons.mpr ⟨ok_isub C (show decode cX11_settles 42 = .ok (.isub, 1) by decide +kernel) rfl, ?_⟩
  refine List.forall_mem_cons.mpr ⟨ok_iconst C (show decode cX11_settles 43 = .ok (.iconst 3, 1) by decide +kernel) (by decide) rfl, ?_⟩
  refine List.forall_mem_cons.mpr ⟨ok_irem C (show decode cX11_settles 44 = .ok (.irem, 1) by decide +kernel) rfl, ?_⟩
  refine List.forall_mem_cons.mpr ⟨ok_callV C h_X11_areAlike ⟨rfl, rfl⟩ rfl kw_1596 kw_1593 kw_1595 kp_90 kw_11 rfl ds_X11_areAlike ⟨by decide, by decide⟩ (show decode cX11_settles 45 = .ok (.invokevirtual 329, 3) by decide +kernel) rfl, ?_⟩
  refine List.forall_mem_cons.mpr ⟨ok_ifeq C (show decode cX11_settles 48 = .ok (.ifCond .eq 16, 3) by decide +kernel) (tg := 64) (by decide) rfl rfl, ?_⟩
  refine List.forall_mem_cons.mpr ⟨ok_aload_n C (show decode cX11_settles 51 = .ok (.aload_n 0, 1) by decide +kernel) rfl rfl, ?_⟩
  refine List.forall_mem_cons.mpr ⟨ok_getf C (wi_X11) rfl (by decide) kw_1186 (show decode cX11_settles 52 = .ok (.getfield 33, 3) by decide +kernel) rfl, ?_⟩
  refine List.forall_mem_cons.mpr ⟨ok_bipush C (show decode cX11_settles 55 = .ok (.bipush 120, 2) by decide +kernel) (by decide) rfl, ?_⟩
  refine List.forall_mem_cons.mpr ⟨ok_iaload C (show decode cX11_settles 57 = .ok (.iaload, 1) by decide +kernel) rfl, ?_⟩
  refine List.forall_mem_cons.mpr ⟨ok_iconst C (show decode cX11_settles 58 = .ok (.iconst 2, 1) by decide +kernel) (by decide) rfl, ?_⟩
  refine List.forall_mem_cons.mpr ⟨ok_isub C (show decode cX11_settles 59 = .ok (.isub, 1) by decide +kernel) rfl, ?_⟩
  refine List.forall_mem_cons.mpr ⟨ok_istore_n C (show decode cX11_settles 60 = .ok (.istore_n 1, 1) by decide +kernel) rfl (by decide) rfl, ?_⟩
  refine List.forall_mem_cons.mpr ⟨ok_goto C (show decode cX11_settles 61 = .ok (.goto 15, 3) by decide +kernel) (tg := 76) (by decide) rfl, ?_⟩
  refine List.forall_mem_cons.mpr ⟨ok_aload_n C (show decode cX11_settles 64 = .ok (.aload_n 0, 1) by decide +kernel) rfl rfl, ?_⟩
  refine List.forall_mem_cons.mpr ⟨ok_iconst C (show decode cX11_settles 65 = .ok (.iconst 1, 1) by decide +kernel) (by decide) rfl, ?_⟩
  refine List.forall_mem_cons.mpr ⟨ok_callV C h_X11_goesOn ⟨rfl, rfl⟩ rfl kw_1509 kw_1506 kw_1508 kp_81 kw_11 rfl ds_X11_goesOn ⟨by decide, by decide⟩ (show decode cX11_settles 66 = .ok (.invokevirtual 314, 3) by decide +kernel) rfl, ?_⟩
  refine List.forall_mem_cons.mpr ⟨ok_ifne C (show decode cX11_settles 69 = .ok (.ifCond .ne 7, 3) by decide +kernel) (tg := 76) (by decide) rfl rfl, ?_⟩
  refine List.forall_mem_cons.mpr ⟨ok_sipush C (show decode cX11_settles 72 = .ok (.sipush 202, 3) by decide +kernel) (by decide) rfl, ?_⟩
  refine List.forall_mem_cons.mpr ⟨ok_istore_n C (show decode cX11_settles 75 = .ok (.istore_n 2, 1) by decide +kernel) rfl (by decide) rfl, ?_⟩
  refine List.forall_mem_cons.mpr ⟨ok_iinc C (show decode cX11_settles 76 = .ok (.iinc 2 1, 3) by decide +kernel) (by decide) (by decide) rfl, ?_⟩
  refine List.forall_mem_cons.mpr ⟨ok_goto C (show decode cX11_settles 79 = .ok (.goto (-66), 3) by decide +kernel) (tg := 13) (by decide) rfl, ?_⟩
  refine List.forall_mem_cons.mpr ⟨ok_aload_n C (show decode cX11_settles 82 = .ok (.aload_n 0, 1) by decide +kernel) rfl rfl, ?_⟩
  refine List.forall_mem_cons.mpr ⟨ok_callV C h_X11_back ⟨rfl, rfl⟩ rfl kw_1560 kw_1557 kw_1559 kp_87 kw_11 rfl ds_X11_back ⟨by decide, by decide⟩ (show decode cX11_settles 83 = .ok (.invokevirtual 320, 3) by decide +kernel) rfl, ?_⟩
  refine List.forall_mem_cons.mpr ⟨ok_iload_n C (show decode cX11_settles 86 = .ok (.iload_n 1, 1) by decide +kernel) rfl rfl, ?_⟩
  refine List.forall_mem_cons.mpr ⟨ok_ret C rfl (show decode cX11_settles 87 = .ok (.ireturn, 1) by decide +kernel), ?_⟩
  exact fun _ h => absurd h List.not_mem_nil
def L_X11_hunger (f_X11_isPlace : List Value → ab_H → Option ab_O) (f_X11_isIn : List Value → ab_H → Option ab_O) (f_X11_tries : List Value → ab_H → Option ab_O) (f_X11_cell : List Value → ab_H → Option ab_O) (f_X11_goesOn : List Value → ab_H → Option ab_O) (f_X11_back : List Value → ab_H → Option ab_O) : List (Nat × ab_A) := [
  (0, ab_nx 1 (ab_aload 0)),
  (1, ab_nx 2 (ab_lit (.int 0))),
  (2, ab_nx 5 (ab_putf 11 0 0)),
  (5, ab_nx 6 (ab_aload 0)),
  (6, ab_nx 7 (ab_iload 1)),
  (7, ab_nx 8 (ab_iload 2)),
  (8, ab_nx 11 (ab_callV 3 11 f_X11_isPlace 0 0 0 0)),
  (11, ab_if 14 24 (fun x => decide (x = 0))),
  (14, ab_nx 15 (ab_iload 3)),
  (15, ab_nx 16 (ab_lit (.int 1))),
  (16, ab_nx 18 (ab_lit (.int 60))),
  (18, ab_nx 21 (ab_call 3 f_X11_isIn 0 0 0 0)),
  (21, ab_if 24 26 (fun x => !decide (x = 0))),
  (24, ab_nx 25 (ab_lit (.int (-1)))),
  (25, ab_ret 0 0),
  (26, ab_nx 27 (ab_aload 0)),
  (27, ab_nx 30 (ab_callV 1 11 f_X11_tries 0 0 0 0)),
  (30, ab_nx 31 (ab_aload 0)),
  (31, ab_nx 34 (ab_getf 11 6)),
  (34, ab_nx 37 (ab_lit (.int 148))),
  (37, ab_nx 38 (ab_iload 1)),
  (38, ab_nx 39 (ab_iload 2)),
  (39, ab_nx 42 (ab_call 2 f_X11_cell 0 0 0 0)),
  (42, ab_nx 43 (ab_bin (fun x y => x + y))),
  (43, ab_nx 44 (ab_ald 1)),
  (44, ab_nx 46 (ab_istore 4)),
  (46, ab_nx 47 (ab_aload 0)),
  (47, ab_nx 48 (ab_iload 3)),
  (48, ab_nx 51 (ab_callV 2 11 f_X11_goesOn 0 0 0 0)),
  (51, ab_nx 52 ab_pop),
  (52, ab_nx 53 (ab_aload 0)),
  (53, ab_nx 56 (ab_getf 11 6)),
  (56, ab_nx 59 (ab_lit (.int 148))),
  (59, ab_nx 60 (ab_iload 1)),
  (60, ab_nx 61 (ab_iload 2)),
  (61, ab_nx 64 (ab_call 2 f_X11_cell 0 0 0 0)),
  (64, ab_nx 65 (ab_bin (fun x y => x + y))),
  (65, ab_nx 66 (ab_ald 1)),
  (66, ab_nx 68 (ab_iload 4)),
  (68, ab_nx 69 (ab_bin (fun x y => x - y))),
  (69, ab_nx 71 (ab_istore 5)),
  (71, ab_nx 72 (ab_aload 0)),
  (72, ab_nx 75 (ab_callV 1 11 f_X11_back 0 0 0 0)),
  (75, ab_nx 77 (ab_iload 5)),
  (77, ab_ret 0 0)]
set_option maxRecDepth 100000 in
set_option maxHeartbeats 4000000 in
theorem M_X11_hunger {l : Launch} {b : ab_B} {D : va_G} {cA : Nat → ClassId} {f_X11_isPlace : List Value → ab_H → Option ab_O} (h_X11_isPlace : ab_M l b D ab_cl cA (ab_E0 b) yX11_isPlace (Cond.code yX11_isPlace cX11_isPlace 3 (some .boolean) :: ab_G) ({ frames := 3, cells := 0, slots := 0, locals := 300 } : Room) f_X11_isPlace) {f_X11_isIn : List Value → ab_H → Option ab_O} (h_X11_isIn : ab_M l b D ab_cl cA (ab_E0 b) yX11_isIn (Cond.code yX11_isIn cX11_isIn 3 (some .boolean) :: ab_G) ({ frames := 1, cells := 0, slots := 0, locals := 100 } : Room) f_X11_isIn) {f_X11_tries : List Value → ab_H → Option ab_O} (h_X11_tries : ab_M l b D ab_cl cA (ab_E0 b) yX11_tries (Cond.code yX11_tries cX11_tries 2 none :: ab_G) ({ frames := 1, cells := 0, slots := 0, locals := 100 } : Room) f_X11_tries) {f_X11_cell : List Value → ab_H → Option ab_O} (h_X11_cell : ab_M l b D ab_cl cA (ab_E0 b) yX11_cell (Cond.code yX11_cell cX11_cell 2 (some .int) :: ab_G) ({ frames := 1, cells := 0, slots := 0, locals := 100 } : Room) f_X11_cell) {f_X11_goesOn : List Value → ab_H → Option ab_O} (h_X11_goesOn : ab_M l b D ab_cl cA (ab_E0 b) yX11_goesOn (Cond.code yX11_goesOn cX11_goesOn 3 (some .int) :: ab_G) ({ frames := 8, cells := 0, slots := 0, locals := 800 } : Room) f_X11_goesOn) {f_X11_back : List Value → ab_H → Option ab_O} (h_X11_back : ab_M l b D ab_cl cA (ab_E0 b) yX11_back (Cond.code yX11_back cX11_back 2 none :: ab_G) ({ frames := 1, cells := 0, slots := 0, locals := 100 } : Room) f_X11_back) : ab_M l b D ab_cl cA (ab_E0 b) yX11_hunger (Cond.code yX11_hunger cX11_hunger 6 (some .int) :: ab_G) ({ frames := 9, cells := 0, slots := 0, locals := 900 } : Room) (ab_X (ab_T (L_X11_hunger f_X11_isPlace f_X11_isIn f_X11_tries f_X11_cell f_X11_goesOn f_X11_back)) 6) := by
  refine ab_meth (ret := (some .int)) (L_X11_hunger f_X11_isPlace f_X11_isIn f_X11_tries f_X11_cell f_X11_goesOn f_X11_back) (by decide) rfl fun p e R s m args below meth c o C => ?_
  unfold L_X11_hunger
  refine List.forall_mem_cons.mpr ⟨ok_aload_n C (show decode cX11_hunger 0 = .ok (.aload_n 0, 1) by decide +kernel) rfl rfl, ?_⟩
  refine List.forall_mem_cons.mpr ⟨ok_iconst C (show decode cX11_hunger 1 = .ok (.iconst 0, 1) by decide +kernel) (by decide) rfl, ?_⟩
  refine List.forall_mem_cons.mpr ⟨ok_putf C (wi_X11) tyX11 tyX11_ok nmX11 rfl (by decide) kw_1180 (Or.inl rfl) (Or.inl ⟨rfl, rfl⟩) (show decode cX11_hunger 2 = .ok (.putfield 1, 3) by decide +kernel) rfl, ?_⟩
  refine List.forall_mem_cons.mpr ⟨ok_aload_n C (show decode cX11_hunger 5 = .ok (.aload_n 0, 1) by decide +kernel) rfl rfl, ?_⟩
  refine List.forall_mem_cons.mpr ⟨ok_iload_n C (show decode cX11_hunger 6 = .ok (.iload_n 1, 1) by decide +kernel) rfl rfl, ?_⟩
  refine List.forall_mem_cons.mpr ⟨ok_iload_n C (show decode cX11_hunger 7 = .ok (.iload_n 2, 1) by decide +kernel) rfl rfl, ?_⟩
  refine List.forall_mem_cons.mpr ⟨ok_callV C h_X11_isPlace ⟨rfl, rfl⟩ rfl kw_1402 kw_1399 kw_1401 kp_64 kw_11 rfl ds_X11_isPlace ⟨by decide, by decide⟩ (show decode cX11_hunger 8 = .ok (.invokevirtual 251, 3) by decide +kernel) rfl, ?_⟩
  refine List.forall_mem_cons.mpr ⟨ok_ifeq C (show decode cX11_hunger 11 = .ok (.ifCond .eq 13, 3) by decide +kernel) (tg := 24) (by decide) rfl rfl, ?_⟩
  refine List.forall_mem_cons.mpr ⟨ok_iload_n C (show decode cX11_hunger 14 = .ok (.iload_n 3, 1) by decide +kernel) rfl rfl, ?_⟩
  refine List.forall_mem_cons.mpr ⟨ok_iconst C (show decode cX11_hunger 15 = .ok (.iconst 1, 1) by decide +kernel) (by decide) rfl, ?_⟩
  refine List.forall_mem_cons.mpr ⟨ok_bipush C (show decode cX11_hunger 16 = .ok (.bipush 60, 2) by decide +kernel) (by decide) rfl, ?_⟩
  refine List.forall_mem_cons.mpr ⟨ok_callS C h_X11_isIn ⟨rfl, rfl⟩ kw_1355 kw_1353 kw_1354 kw_11 ds_X11_isIn ⟨by decide, by decide⟩ (show decode cX11_hunger 18 = .ok (.invokestatic 179, 3) by decide +kernel) rfl, ?_⟩
  refine List.forall_mem_cons.mpr ⟨ok_ifne C (show decode cX11_hunger 21 = .ok (.ifCond .ne 5, 3) by decide +kernel) (tg := 26) (by decide) rfl rfl, ?_⟩
  refine List.forall_mem_cons.mpr ⟨ok_iconst C (show decode cX11_hunger 24 = .ok (.iconst (-1), 1) by decide +kernel) (by decide) rfl, ?_⟩
  refine List.forall_mem_cons.mpr ⟨ok_ret C rfl (show decode cX11_hunger 25 = .ok (.ireturn, 1) by decide +kernel), ?_⟩
  refine List.forall_mem_cons.mpr ⟨ok_aload_n C (show decode cX11_hunger 26 = .ok (.aload_n 0, 1) by decide +kernel) rfl rfl, ?_⟩
  refine List.forall_mem_cons.mpr ⟨ok_callV C h_X11_tries ⟨rfl, rfl⟩ rfl kw_1556 kw_1553 kw_1555 kp_86 kw_11 rfl ds_X11_tries ⟨by decide, by decide⟩ (show decode cX11_hunger 27 = .ok (.invokevirtual 317, 3) by decide +kernel) rfl, ?_⟩
  refine List.forall_mem_cons.mpr ⟨ok_aload_n C (show decode cX11_hunger 30 = .ok (.aload_n 0, 1) by decide +kernel) rfl rfl, ?_⟩
  refine List.forall_mem_cons.mpr ⟨ok_getf C (wi_X11) rfl (by decide) kw_1186 (show decode cX11_hunger 31 = .ok (.getfield 33, 3) by decide +kernel) rfl, ?_⟩
  refine List.forall_mem_cons.mpr ⟨ok_sipush C (show decode cX11_hunger 34 = .ok (.sipush 148, 3) by decide +kernel) (by decide) rfl, ?_⟩
  refine List.forall_mem_cons.mpr ⟨ok_iload_n C (show decode cX11_hunger 37 = .ok (.iload_n 1, 1) by decide +kernel) rfl rfl, ?_⟩
  refine List.forall_mem_cons.mpr ⟨ok_iload_n C (show decode cX11_hunger 38 = .ok (.iload_n 2, 1) by decide +kernel) rfl rfl, ?_⟩
  refine List.forall_mem_cons.mpr ⟨ok_callS C h_X11_cell ⟨rfl, rfl⟩ kw_1413 kw_1411 kw_1412 kw_11 ds_X11_cell ⟨by decide, by decide⟩ (show decode cX11_hunger 39 = .ok (.invokestatic 245, 3) by decide +kernel) rfl, ?_⟩
  refine List.forall_mem_cons.mpr ⟨ok_iadd C (show decode cX11_hunger 42 = .ok (.iadd, 1) by decide +kernel) rfl, ?_⟩
  refine List.forall_mem_cons.mpr ⟨ok_iaload C (show decode cX11_hunger 43 = .ok (.iaload, 1) by decide +kernel) rfl, ?_⟩
  refine List.forall_mem_cons.mpr ⟨ok_istore C (show decode cX11_hunger 44 = .ok (.istore 4, 2) by decide +kernel) (by decide) rfl, ?_⟩
  refine List.forall_mem_cons.mpr ⟨ok_aload_n C (show decode cX11_hunger 46 = .ok (.aload_n 0, 1) by decide +kernel) rfl rfl, ?_⟩
  refine List.forall_mem_cons.mpr ⟨ok_iload_n C (show decode cX11_hunger 47 = .ok (.iload_n 3, 1) by decide +kernel) rfl rfl, ?_⟩
  refine List.forall_mem_cons.mpr ⟨ok_callV C h_X11_goesOn ⟨rfl, rfl⟩ rfl kw_1509 kw_1506 kw_1508 kp_81 kw_11 rfl ds_X11_goesOn ⟨by decide, by decide⟩ (show decode cX11_hunger 48 = .ok (.invokevirtual 314, 3) by decide +kernel) rfl, ?_⟩
  refine List.forall_mem_cons.mpr ⟨ok_pop C (show decode cX11_hunger 51 = .ok (.pop, 1) by decide +kernel) rfl, ?_⟩
  refine List.forall_mem_cons.mpr ⟨ok_aload_n C (show decode cX11_hunger 52 = .ok (.aload_n 0, 1) by decide +kernel) rfl rfl, ?_⟩
  refine List.forall_mem_cons.mpr ⟨ok_getf C (wi_X11) rfl (by decide) kw_1186 (show decode cX11_hunger 53 = .ok (.getfield 33, 3) by decide +kernel) rfl, ?_⟩
  refine List.forall_mem_cons.mpr ⟨ok_sipush C (show decode cX11_hunger 56 = .ok (.sipush 148, 3) by decide +kernel) (by decide) rfl, ?_⟩
  refine List.forall_mem_cons.mpr ⟨ok_iload_n C (show decode cX11_hunger 59 = .ok (.iload_n 1, 1) by decide +kernel) rfl rfl, ?_⟩
  refine List.forall_mem_cons.mpr ⟨ok_iload_n C (show decode cX11_hunger 60 = .ok (.iload_n 2, 1) by decide +kernel) rfl rfl, ?_⟩
  refine List.forall_mem_cons.mpr ⟨ok_callS C h_X11_cell ⟨rfl, rfl⟩ kw_1413 kw_1411 kw_1412 kw_11 ds_X11_cell ⟨by decide, by decide⟩ (show decode cX11_hunger 61 = .ok (.invokestatic 245, 3) by decide +kernel) rfl, ?_⟩
  refine List.forall_mem_cons.mpr ⟨ok_iadd C (show decode cX11_hunger 64 = .ok (.iadd, 1) by decide +kernel) rfl, ?_⟩
  refine List.forall_mem_cons.mpr ⟨ok_iaload C (show decode cX11_hunger 65 = .ok (.iaload, 1) by decide +kernel) rfl, ?_⟩
  refine List.forall_mem_cons.mpr ⟨ok_iload C (show decode cX11_hunger 66 = .ok (.iload 4, 2) by decide +kernel) rfl, ?_⟩
  refine List.forall_mem_cons.mpr ⟨ok_isub C (show decode cX11_hunger 68 = .ok (.isub, 1) by decide +kernel) rfl, ?_⟩
  refine List.forall_mem_cons.mpr ⟨ok_istore C (show decode cX11_hunger 69 = .ok (.istore 5, 2) by decide +kernel) (by decide) rfl, ?_⟩
  refine List.forall_mem_cons.mpr ⟨ok_aload_n C (show decode cX11_hunger 71 = .ok (.aload_n 0, 1) by decide +kernel) rfl rfl, ?_⟩
  refine List.forall_mem_cons.mpr ⟨ok_callV C h_X11_back ⟨rfl, rfl⟩ rfl kw_1560 kw_1557 kw_1559 kp_87 kw_11 rfl ds_X11_back ⟨by decide, by decide⟩ (show decode cX11_hunger 72 = .ok (.invokevirtual 320, 3) by decide +kernel) rfl, ?_⟩
  refine List.forall_mem_cons.mpr ⟨ok_iload C (show decode cX11_hunger 75 = .ok (.iload 5, 2) by decide +kernel) rfl, ?_⟩
  refine List.forall_mem_cons.mpr ⟨ok_ret C rfl (show decode cX11_hunger 77 = .ok (.ireturn, 1) by decide +kernel), ?_⟩
  exact fun _ h => absurd h List.not_mem_nil
