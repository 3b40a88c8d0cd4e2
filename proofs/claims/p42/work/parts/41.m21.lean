def L_X11_odds (f_X11_isMan : List Value → ab_H → Option ab_O) (f_X11_isIn : List Value → ab_H → Option ab_O) (f_X11_tries : List Value → ab_H → Option ab_O) (f_X11_draws : List Value → ab_H → Option ab_O) (f_X11_back : List Value → ab_H → Option ab_O) : List (Nat × ab_A) := [
  (0, ab_nx 1 (ab_aload 0)),
  (1, ab_nx 2 (ab_lit (.int 0))),
  (2, ab_nx 5 (ab_putf 11 0 0)),
  (5, ab_nx 6 (ab_aload 0)),
  (6, ab_nx 7 (ab_iload 1)),
  (7, ab_nx 10 (ab_callV 2 11 f_X11_isMan 0 0 0 0)),
  (10, ab_if 13 32 (fun x => decide (x = 0))),
  (13, ab_nx 14 (ab_iload 2)),
  (14, ab_nx 15 (ab_lit (.int 1))),
  (15, ab_nx 17 (ab_lit (.int 30))),
  (17, ab_nx 20 (ab_call 3 f_X11_isIn 0 0 0 0)),
  (20, ab_if 23 32 (fun x => decide (x = 0))),
  (23, ab_nx 24 (ab_aload 0)),
  (24, ab_nx 27 (ab_getf 11 6)),
  (27, ab_nx 28 (ab_lit (.int 0))),
  (28, ab_nx 29 (ab_ald 1)),
  (29, ab_if 32 34 (fun x => !decide (x = 0))),
  (32, ab_nx 33 (ab_lit (.int (-1)))),
  (33, ab_ret 0 0),
  (34, ab_nx 35 (ab_aload 0)),
  (35, ab_nx 38 (ab_callV 1 11 f_X11_tries 0 0 0 0)),
  (38, ab_nx 39 (ab_lit (.int 0))),
  (39, ab_nx 41 (ab_istore 4)),
  (41, ab_nx 42 (ab_lit (.int 0))),
  (42, ab_nx 44 (ab_istore 5)),
  (44, ab_nx 46 (ab_iload 5)),
  (46, ab_nx 47 (ab_iload 2)),
  (47, ab_icmp 50 108 (fun x y => decide (y ≤ x))),
  (50, ab_nx 51 (ab_aload 0)),
  (51, ab_nx 54 (ab_getf 11 6)),
  (54, ab_nx 57 (ab_lit (.int 181))),
  (57, ab_nx 58 (ab_iload 1)),
  (58, ab_nx 59 (ab_bin (fun x y => x + y))),
  (59, ab_nx 60 (ab_ald 1)),
  (60, ab_nx 62 (ab_istore 6)),
  (62, ab_nx 63 (ab_aload 0)),
  (63, ab_nx 65 (ab_lit (.int 20))),
  (65, ab_nx 66 (ab_iload 3)),
  (66, ab_nx 68 (ab_iload 5)),
  (68, ab_nx 69 (ab_bin (fun x y => x + y))),
  (69, ab_nx 72 (ab_callV 3 11 f_X11_draws 0 0 0 0)),
  (72, ab_nx 73 ab_pop),
  (73, ab_nx 75 (ab_iload 4)),
  (75, ab_nx 76 (ab_aload 0)),
  (76, ab_nx 79 (ab_getf 11 6)),
  (79, ab_nx 82 (ab_lit (.int 181))),
  (82, ab_nx 83 (ab_iload 1)),
  (83, ab_nx 84 (ab_bin (fun x y => x + y))),
  (84, ab_nx 85 (ab_ald 1)),
  (85, ab_nx 87 (ab_iload 6)),
  (87, ab_icmp 90 94 (fun x y => decide (x ≤ y))),
  (90, ab_nx 91 (ab_lit (.int 1))),
  (91, ab_goto 95),
  (94, ab_nx 95 (ab_lit (.int 0))),
  (95, ab_nx 96 (ab_bin (fun x y => x + y))),
  (96, ab_nx 98 (ab_istore 4)),
  (98, ab_nx 99 (ab_aload 0)),
  (99, ab_nx 102 (ab_callV 1 11 f_X11_back 0 0 0 0)),
  (102, ab_nx 105 (ab_iinc 5 1)),
  (105, ab_goto 44),
  (108, ab_nx 110 (ab_iload 4)),
  (110, ab_ret 0 0)]
set_option maxRecDepth 100000 in
set_option maxHeartbeats 4000000 in
theorem M_X11_odds {l : Launch} {b : ab_B} {D : va_G} {cA : Nat → ClassId} {f_X11_isMan : List Value → ab_H → Option ab_O} (h_X11_isMan : ab_M l b D ab_cl cA (ab_E0 b) yX11_isMan (Cond.code yX11_isMan cX11_isMan 2 (some .boolean) :: ab_G) ({ frames := 2, cells := 0, slots := 0, locals := 200 } : Room) f_X11_isMan) {f_X11_isIn : List Value → ab_H → Option ab_O} (h_X11_isIn : ab_M l b D ab_cl cA (ab_E0 b) yX11_isIn (Cond.code yX11_isIn cX11_isIn 3 (some .boolean) :: ab_G) ({ frames := 1, cells := 0, slots := 0, locals := 100 } : Room) f_X11_isIn) {f_X11_tries : List Value → ab_H → Option ab_O} (h_X11_tries : ab_M l b D ab_cl cA (ab_E0 b) yX11_tries (Cond.code yX11_tries cX11_tries 2 none :: ab_G) ({ frames := 1, cells := 0, slots := 0, locals := 100 } : Room) f_X11_tries) {f_X11_draws : List Value → ab_H → Option ab_O} (h_X11_draws : ab_M l b D ab_cl cA (ab_E0 b) yX11_draws (Cond.code yX11_draws cX11_draws 4 (some .int) :: ab_G) ({ frames := 9, cells := 0, slots := 0, locals := 900 } : Room) f_X11_draws) {f_X11_back : List Value → ab_H → Option ab_O} (h_X11_back : ab_M l b D ab_cl cA (ab_E0 b) yX11_back (Cond.code yX11_back cX11_back 2 none :: ab_G) ({ frames := 1, cells := 0, slots := 0, locals := 100 } : Room) f_X11_back) : ab_M l b D ab_cl cA (ab_E0 b) yX11_odds (Cond.code yX11_odds cX11_odds 7 (some .int) :: ab_G) ({ frames := 10, cells := 0, slots := 0, locals := 1000 } : Room) (ab_X (ab_T (L_X11_odds f_X11_isMan f_X11_isIn f_X11_tries f_X11_draws f_X11_back)) 7) := by
  refine ab_meth (ret := (some .int)) (L_X11_odds f_X11_isMan f_X11_isIn f_X11_tries f_X11_draws f_X11_back) (by decide) rfl fun p e R s m args below meth c o C => ?_
  unfold L_X11_odds
  refine List.forall_mem_cons.mpr ⟨ok_aload_n C (show decode cX11_odds 0 = .ok (.aload_n 0, 1) by decide +kernel) rfl rfl, ?_⟩
  refine List.forall_mem_cons.mpr ⟨ok_iconst C (show decode cX11_odds 1 = .ok (.iconst 0, 1) by decide +kernel) (by decide) rfl, ?_⟩
  refine List.forall_mem_cons.mpr ⟨ok_putf C (wi_X11) tyX11 tyX11_ok nmX11 rfl (by decide) kw_1180 (Or.inl rfl) (Or.inl ⟨rfl, rfl⟩) (show decode cX11_odds 2 = .ok (.putfield 1, 3) by decide +kernel) rfl, ?_⟩
  refine List.forall_mem_cons.mpr ⟨ok_aload_n C (show decode cX11_odds 5 = .ok (.aload_n 0, 1) by decide +kernel) rfl rfl, ?_⟩
  refine List.forall_mem_cons.mpr ⟨ok_iload_n C (show decode cX11_odds 6 = .ok (.iload_n 1, 1) by decide +kernel) rfl rfl, ?_⟩
  refine List.forall_mem_cons.mpr ⟨ok_callV C h_X11_isMan ⟨rfl, rfl⟩ rfl kw_1433 kw_1430 kw_1432 kp_69 kw_11 rfl ds_X11_isMan ⟨by decide, by decide⟩ (show decode cX11_odds 7 = .ok (.invokevirtual 266, 3) by decide +kernel) rfl, ?_⟩
  refine List.forall_mem_cons.mpr ⟨ok_ifeq C (show decode cX11_odds 10 = .ok (.ifCond .eq 22, 3) by decide +kernel) (tg := 32) (by decide) rfl rfl, ?_⟩
  refine List.forall_mem_cons.mpr ⟨ok_iload_n C (show decode cX11_odds 13 = .ok (.iload_n 2, 1) by decide +kernel) rfl rfl, ?_⟩
  refine List.forall_mem_cons.mpr ⟨ok_iconst C (show decode cX11_odds 14 = .ok (.iconst 1, 1) by decide +kernel) (by decide) rfl, ?_⟩
  refine List.forall_mem_cons.mpr ⟨ok_bipush C (show decode cX11_odds 15 = .ok (.bipush 30, 2) by decide +kernel) (by decide) rfl, ?_⟩
  refine List.forall_mem_cons.mpr ⟨ok_callS C h_X11_isIn ⟨rfl, rfl⟩ kw_1355 kw_1353 kw_1354 kw_11 ds_X11_isIn ⟨by decide, by decide⟩ (show decode cX11_odds 17 = .ok (.invokestatic 179, 3) by decide +kernel) rfl, ?_⟩
  refine List.forall_mem_cons.mpr ⟨ok_ifeq C (show decode cX11_odds 20 = .ok (.ifCond .eq 12, 3) by decide +kernel) (tg := 32) (by decide) rfl rfl, ?_⟩
  refine List.forall_mem_cons.mpr ⟨ok_aload_n C (show decode cX11_odds 23 = .ok (.aload_n 0, 1) by decide +kernel) rfl rfl, ?_⟩
  refine List.forall_mem_cons.mpr ⟨ok_getf C (wi_X11) rfl (by decide) kw_1186 (show decode cX11_odds 24 = .ok (.getfield 33, 3) by decide +kernel) rfl, ?_⟩
  refine List.forall_mem_cons.mpr ⟨ok_iconst C (show decode cX11_odds 27 = .ok (.iconst 0, 1) by decide +kernel) (by decide) rfl, ?_⟩
  refine List.forall_mem_cons.mpr ⟨ok_iaload C (show decode cX11_odds 28 = .ok (.iaload, 1) by decide +kernel) rfl, ?_⟩
  refine List.forall_mem_cons.mpr ⟨ok_ifne C (show decode cX11_odds 29 = .ok (.ifCond .ne 5, 3) by decide +kernel) (tg := 34) (by decide) rfl rfl, ?_⟩
  refine List.forall_mem_cons.mpr ⟨ok_iconst C (show decode cX11_odds 32 = .ok (.iconst (-1), 1) by decide +kernel) (by decide) rfl, ?_⟩
  refine List.forall_mem_cons.mpr ⟨ok_ret C rfl (show decode cX11_odds 33 = .ok (.ireturn, 1) by decide +kernel), ?_⟩
  refine List.forall_mem_cons.mpr ⟨ok_aload_n C (show decode cX11_odds 34 = .ok (.aload_n 0, 1) by decide +kernel) rfl rfl, ?_⟩
  refine List.forall_mem_cons.mpr ⟨ok_callV C h_X11_tries ⟨rfl, rfl⟩ rfl kw_1556 kw_1553 kw_1555 kp_86 kw_11 rfl ds_X11_tries ⟨by decide, by decide⟩ (show decode cX11_odds 35 = .ok (.invokevirtual 317, 3) by decide +kernel) rfl, ?_⟩
  refine List.forall_mem_cons.mpr ⟨ok_iconst C (show decode cX11_odds 38 = .ok (.iconst 0, 1) by decide +kernel) (by decide) rfl, ?_⟩
  refine List.forall_mem_cons.mpr ⟨ok_istore C (show decode cX11_odds 39 = .ok (.istore 4, 2) by decide +kernel) (by decide) rfl, ?_⟩
  refine List.forall_mem_cons.mpr ⟨ok_iconst C (show decode cX11_odds 41 = .ok (.iconst 0, 1) by decide +kernel) (by decide) rfl, ?_⟩
  refine List.forall_mem_cons.mpr ⟨ok_istore C (show decode cX11_odds 42 = .ok (.istore 5, 2) by decide +kernel) (by decide) rfl, ?_⟩
  refine List.forall_mem_cons.mpr ⟨ok_iload C (show decode cX11_odds 44 = .ok (.iload 5, 2) by decide +kernel) rfl, ?_⟩
  refine List.forall_mem_cons.mpr ⟨ok_iload_n C (show decode cX11_odds 46 = .ok (.iload_n 2, 1) by decide +kernel) rfl rfl, ?_⟩
  refine List.forall_mem_cons.mpr ⟨ok_icmpge C (show decode cX11_odds 47 = .ok (.if_icmp .ge 61, 3) by decide +kernel) (tg := 108) (by decide) rfl rfl, ?_⟩
  refine List.forall_mem_cons.mpr ⟨ok_aload_n C (show decode cX11_odds 50 = .ok (.aload_n 0, 1) by decide +kernel) rfl rfl, ?_⟩
  refine List.forall_mem_cons.mpr ⟨ok_getf C (wi_X11) rfl (by decide) kw_1186 (show decode cX11_odds 51 = .ok (.getfield 33, 3) by decide +kernel) rfl, ?_⟩
  refine List.forall_mem_cons.mpr ⟨ok_sipush C (show decode cX11_odds 54 = .ok (.sipush 181, 3) by decide +kernel) (by decide) rfl, ?_⟩
  refine List.forall_mem_cons.mpr ⟨ok_iload_n C (show decode cX11_odds 57 = .ok (.iload_n 1, 1) by decide +kernel) rfl rfl, ?_⟩
  refine List.forall_mem_cons.mpr ⟨ok_iadd C (show decode cX11_odds 58 = .ok (.iadd, 1) by decide +kernel) rfl, ?_⟩
  refine List.forall_mem_cons.mpr ⟨ok_iaload C (show decode cX11_odds 59 = .ok (.iaload, 1) by decide +kernel) rfl, ?_⟩
  refine List.forall_mem_cons.mpr ⟨ok_istore C (show decode cX11_odds 60 = .ok (.istore 6, 2) by decide +kernel) (by decide) rfl, ?_⟩
  refine List.forall_mem_cons.mpr ⟨ok_aload_n C (show decode cX11_odds 62 = .ok (.aload_n 0, 1) by decide +kernel) rfl rfl, ?_⟩
  refine List.forall_mem_cons.mpr ⟨ok_bipush C (show decode cX11_odds 63 = .ok (.bipush 20, 2) by decide +kernel) (by decide) rfl, ?_⟩
  refine List.forall_mem_cons.mpr ⟨ok_iload_n C (show decode cX11_odds 65 = .ok (.iload_n 3, 1) by decide +kernel) rfl rfl, ?_⟩
  refine List.forall_mem_cons.mpr ⟨ok_iload C (show decode cX11_odds 66 = .ok (.iload 5, 2) by decide +kernel) rfl, ?_⟩
  refine List.forall_mem_cons.mpr ⟨ok_iadd C (show decode cX11_odds 68 = .ok (.iadd, 1) by decide +kernel) rfl, ?_⟩
  refine List.forall_mem_cons.mpr ⟨ok_callV C h_X11_draws ⟨rfl, rfl⟩ rfl kw_1631 kw_1628 kw_1630 kp_91 kw_11 rfl ds_X11_draws ⟨by decide, by decide⟩ (show decode cX11_odds 69 = .ok (.invokevirtual 345, 3) by decide +kernel) rfl, ?_⟩
  refine List.forall_mem_cons.mpr ⟨ok_pop C (show decode cX11_odds 72 = .ok (.pop, 1) by decide +kernel) rfl, ?_⟩
  refine List.forall_mem_cons.mpr ⟨ok_iload C (show decode cX11_odds 73 = .ok (.iload 4, 2) by decide +kernel) rfl, ?_⟩
  refine List.forall_mem_cons.mpr ⟨ok_aload_n C (show decode cX11_odds 75 = .ok (.aload_n 0, 1) by decide +kernel) rfl rfl, ?_⟩
  refine List.forall_mem_cons.mpr ⟨ok_getf C (wi_X11) rfl (by decide) kw_1186 (show decode cX11_odds 76 = .ok (.getfield 33, 3) by decide +kernel) rfl, ?_⟩
  refine List.forall_mem_cons.mpr ⟨ok_sipush C (show decode cX11_odds 79 = .ok (.sipush 181, 3) by decide +kernel) (by decide) rfl, ?_⟩
  refine List.forall_mem_cons.mpr ⟨ok_iload_n C (show decode cX11_odds 82 = .ok (.iload_n 1, 1) by decide +kernel) rfl rfl, ?_⟩
  refine List.forall_mem_cons.mpr ⟨ok_iadd C (show decode cX11_odds 83 = .ok (.iadd, 1) by decide +kernel) rfl, ?_⟩
  refine List.forall_mem_cons.mpr ⟨ok_iaload C (show decode cX11_odds 84 = .ok (.iaload, 1) by decide +kernel) rfl, ?_⟩
  refine List.forall_mem_cons.mpr ⟨ok_iload C (show decode cX11_odds 85 = .ok (.iload 6, 2) by decide +kernel) rfl, ?_⟩
  refine List.forall_mem_cons.mpr ⟨ok_icmple C (show decode cX11_odds 87 = .ok (.if_icmp .le 7, 3) by decide +kernel) (tg := 94) (by decide) rfl rfl, ?_⟩
  refine List.forall_mem_cons.mpr ⟨ok_iconst C (show decode cX11_odds 90 = .ok (.iconst 1, 1) by decide +kernel) (by decide) rfl, ?_⟩
  refine List.forall_mem_cons.mpr ⟨ok_goto C (show decode cX11_odds 91 = .ok (.goto 4, 3) by decide +kernel) (tg := 95) (by decide) rfl, ?_⟩
  refine List.forall_mem_cons.mpr ⟨ok_iconst C (show decode cX11_odds 94 = .ok (.iconst 0, 1) by decide +kernel) (by decide) rfl, ?_⟩
  refine List.forall_mem_cons.mpr ⟨ok_iadd C (show decode cX11_odds 95 = .ok (.iadd, 1) by decide +kernel) rfl, ?_⟩
  refine List.forall_mem_cons.mpr ⟨ok_istore C (show decode cX11_odds 96 = .ok (.istore 4, 2) by decide +kernel) (by decide) rfl, ?_⟩
  refine List.forall_mem_cons.mpr ⟨ok_aload_n C (show decode cX11_odds 98 = .ok (.aload_n 0, 1) by decide +kernel) rfl rfl, ?_⟩
  refine List.forall_mem_cons.mpr ⟨ok_callV C h_X11_back ⟨rfl, rfl⟩ rfl kw_1560 kw_1557 kw_1559 kp_87 kw_11 rfl ds_X11_back ⟨by decide, by decide⟩ (show decode cX11_odds 99 = .ok (.invokevirtual 320, 3) by decide +kernel) rfl, ?_⟩
  refine List.forall_mem_cons.mpr ⟨ok_iinc C (show decode cX11_odds 102 = .ok (.iinc 5 1, 3) by decide +kernel) (by decide) (by decide) rfl, ?_⟩
  refine List.forall_mem_cons.mpr ⟨ok_goto C (show decode cX11_odds 105 = .ok (.goto (-61), 3) by decide +kernel) (tg := 44) (by decide) rfl, ?_⟩
  refine List.forall_mem_cons.mpr ⟨ok_iload C (show decode cX11_odds 108 = .ok (.iload 4, 2) by decide +kernel) rfl, ?_⟩
  refine List.forall_mem_cons.mpr ⟨ok_ret C rfl (show decode cX11_odds 110 = .ok (.ireturn, 1) by decide +kernel), ?_⟩
  exact fun _ h => absurd h List.not_mem_nil
def L_X11_logLine (f_X11_isWord : List Value → ab_H → Option ab_O) (f_X11_looksAt : List Value → ab_H → Option ab_O) (f_X11_bad : List Value → ab_H → Option ab_O) (f_X11_next : List Value → ab_H → Option ab_O) (f_X11_takes : List Value → ab_H → Option ab_O) (f_X11_takesName : List Value → ab_H → Option ab_O) : List (Nat × ab_A) := [
  (0, ab_nx 1 (ab_lit (.int 4))),
  (1, ab_nx 2 (ab_aload 0)),
  (2, ab_nx 5 (ab_getf 11 30)),
  (5, ab_nx 6 (ab_bin (fun x y => x * y))),
  (6, ab_nx 7 (ab_istore 1)),
  (7, ab_nx 8 (ab_aload 0)),
  (8, ab_nx 11 (ab_lit (.long 114827585545331))),
  (11, ab_nx 14 (ab_callV 2 11 f_X11_isWord 0 0 0 0)),
  (14, ab_if 17 21 (fun x => decide (x = 0))),
  (17, ab_nx 18 (ab_lit (.int 0))),
  (18, ab_goto 64),
  (21, ab_nx 22 (ab_aload 0)),
  (22, ab_nx 25 (ab_lit (.long 422541682035))),
  (25, ab_nx 28 (ab_callV 2 11 f_X11_isWord 0 0 0 0)),
  (28, ab_if 31 35 (fun x => decide (x = 0))),
  (31, ab_nx 32 (ab_lit (.int 1))),
  (32, ab_goto 64),
  (35, ab_nx 36 (ab_aload 0)),
  (36, ab_nx 39 (ab_lit (.long 131260432541043))),
  (39, ab_nx 42 (ab_callV 2 11 f_X11_isWord 0 0 0 0)),
  (42, ab_if 45 49 (fun x => decide (x = 0))),
  (45, ab_nx 46 (ab_lit (.int 2))),
  (46, ab_goto 64),
  (49, ab_nx 50 (ab_aload 0)),
  (50, ab_nx 53 (ab_lit (.long 6578553))),
  (53, ab_nx 56 (ab_callV 2 11 f_X11_isWord 0 0 0 0)),
  (56, ab_if 59 63 (fun x => decide (x = 0))),
  (59, ab_nx 60 (ab_lit (.int 4))),
  (60, ab_goto 64),
  (63, ab_nx 64 (ab_lit (.int 3))),
  (64, ab_nx 65 (ab_istore 2)),
  (65, ab_nx 66 (ab_iload 2)),
  (66, ab_nx 67 (ab_lit (.int 3))),
  (67, ab_icmp 70 87 (fun x y => !decide (x = y))),
  (70, ab_nx 71 (ab_aload 0)),
  (71, ab_nx 73 (ab_lit (.int 6))),
  (73, ab_nx 74 (ab_aload 0)),
  (74, ab_nx 77 (ab_getf 11 6)),
  (77, ab_nx 78 (ab_lit (.int 1))),
  (78, ab_nx 79 (ab_ald 1)),
  (79, ab_nx 82 (ab_callV 3 11 f_X11_looksAt 0 0 0 0)),
  (82, ab_if 85 87 (fun x => !decide (x = 0))),
  (85, ab_nx 86 (ab_lit (.int 0))),
  (86, ab_zret 0 0),
  (87, ab_nx 88 (ab_aload 0)),
  (88, ab_nx 91 (ab_getf 11 30)),
  (91, ab_nx 93 (ab_lit (.int 40))),
  (93, ab_icmp 96 102 (fun x y => !decide (x = y))),
  (96, ab_nx 97 (ab_aload 0)),
  (97, ab_nx 98 (ab_lit (.int 4))),
  (98, ab_nx 101 (ab_callV 2 11 f_X11_bad 0 0 0 0)),
  (101, ab_zret 0 0),
  (102, ab_nx 103 (ab_aload 0)),
  (103, ab_nx 106 (ab_getf 11 8)),
  (106, ab_nx 107 (ab_iload 1)),
  (107, ab_nx 108 (ab_iload 2)),
  (108, ab_nx 109 (ab_ast 1)),
  (109, ab_nx 110 (ab_aload 0)),
  (110, ab_nx 113 (ab_getf 11 8)),
  (113, ab_nx 114 (ab_iload 1)),
  (114, ab_nx 115 (ab_lit (.int 1))),
  (115, ab_nx 116 (ab_bin (fun x y => x + y))),
  (116, ab_nx 117 (ab_aload 0)),
  (117, ab_nx 120 (ab_getf 11 18)),
  (120, ab_nx 121 (ab_ast 1)),
  (121, ab_nx 122 (ab_aload 0)),
  (122, ab_nx 125 (ab_callV 1 11 f_X11_next 0 0 0 0)),
  (125, ab_nx 126 (ab_iload 2)),
  (126, ab_nx 127 (ab_lit (.int 3))),
  (127, ab_icmp 130 152 (fun x y => !decide (x = y))),
  (130, ab_nx 131 (ab_aload 0)),
  (131, ab_nx 134 (ab_lit (.long 1684628851))),
  (134, ab_nx 137 (ab_callV 2 11 f_X11_isWord 0 0 0 0)),
  (137, ab_if 140 146 (fun x => !decide (x = 0))),
  (140, ab_nx 141 (ab_aload 0)),
  (141, ab_nx 142 (ab_lit (.int 1))),
  (142, ab_nx 145 (ab_callV 2 11 f_X11_bad 0 0 0 0)),
  (145, ab_zret 0 0),
  (146, ab_nx 147 (ab_aload 0)),
  (147, ab_nx 150 (ab_callV 1 11 f_X11_next 0 0 0 0)),
  (150, ab_nx 151 (ab_lit (.int 1))),
  (151, ab_zret 0 0),
  (152, ab_nx 153 (ab_iload 2)),
  (153, ab_nx 154 (ab_lit (.int 4))),
  (154, ab_icmp 157 183 (fun x y => !decide (x = y))),
  (157, ab_nx 158 (ab_aload 0)),
  (158, ab_nx 159 (ab_lit (.int 1))),
  (159, ab_nx 161 (ab_lit (.int 60))),
  (161, ab_nx 164 (ab_callV 3 11 f_X11_takes 0 0 0 0)),
  (164, ab_if 167 169 (fun x => !decide (x = 0))),
  (167, ab_nx 168 (ab_lit (.int 0))),
  (168, ab_zret 0 0),
  (169, ab_nx 170 (ab_aload 0)),
  (170, ab_nx 173 (ab_getf 11 8)),
  (173, ab_nx 174 (ab_iload 1)),
  (174, ab_nx 175 (ab_lit (.int 1))),
  (175, ab_nx 176 (ab_bin (fun x y => x + y))),
  (176, ab_nx 177 (ab_aload 0)),
  (177, ab_nx 180 (ab_getf 11 18)),
  (180, ab_nx 181 (ab_ast 1)),
  (181, ab_nx 182 (ab_lit (.int 1))),
  (182, ab_zret 0 0),
  (183, ab_nx 184 (ab_aload 0)),
  (184, ab_nx 185 (ab_lit (.int 0))),
  (185, ab_nx 186 (ab_aload 0)),
  (186, ab_nx 189 (ab_getf 11 6)),
  (189, ab_nx 190 (ab_lit (.int 0))),
  (190, ab_nx 191 (ab_ald 1)),
  (191, ab_nx 194 (ab_callV 3 11 f_X11_takesName 0 0 0 0)),
  (194, ab_if 197 199 (fun x => !decide (x = 0))),
  (197, ab_nx 198 (ab_lit (.int 0))),
  (198, ab_zret 0 0),
  (199, ab_nx 200 (ab_aload 0)),
  (200, ab_nx 203 (ab_getf 11 8)),
  (203, ab_nx 204 (ab_iload 1)),
  (204, ab_nx 205 (ab_lit (.int 1))),
  (205, ab_nx 206 (ab_bin (fun x y => x + y))),
  (206, ab_nx 207 (ab_aload 0)),
  (207, ab_nx 210 (ab_getf 11 18)),
  (210, ab_nx 211 (ab_ast 1)),
  (211, ab_nx 212 (ab_aload 0)),
  (212, ab_nx 213 (ab_lit (.int 0))),
  (213, ab_nx 214 (ab_lit (.int 1))),
  (214, ab_nx 217 (ab_callV 3 11 f_X11_takes 0 0 0 0)),
  (217, ab_if 220 222 (fun x => !decide (x = 0))),
  (220, ab_nx 221 (ab_lit (.int 0))),
  (221, ab_zret 0 0),
  (222, ab_nx 223 (ab_aload 0)),
  (223, ab_nx 226 (ab_getf 11 8)),
  (226, ab_nx 227 (ab_iload 1)),
  (227, ab_nx 228 (ab_lit (.int 2))),
  (228, ab_nx 229 (ab_bin (fun x y => x + y))),
  (229, ab_nx 230 (ab_aload 0)),
  (230, ab_nx 233 (ab_getf 11 18)),
  (233, ab_nx 234 (ab_ast 1)),
  (234, ab_nx 235 (ab_aload 0)),
  (235, ab_nx 236 (ab_lit (.int 1))),
  (236, ab_nx 239 (ab_lit (.int 250))),
  (239, ab_nx 242 (ab_callV 3 11 f_X11_takes 0 0 0 0)),
  (242, ab_if 245 247 (fun x => !decide (x = 0))),
  (245, ab_nx 246 (ab_lit (.int 0))),
  (246, ab_zret 0 0),
  (247, ab_nx 248 (ab_aload 0)),
  (248, ab_nx 251 (ab_getf 11 8)),
  (251, ab_nx 252 (ab_iload 1)),
  (252, ab_nx 253 (ab_lit (.int 3))),
  (253, ab_nx 254 (ab_bin (fun x y => x + y))),
  (254, ab_nx 255 (ab_aload 0)),
  (255, ab_nx 258 (ab_getf 11 18)),
  (258, ab_nx 259 (ab_ast 1)),
  (259, ab_nx 260 (ab_lit (.int 1))),
  (260, ab_zret 0 0)]
set_option maxRecDepth 100000 in
set_option maxHeartbeats 4000000 in
theorem M_X11_logLine {l : Launch} {b : ab_B} {D : va_G} {cA : Nat → ClassId} {f_X11_isWord : List Value → ab_H → Option ab_O} (h_X11_isWord : ab_M l b D ab_cl cA (ab_E0 b) yX11_isWord (Cond.code yX11_isWord cX11_isWord 3 (some .boolean) :: ab_G) ({ frames := 1, cells := 0, slots := 0, locals := 100 } : Room) f_X11_isWord) {f_X11_looksAt : List Value → ab_H → Option ab_O} (h_X11_looksAt : ab_M l b D ab_cl cA (ab_E0 b) yX11_looksAt (Cond.code yX11_looksAt cX11_looksAt 3 (some .boolean) :: ab_G) ({ frames := 2, cells := 0, slots := 0, locals := 200 } : Room) f_X11_looksAt) {f_X11_bad : List Value → ab_H → Option ab_O} (h_X11_bad : ab_M l b D ab_cl cA (ab_E0 b) yX11_bad (Cond.code yX11_bad cX11_bad 2 (some .boolean) :: ab_G) ({ frames := 1, cells := 0, slots := 0, locals := 100 } : Room) f_X11_bad) {f_X11_next : List Value → ab_H → Option ab_O} (h_X11_next : ab_M l b D ab_cl cA (ab_E0 b) yX11_next (Cond.code yX11_next cX11_next 4 none :: ab_G) ({ frames := 2, cells := 0, slots := 0, locals := 200 } : Room) f_X11_next) {f_X11_takes : List Value → ab_H → Option ab_O} (h_X11_takes : ab_M l b D ab_cl cA (ab_E0 b) yX11_takes (Cond.code yX11_takes cX11_takes 3 (some .boolean) :: ab_G) ({ frames := 3, cells := 0, slots := 0, locals := 300 } : Room) f_X11_takes) {f_X11_takesName : List Value → ab_H → Option ab_O} (h_X11_takesName : ab_M l b D ab_cl cA (ab_E0 b) yX11_takesName (Cond.code yX11_takesName cX11_takesName 3 (some .boolean) :: ab_G) ({ frames := 3, cells := 0, slots := 0, locals := 300 } : Room) f_X11_takesName) : ab_M l b D ab_cl cA (ab_E0 b) yX11_logLine (Cond.code yX11_logLine cX11_logLine 3 (some .boolean) :: ab_G) ({ frames := 4, cells := 0, slots := 0, locals := 400 } : Room) (ab_X (ab_T (L_X11_logLine f_X11_isWord f_X11_looksAt f_X11_bad f_X11_next f_X11_takes f_X11_takesName)) 3) := by
  refine ab_meth (ret := (some .boolean)) (L_X11_logLine f_X11_isWord f_X11_looksAt f_X11_bad f_X11_next f_X11_takes f_X11_takesName) (by decide) rfl fun p e R s m args below meth c o C => ?_
  unfold L_X11_logLine
  refine List.forall_mem_cons.mpr ⟨ok_iconst C (show decode cX11_logLine 0 = .ok (.iconst 4, 1) by decide +kernel) (by decide) rfl, ?_⟩
  refine List.forall_mem_cons.mpr ⟨ok_aload_n C (show decode cX11_logLine 1 = .ok (.aload_n 0, 1) by decide +kernel) rfl rfl, ?_⟩
  refine List.forall_mem_cons.mpr ⟨ok_getf C (wi_X11) rfl (by decide) kw_1210 (show decode cX11_logLine 2 = .ok (.getfield 348, 3) by decide +kernel) rfl, ?_⟩
  refine List.forall_mem_cons.mpr ⟨ok_imul C (show decode cX11_logLine 5 = .ok (.imul, 1) by decide +kernel) rfl, ?_⟩
  refine List.forall_mem_cons.mpr ⟨ok_istore_n C (show decode cX11_logLine 6 = .ok (.istore_n 1, 1) by decide +kernel) rfl (by decide) rfl, ?_⟩
  refine List.forall_mem_cons.mpr ⟨ok_aload_n C (show decode cX11_logLine 7 = .ok (.aload_n 0, 1) by decide +kernel) rfl rfl, ?_⟩
  refine List.forall_mem_cons.mpr ⟨ok_ldc2 C (show decode cX11_logLine 8 = .ok (.ldc2_w 103, 3) by decide +kernel) (gm kw_1163) rfl, ?_⟩
  refine List.forall_mem_cons.mpr ⟨ok_callV C h_X11_isWord ⟨rfl, rfl⟩ rfl kw_1340 kw_1337 kw_1339 kp_52 kw_11 rfl ds_X11_isWord ⟨by decide, by decide⟩ (show decode cX11_logLine 11 = .ok (.invokevirtual 201, 3) by decide +kernel) rfl, ?_⟩
  refine List.forall_mem_cons.mpr ⟨ok_ifeq C (show decode cX11_logLine 14 = .ok (.ifCond .eq 7, 3) by decide +kernel) (tg := 21) (by decide) rfl rfl, ?_⟩
  refine List.forall_mem_cons.mpr ⟨ok_iconst C (show decode cX11_logLine 17 = .ok (.iconst 0, 1) by decide +kernel) (by decide) rfl, ?_⟩
  refine List.forall_mem_cons.mpr ⟨ok_goto C (show decode cX11_logLine 18 = .ok (.goto 46, 3) by decide +kernel) (tg := 64) (by decide) rfl, ?_⟩
  refine List.forall_mem_cons.mpr ⟨ok_aload_n C (show decode cX11_logLine 21 = .ok (.aload_n 0, 1) by decide +kernel) rfl rfl, ?_⟩
  refine List.forall_mem_cons.mpr ⟨ok_ldc2 C (show decode cX11_logLine 22 = .ok (.ldc2_w 105, 3) by decide +kernel) (gm kw_1164) rfl, ?_⟩
  refine List.forall_mem_cons.mpr ⟨ok_callV C h_X11_isWord ⟨rfl, rfl⟩ rfl kw_1340 kw_1337 kw_1339 kp_52 kw_11 rfl ds_X11_isWord ⟨by decide, by decide⟩ (show decode cX11_logLine 25 = .ok (.invokevirtual 201, 3) by decide +kernel) rfl, ?_⟩
  refine List.forall_mem_cons.mpr ⟨ok_ifeq C (show decode cX11_logLine 28 = .ok (.ifCond .eq 7, 3) by decide +kernel) (tg := 35) (by decide) rfl rfl, ?_⟩
  refine List.forall_mem_cons.mpr ⟨ok_iconst C (show decode cX11_logLine 31 = .ok (.iconst 1, 1) by decide +kernel) (by decide) rfl, ?_⟩
  refine List.forall_mem_cons.mpr ⟨ok_goto C (show decode cX11_logLine 32 = .ok (.goto 32, 3) by decide +kernel) (tg := 64) (by decide) rfl, ?_⟩
  refine List.forall_mem_cons.mpr ⟨ok_aload_n C (show decode cX11_logLine 35 = .ok (.aload_n 0, 1) by decide +kernel) rfl rfl, ?_⟩
  refine List.forall_mem_cons.mpr ⟨ok_ldc2 C (show decode cX11_logLine 36 = .ok (.ldc2_w 107, 3) by decide +kernel) (gm kw_1165) rfl, ?_⟩
  refine List.forall_mem_cons.mpr ⟨ok_callV C h_X11_isWord ⟨rfl, rfl⟩ rfl kw_1340 kw_1337 kw_1339 kp_52 kw_11 rfl ds_X11_isWord ⟨by decide, by decide⟩ (show decode cX11_logLine 39 = .ok (.invokevirtual 201, 3) by decide +kernel) rfl, ?_⟩
  refine List.forall_mem_cons.mpr ⟨ok_ifeq C (show decode cX11_logLine 42 = .ok (.ifCond .eq 7, 3) by decide +kernel) (tg := 49) (by decide) rfl rfl, ?_⟩
  refine List.forall_mem_cons.mpr ⟨ok_iconst C (show decode cX11_logLine 45 = .ok (.iconst 2, 1) by decide +kernel) (by decide) rfl, ?_⟩
  refine List.forall_mem_cons.mpr ⟨ok_goto C (show decode cX11_logLine 46 = .ok (.goto 18, 3) by decide +kernel) (tg := 64) (by decide) rfl, ?_⟩
  refine List.forall_mem_cons.mpr ⟨ok_aload_n C (show decode cX11_logLine 49 = .ok (.aload_n 0, 1) by decide +kernel) rfl rfl, ?_⟩
  refine List.forall_mem_cons.mpr ⟨ok_ldc2 C (show decode cX11_logLine 50 = .ok (.ldc2_w 111, 3) by decide +kernel) (gm kw_1167) rfl, ?_⟩
  refine List.forall_mem_cons.mpr ⟨ok_callV C h_X11_isWord ⟨rfl, rfl⟩ rfl kw_1340 kw_1337 kw_1339 kp_52 kw_11 rfl ds_X11_isWord ⟨by decide, by decide⟩ (show decode cX11_logLine 53 = .ok (.invokevirtual 201, 3) by decide +kernel) rfl, ?_⟩
  refine List.forall_mem_cons.mpr ⟨ok_ifeq C (show decode cX11_logLine 56 = .ok (.ifCond .eq 7, 3) by decide +kernel) (tg := 63) (by decide) rfl rfl, ?_⟩
  refine List.forall_mem_cons.mpr ⟨ok_iconst C (show decode cX11_logLine 59 = .ok (.iconst 4, 1) by decide +kernel) (by decide) rfl, ?_⟩
  refine List.forall_mem_cons.mpr ⟨ok_goto C (show decode cX11_logLine 60 = .ok (.goto 4, 3) by decide +kernel) (tg := 64) (by decide) rfl, ?_⟩
  refine List.forall_mem_cons.mpr ⟨ok_iconst C (show decode cX11_logLine 63 = .ok (.iconst 3, 1) by decide +kernel) (by decide) rfl, ?_⟩
  refine List.forall_mem_cons.mpr ⟨ok_istore_n C (show decode cX11_logLine 64 = .ok (.istore_n 2, 1) by decide +kernel) rfl (by decide) rfl, ?_⟩
  refine List.forall_mem_cons.mpr ⟨ok_iload_n C (show decode cX11_logLine 65 = .ok (.iload_n 2, 1) by decide +kernel) rfl rfl, ?_⟩
  refine List.forall_mem_cons.mpr ⟨ok_iconst C (show decode cX11_logLine 66 = .ok (.iconst 3, 1) by decide +kernel) (by decide) rfl, ?_⟩
  refine List.forall_mem_cons.mpr ⟨ok_icmpne C (show decode cX11_logLine 67 = .ok (.if_icmp .ne 20, 3) by decide +kernel) (tg := 87) (by decide) rfl rfl, ?_⟩
  refine List.forall_mem_cons.mpr ⟨ok_aload_n C (show decode cX11_logLine 70 = .ok (.aload_n 0, 1) by decide +kernel) rfl rfl, ?_⟩
  refine List.forall_mem_cons.mpr ⟨ok_bipush C (show decode cX11_logLine 71 = .ok (.bipush 6, 2) by decide +kernel) (by decide) rfl, ?_⟩
  refine List.forall_mem_cons.mpr ⟨ok_aload_n C (show decode cX11_logLine 73 = .ok (.aload_n 0, 1) by decide +kernel) rfl rfl, ?_⟩
  refine List.forall_mem_cons.mpr ⟨ok_getf C (wi_X11) rfl (by decide) kw_1186 (show decode cX11_logLine 74 = .ok (.getfield 33, 3) by decide +kernel) rfl, ?_⟩
  refine List.forall_mem_cons.mpr ⟨ok_iconst C (show decode cX11_logLine 77 = .ok (.iconst 1, 1) by decide +kernel) (by decide) rfl, ?_⟩
  refine List.forall_mem_cons.mpr ⟨ok_iaload C (show decode cX11_logLine 78 = .ok (.iaload, 1) by decide +kernel) rfl, ?_⟩
  refine List.forall_mem_cons.mpr ⟨ok_callV C h_X11_looksAt ⟨rfl, rfl⟩ rfl kw_1379 kw_1376 kw_1378 kp_61 kw_11 rfl ds_X11_looksAt ⟨by decide, by decide⟩ (show decode cX11_logLine 79 = .ok (.invokevirtual 198, 3) by decide +kernel) rfl, ?_⟩
  refine List.forall_mem_cons.mpr ⟨ok_ifne C (show decode cX11_logLine 82 = .ok (.ifCond .ne 5, 3) by decide +kernel) (tg := 87) (by decide) rfl rfl, ?_⟩
  refine List.forall_mem_cons.mpr ⟨ok_iconst C (show decode cX11_logLine 85 = .ok (.iconst 0, 1) by decide +kernel) (by decide) rfl, ?_⟩
  refine List.forall_mem_cons.mpr ⟨ok_zret C rfl (show decode cX11_logLine 86 = .ok (.ireturn, 1) by decide +kernel), ?_⟩
  refine List.forall_mem_cons.mpr ⟨ok_aload_n C (show decode cX11_logLine 87 = .ok (.aload_n 0, 1) by decide +kernel) rfl rfl, ?_⟩
  refine List.forall_mem_cons.mpr ⟨ok_getf C (wi_X11) rfl (by decide) kw_1210 (show decode cX11_logLine 88 = .ok (.getfield 348, 3) by decide +kernel) rfl, ?_⟩
  refine List.forall_mem_cons.mpr ⟨ok_bipush C (show decode cX11_logLine 91 = .ok (.bipush 40, 2) by decide +kernel) (by decide) rfl, ?_⟩
  refine List.forall_mem_cons.mpr ⟨ok_icmpne C (show decode cX11_logLine 93 = .ok (.if_icmp .ne 9, 3) by decide +kernel) (tg := 102) (by decide) rfl rfl, ?_⟩
  refine List.forall_mem_cons.mpr ⟨ok_aload_n C (show decode cX11_logLine 96 = .ok (.aload_n 0, 1) by decide +kernel) rfl rfl, ?_⟩
  refine List.forall_mem_cons.mpr ⟨ok_iconst C (show decode cX11_logLine 97 = .ok (.iconst 4, 1) by decide +kernel) (by decide) rfl, ?_⟩
  refine List.forall_mem_cons.mpr ⟨ok_callV C h_X11_bad ⟨rfl, rfl⟩ rfl kw_1344 kw_1341 kw_1343 kp_53 kw_11 rfl ds_X11_bad ⟨by decide, by decide⟩ (show decode cX11_logLine 98 = .ok (.invokevirtual 173, 3) by decide +kernel) rfl, ?_⟩
  refine List.forall_mem_cons.mpr ⟨ok_zret C rfl (show decode cX11_logLine 101 = .ok (.ireturn, 1) by decide +kernel), ?_⟩
  refine List.forall_mem_cons.mpr ⟨ok_aload_n C (show decode cX11_logLine 102 = .ok (.aload_n 0, 1) by decide +kernel) rfl rfl, ?_⟩
  refine List.forall_mem_cons.mpr ⟨ok_getf C (wi_X11) rfl (by decide) kw_1188 (show decode cX11_logLine 103 = .ok (.getfield 40, 3) by decide +kernel) rfl, ?_⟩
  refine List.forall_mem_cons.mpr ⟨ok_iload_n C (show decode cX11_logLine 106 = .ok (.iload_n 1, 1) by decide +kernel) rfl rfl, ?_⟩
  refine List.forall_mem_cons.mpr ⟨ok_iload_n C (show decode cX11_logLine 107 = .ok (.iload_n 2, 1) by decide +kernel) rfl rfl, ?_⟩
  refine List.forall_mem_cons.mpr ⟨ok_iastore C (show decode cX11_logLine 108 = .ok (.iastore, 1) by decide +kernel) rfl, ?_⟩
  refine List.forall_mem_cons.mpr ⟨ok_aload_n C (show decode cX11_logLine 109 = .ok (.aload_n 0, 1) by decide +kernel) rfl rfl, ?_⟩
  refine List.forall_mem_cons.mpr ⟨ok_getf C (wi_X11) rfl (by decide) kw_1188 (show decode cX11_logLine 110 = .ok (.getfield 40, 3) by decide +kernel) rfl, ?_⟩
  refine List.forall_mem_cons.mpr ⟨ok_iload_n C (show decode cX11_logLine 113 = .ok (.iload_n 1, 1) by decide +kernel) rfl rfl, ?_⟩
  refine List.forall_mem_cons.mpr ⟨ok_iconst C (show decode cX11_logLine 114 = .ok (.iconst 1, 1) by decide +kernel) (by decide) rfl, ?_⟩
  refine List.forall_mem_cons.mpr ⟨ok_iadd C (show decode cX11_logLine 115 = .ok (.iadd, 1) by decide +kernel) rfl, ?_⟩
  refine List.forall_mem_cons.mpr ⟨ok_aload_n C (show decode cX11_logLine 116 = .ok (.aload_n 0, 1) by decide +kernel) rfl rfl, ?_⟩
  refine List.forall_mem_cons.mpr ⟨ok_getf C (wi_X11) rfl (by decide) kw_1198 (show decode cX11_logLine 117 = .ok (.getfield 183, 3) by decide +kernel) rfl, ?_⟩
  refine List.forall_mem_cons.mpr ⟨ok_iastore C (show decode cX11_logLine 120 = .ok (.iastore, 1) by decide +kernel) rfl, ?_⟩
  refine List.forall_mem_cons.mpr ⟨ok_aload_n C (show decode cX11_logLine 121 = .ok (.aload_n 0, 1) by decide +kernel) rfl rfl, ?_⟩
  refine List.forall_mem_cons.mpr ⟨ok_callV C h_X11_next ⟨rfl, rfl⟩ rfl kw_1322 kw_1319 kw_1321 kp_49 kw_11 rfl ds_X11_next ⟨by decide, by decide⟩ (show decode cX11_logLine 122 = .ok (.invokevirtual 176, 3) by decide +kernel) rfl, ?_⟩
  refine List.forall_mem_cons.mpr ⟨ok_iload_n C (show decode cX11_logLine 125 = .ok (.iload_n 2, 1) by decide +kernel) rfl rfl, ?_⟩
  refine List.forall_mem_cons.mpr ⟨ok_iconst C (show decode cX11_logLine 126 = .ok (.iconst 3, 1) by decide +kernel) (by decide) rfl, ?_⟩
  refine List.forall_mem_cons.mpr ⟨ok_icmpne C (show decode cX11_logLine 127 = .ok (.if_icmp .ne 25, 3) by decide +kernel) (tg := 152) (by decide) rfl rfl, ?_⟩
  refine List.forall_mem_cons.mpr ⟨ok_aload_n C (show decode cX11_logLine 130 = .ok (.aload_n 0, 1) by decide +kernel) rfl rfl, ?_⟩
  refine List.forall_mem_cons.mpr ⟨ok_ldc2 C (show decode cX11_logLine 131 = .ok (.ldc2_w 109, 3) by decide +kernel) (gm kw_1166) rfl, ?_⟩
  refine List.forall_mem_cons.mpr ⟨ok_callV C h_X11_isWord ⟨rfl, rfl⟩ rfl kw_1340 kw_1337 kw_1339 kp_52 kw_11 rfl ds_X11_isWord ⟨by decide, by decide⟩ (show decode cX11_logLine 134 = .ok (.invokevirtual 201, 3) by decide +kernel) rfl, ?_⟩
  refine List.forall_mem_cons.mpr ⟨ok_ifne C (show decode cX11_logLine 137 = .ok (.ifCond .ne 9, 3) by decide +kernel) (tg := 146) (by decide) rfl rfl, ?_⟩
  refine List.forall_mem_cons.mpr ⟨ok_aload_n C (show decode cX11_logLine 140 = .ok (.aload_n 0, 1) by decide +kernel) rfl rfl, ?_⟩
  refine List.forall_mem_cons.mpr ⟨ok_iconst C (show decode cX11_logLine 141 = .ok (.iconst 1, 1) by decide +kernel) (by decide) rfl, ?_⟩
  refine List.forall_mem_cons.mpr ⟨ok_callV C h_X11_bad ⟨rfl, rfl⟩ rfl kw_1344 kw_1341 kw_1343 kp_53 kw_11 rfl ds_X11_bad ⟨by decide, by decide⟩ (show decode cX11_logLine 142 = .ok (.invokevirtual 173, 3) by decide +kernel) rfl, ?_⟩
  refine List.forall_mem_cons.mpr ⟨ok_zret C rfl (show decode cX11_logLine 145 = .ok (.ireturn, 1) by decide +kernel), ?_⟩
  refine List.forall_mem_cons.mpr ⟨ok_aload_n C (show decode cX11_logLine 146 = .ok (.aload_n 0, 1) by decide +kernel) rfl rfl, ?_⟩
  refine List.forall_mem_cons.mpr ⟨ok_callV C h_X11_next ⟨rfl, rfl⟩ rfl kw_1322 kw_1319 kw_1321 kp_49 kw_11 rfl ds_X11_next ⟨by decide, by decide⟩ (show decode cX11_logLine 147 = .ok (.invokevirtual 176, 3) by decide +kernel) rfl, ?_⟩
  refine List.forall_mem_cons.mpr ⟨ok_iconst C (show decode cX11_logLine 150 = .ok (.iconst 1, 1) by decide +kernel) (by decide) rfl, ?_⟩
  refine List.forall_mem_cons.mpr ⟨ok_zret C rfl (show decode cX11_logLine 151 = .ok (.ireturn, 1) by decide +kernel), ?_⟩
  refine List.forall_mem_cons.mpr ⟨ok_iload_n C (show decode cX11_logLine 152 = .ok (.iload_n 2, 1) by decide +kernel) rfl rfl, ?_⟩
  refine List.forall_mem_cons.mpr ⟨ok_iconst C (show decode cX11_logLine 153 = .ok (.iconst 4, 1) by decide +kernel) (by decide) rfl, ?_⟩
  refine List.forall_mem_cons.mpr ⟨ok_icmpne C (show decode cX11_logLine 154 = .ok (.if_icmp .ne 29, 3) by decide +kernel) (tg := 183) (by decide) rfl rfl, ?_⟩
  refine List.forall_mem_cons.mpr ⟨ok_aload_n C (show decode cX11_logLine 157 = .ok (.aload_n 0, 1) by decide +kernel) rfl rfl, ?_⟩
  refine List.forall_mem_cons.mpr ⟨ok_iconst C (show decode cX11_logLine 158 = .ok (.iconst 1, 1) by decide +kernel) (by decide) rfl, ?_⟩
  refine List.forall_mem_cons.mpr ⟨ok_bipush C (show decode cX11_logLine 159 = .ok (.bipush 60, 2) by decide +kernel) (by decide) rfl, ?_⟩
  refine List.forall_mem_cons.mpr ⟨ok_callV C h_X11_takes ⟨rfl, rfl⟩ rfl kw_1352 kw_1349 kw_1351 kp_55 kw_11 rfl ds_X11_takes ⟨by decide, by decide⟩ (show decode cX11_logLine 161 = .ok (.invokevirtual 186, 3) by decide +kernel) rfl, ?_⟩
  refine List.forall_mem_cons.mpr ⟨ok_ifne C (show decode cX11_logLine 164 = .ok (.ifCond .ne 5, 3) by decide +kernel) (tg := 169) (by decide) rfl rfl, ?_⟩
  refine List.forall_mem_cons.mpr ⟨ok_iconst C (show decode cX11_logLine 167 = .ok (.iconst 0, 1) by decide +kernel) (by decide) rfl, ?_⟩
  refine List.forall_mem_cons.mpr ⟨ok_zret C rfl (show decode cX11_logLine 168 = .ok (.ireturn, 1) by decide +kernel), ?_⟩
  refine List.forall_mem_cons.mpr ⟨ok_aload_n C (show decode cX11_logLine 169 = .ok (.aload_n 0, 1) by decide +kernel) rfl rfl, ?_⟩
  refine List.forall_mem_cons.mpr ⟨ok_getf C (wi_X11) rfl (by decide) kw_1188 (show decode cX11_logLine 170 = .ok (.getfield 40, 3) by decide +kernel) rfl, ?_⟩
  refine List.forall_mem_cons.mpr ⟨ok_iload_n C (show decode cX11_logLine 173 = .ok (.iload_n 1, 1) by decide +kernel) rfl rfl, ?_⟩
  refine List.forall_mem_cons.mpr ⟨ok_iconst C (show decode cX11_logLine 174 = .ok (.iconst 1, 1) by decide +kernel) (by decide) rfl, ?_⟩
  refine List.forall_mem_cons.mpr ⟨ok_iadd C (show decode cX11_logLine 175 = .ok (.iadd, 1) by decide +kernel) rfl, ?_⟩
  refine List.forall_mem_cons.mpr ⟨ok_aload_n C (show decode cX11_logLine 176 = .ok (.aload_n 0, 1) by decide +kernel) rfl rfl, ?_⟩
  refine List.forall_mem_cons.mpr ⟨ok_getf C (wi_X11) rfl (by decide) kw_1198 (show decode cX11_logLine 177 = .ok (.getfield 183, 3) by decide +kernel) rfl, ?_⟩
  refine List.forall_mem_cons.mpr ⟨ok_iastore C (show decode cX11_logLine 180 = .ok (.iastore, 1) by decide +kernel) rfl, ?_⟩
  refine List.forall_mem_cons.mpr ⟨ok_iconst C (show decode cX11_logLine 181 = .ok (.iconst 1, 1) by decide +kernel) (by decide) rfl, ?_⟩
  refine List.forall_mem_cons.mpr ⟨ok_zret C rfl (show decode cX11_logLine 182 = .ok (.ireturn, 1) by decide +kernel), ?_⟩
  refine List.forall_mem_cons.mpr ⟨ok_aload_n C (show decode cX11_logLine 183 = .ok (.aload_n 0, 1) by decide +kernel) rfl rfl, ?_⟩
  refine List.forall_mem_cons.mpr ⟨ok_iconst C (show decode cX11_logLine 184 = .ok (.iconst 0, 1) by decide +kernel) (by decide) rfl, ?_⟩
  refine List.forall_mem_cons.mpr ⟨ok_aload_n C (show decode cX11_logLine 185 = .ok (.aload_n 0, 1) by decide +kernel) rfl rfl, ?_⟩
  refine List.forall_mem_cons.mpr ⟨ok_getf C (wi_X11) rfl (by decide) kw_1186 (show decode cX11_logLine 186 = .ok (.getfield 33, 3) by decide +kernel) rfl, ?_⟩
  refine List.forall_mem_cons.mpr ⟨ok_iconst C (show decode cX11_logLine 189 = .ok (.iconst 0, 1) by decide +kernel) (by decide) rfl, ?_⟩
  refine List.forall_mem_cons.mpr ⟨ok_iaload C (show decode cX11_logLine 190 = .ok (.iaload, 1) by decide +kernel) rfl, ?_⟩
  refine List.forall_mem_cons.mpr ⟨ok_callV C h_X11_takesName ⟨rfl, rfl⟩ rfl kw_1375 kw_1372 kw_1374 kp_60 kw_11 rfl ds_X11_takesName ⟨by decide, by decide⟩ (show decode cX11_logLine 191 = .ok (.invokevirtual 218, 3) by decide +kernel) rfl, ?_⟩
  refine List.forall_mem_cons.mpr ⟨ok_ifne C (show decode cX11_logLine 194 = .ok (.ifCond .ne 5, 3) by decide +kernel) (tg := 199) (by decide) rfl rfl, ?_⟩
  refine List.forall_mem_cons.mpr ⟨ok_iconst C (show decode cX11_logLine 197 = .ok (.iconst 0, 1) by decide +kernel) (by decide) rfl, ?_⟩
  refine List.forall_mem_cons.mpr ⟨ok_zret C rfl (show decode cX11_logLine 198 = .ok (.ireturn, 1) by decide +kernel), ?_⟩
  refine List.forall_mem_cons.mpr ⟨ok_aload_n C (show decode cX11_logLine 199 = .ok (.aload_n 0, 1) by decide +kernel) rfl rfl, ?_⟩
  refine List.forall_mem_cons.mpr ⟨ok_getf C (wi_X11) rfl (by decide) kw_1188 (show decode cX11_logLine 200 = .ok (.getfield 40, 3) by decide +kernel) rfl, ?_⟩
  refine List.forall_mem_cons.mpr ⟨ok_iload_n C (show decode cX11_logLine 203 = .ok (.iload_n 1, 1) by decide +kernel) rfl rfl, ?_⟩
  refine List.forall_mem_cons.mpr ⟨ok_iconst C (show decode cX11_logLine 204 = .ok (.iconst 1, 1) by decide +kernel) (by decide) rfl, ?_⟩
  refine List.forall_mem_cons.mpr ⟨ok_iadd C (show decode cX11_logLine 205 = .ok (.iadd, 1) by decide +kernel) rfl, ?_⟩
  refine List.forall_mem_cons.mpr ⟨ok_aload_n C (show decode cX11_logLine 206 = .ok (.aload_n 0, 1) by decide +kernel) rfl rfl, ?_⟩
  refine List.forall_mem_cons.mpr ⟨ok_getf C (wi_X11) rfl (by decide) kw_1198 (show decode cX11_logLine 207 = .ok (.getfield 183, 3) by decide +kernel) rfl, ?_⟩
  refine List.forall_mem_cons.mpr ⟨ok_iastore C (show decode cX11_logLine 210 = .ok (.iastore, 1) by decide +kernel) rfl, ?_⟩
  refine List.forall_mem_cons.mpr ⟨ok_aload_n C (show decode cX11_logLine 211 = .ok (.aload_n 0, 1) by decide +kernel) rfl rfl, ?_⟩
  refine List.forall_mem_cons.mpr ⟨ok_iconst C (show decode cX11_logLine 212 = .ok (.iconst 0, 1) by decide +kernel) (by decide) rfl, ?_⟩
  refine List.forall_mem_cons.mpr ⟨ok_iconst C (show decode cX11_logLine 213 = .ok (.iconst 1, 1) by decide +kernel) (by decide) rfl, ?_⟩
  refine List.forall_mem_cons.mpr ⟨ok_callV C h_X11_takes ⟨rfl, rfl⟩ rfl kw_1352 kw_1349 kw_1351 kp_55 kw_11 rfl ds_X11_takes ⟨by decide, by decide⟩ (show decode cX11_logLine 214 = .ok (.invokevirtual 186, 3) by decide +kernel) rfl, ?_⟩
  refine List.forall_mem_cons.mpr ⟨ok_ifne C (show decode cX11_logLine 217 = .ok (.ifCond .ne 5, 3) by decide +kernel) (tg := 222) (by decide) rfl rfl, ?_⟩
  refine List.forall_mem_cons.mpr ⟨ok_iconst C (show decode cX11_logLine 220 = .ok (.iconst 0, 1) by decide +kernel) (by decide) rfl, ?_⟩
  refine List.forall_mem_cons.mpr ⟨ok_zret C rfl (show decode cX11_logLine 221 = .ok (.ireturn, 1) by decide +kernel), ?_⟩
  refine List.forall_mem_cons.mpr ⟨ok_aload_n C (show decode cX11_logLine 222 = .ok (.aload_n 0, 1) by decide +kernel) rfl rfl, ?_⟩
  refine List.forall_mem_cons.mpr ⟨ok_getf C (wi_X11) rfl (by decide) kw_1188 (show decode cX11_logLine 223 = .ok (.getfield 40, 3) by decide +kernel) rfl, ?_⟩
  refine List.forall_mem_cons.mpr ⟨ok_iload_n C (show decode cX11_logLine 226 = .ok (.iload_n 1, 1) by decide +kernel) rfl rfl, ?_⟩
  refine List.forall_mem_cons.mpr ⟨ok_iconst C (show decode cX11_logLine 227 = .ok (.iconst 2, 1) by decide +kernel) (by decide) rfl, ?_⟩
  refine List.forall_mem_cons.mpr ⟨ok_iadd C (show decode cX11_logLine 228 = .ok (.iadd, 1) by decide +kernel) rfl, ?_⟩
  refine List.forall_mem_cons.mpr ⟨ok_aload_n C (show decode cX11_logLine 229 = .ok (.aload_n 0, 1) by decide +kernel) rfl rfl, ?_⟩
  refine List.forall_mem_cons.mpr ⟨ok_getf C (wi_X11) rfl (by decide) kw_1198 (show decode cX11_logLine 230 = .ok (.getfield 183, 3) by decide +kernel) rfl, ?_⟩
  refine List.forall_mem_cons.mpr ⟨ok_iastore C (show decode cX11_logLine 233 = .ok (.iastore, 1) by decide +kernel) rfl, ?_⟩
  refine List.forall_mem_cons.mpr ⟨ok_aload_n C (show decode cX11_logLine 234 = .ok (.aload_n 0, 1) by decide +kernel) rfl rfl, ?_⟩
  refine List.forall_mem_cons.mpr ⟨ok_iconst C (show decode cX11_logLine 235 = .ok (.iconst 1, 1) by decide +kernel) (by decide) rfl, ?_⟩
  refine List.forall_mem_cons.mpr ⟨ok_sipush C (show decode cX11_logLine 236 = .ok (.sipush 250, 3) by decide +kernel) (by decide) rfl, ?_⟩
  refine List.forall_mem_cons.mpr ⟨ok_callV C h_X11_takes ⟨rfl, rfl⟩ rfl kw_1352 kw_1349 kw_1351 kp_55 kw_11 rfl ds_X11_takes ⟨by decide, by decide⟩ (show decode cX11_logLine 239 = .ok (.invokevirtual 186, 3) by decide +kernel) rfl, ?_⟩
  refine List.forall_mem_cons.mpr ⟨ok_ifne C (show decode cX11_logLine 242 = .ok (.ifCond .ne 5, 3) by decide +kernel) (tg := 247) (by decide) rfl rfl, ?_⟩
  refine List.forall_mem_cons.mpr ⟨ok_iconst C (show decode cX11_logLine 245 = .ok (.iconst 0, 1) by decide +kernel) (by decide) rfl, ?_⟩
  refine List.forall_mem_cons.mpr ⟨ok_zret C rfl (show decode cX11_logLine 246 = .ok (.ireturn, 1) by decide +kernel), ?_⟩
  refine List.forall_mem_cons.mpr ⟨ok_aload_n C (show decode cX11_logLine 247 = .ok (.aload_n 0, 1) by decide +kernel) rfl rfl, ?_⟩
  refine List.forall_mem_cons.mpr ⟨ok_getf C (wi_X11) rfl (by decide) kw_1188 (show decode cX11_logLine 248 = .ok (.getfield 40, 3) by decide +kernel) rfl, ?_⟩
  refine List.forall_mem_cons.mpr ⟨ok_iload_n C (show decode cX11_logLine 251 = .ok (.iload_n 1, 1) by decide +kernel) rfl rfl, ?_⟩
  refine List.forall_mem_cons.mpr ⟨ok_iconst C (show decode cX11_logLine 252 = .ok (.iconst 3, 1) by decide +kernel) (by decide) rfl, ?_⟩
  refine List.forall_mem_cons.mpr ⟨ok_iadd C (show decode cX11_logLine 253 = .ok (.iadd, 1) by decide +kernel) rfl, ?_⟩
  refine List.forall_mem_cons.mpr ⟨ok_aload_n C (show decode cX11_logLine 254 = .ok (.aload_n 0, 1) by decide +kernel) rfl rfl, ?_⟩
  refine List.forall_mem_cons.mpr ⟨ok_getf C (wi_X11) rfl (by decide) kw_1198 (show decode cX11_logLine 255 = .ok (.getfield 183, 3) by decide +kernel) rfl, ?_⟩
  refine List.forall_mem_cons.mpr ⟨ok_iastore C (show decode cX11_logLine 258 = .ok (.iastore, 1) by decide +kernel) rfl, ?_⟩
  refine List.forall_mem_cons.mpr ⟨ok_iconst C (show decode cX11_logLine 259 = .ok (.iconst 1, 1) by decide +kernel) (by decide) rfl, ?_⟩
  refine List.forall_mem_cons.mpr ⟨ok_zret C rfl (show decode cX11_logLine 260 = .ok (.ireturn, 1) by decide +kernel), ?_⟩
  exact fun _ h => absurd h List.not_mem_nil
def L_X11_does (f_X11_cell : List Value → ab_H → Option ab_O) (f_X11_isDead : List Value → ab_H → Option ab_O) (f_X11_whyBare : List Value → ab_H → Option ab_O) (f_X11_whyHoard : List Value → ab_H → Option ab_O) (f_X11_hoards : List Value → ab_H → Option ab_O) (f_X11_goesOn : List Value → ab_H → Option ab_O) : List (Nat × ab_A) := [
  (0, ab_nx 1 (ab_iload 2)),
  (1, ab_nx 2 (ab_iload 3)),
  (2, ab_nx 5 (ab_call 2 f_X11_cell 0 0 0 0)),
  (5, ab_nx 7 (ab_istore 5)),
  (7, ab_nx 8 (ab_iload 1)),
  (8, ab_nx 9 (ab_lit (.int 3))),
  (9, ab_icmp 12 28 (fun x y => !decide (x = y))),
  (12, ab_nx 13 (ab_aload 0)),
  (13, ab_nx 14 (ab_iload 2)),
  (14, ab_nx 17 (ab_callV 2 11 f_X11_isDead 0 0 0 0)),
  (17, ab_if 20 24 (fun x => decide (x = 0))),
  (20, ab_nx 21 (ab_lit (.int 1))),
  (21, ab_goto 80),
  (24, ab_nx 25 (ab_lit (.int 0))),
  (25, ab_goto 80),
  (28, ab_nx 29 (ab_iload 1)),
  (29, ab_nx 30 (ab_lit (.int 4))),
  (30, ab_icmp 33 56 (fun x y => !decide (x = y))),
  (33, ab_nx 34 (ab_aload 0)),
  (34, ab_nx 37 (ab_getf 11 6)),
  (37, ab_nx 39 (ab_lit (.int 120))),
  (39, ab_nx 40 (ab_ald 1)),
  (40, ab_nx 41 (ab_iload 2)),
  (41, ab_nx 42 (ab_bin (fun x y => x + y))),
  (42, ab_nx 45 (ab_lit (.int 400))),
  (45, ab_icmp 48 52 (fun x y => decide (x ≤ y))),
  (48, ab_nx 49 (ab_lit (.int 1))),
  (49, ab_goto 80),
  (52, ab_nx 53 (ab_lit (.int 0))),
  (53, ab_goto 80),
  (56, ab_nx 57 (ab_iload 1)),
  (57, ab_nx 58 (ab_lit (.int 1))),
  (58, ab_icmp 61 72 (fun x y => !decide (x = y))),
  (61, ab_nx 62 (ab_aload 0)),
  (62, ab_nx 64 (ab_iload 5)),
  (64, ab_nx 66 (ab_iload 4)),
  (66, ab_nx 69 (ab_callV 3 11 f_X11_whyBare 0 0 0 0)),
  (69, ab_goto 80),
  (72, ab_nx 73 (ab_aload 0)),
  (73, ab_nx 75 (ab_iload 5)),
  (75, ab_nx 77 (ab_iload 4)),
  (77, ab_nx 80 (ab_callV 3 11 f_X11_whyHoard 0 0 0 0)),
  (80, ab_nx 82 (ab_istore 6)),
  (82, ab_nx 84 (ab_iload 6)),
  (84, ab_if 87 95 (fun x => decide (x ≤ 0))),
  (87, ab_nx 89 (ab_lit (.int 10))),
  (89, ab_nx 90 (ab_iload 1)),
  (90, ab_nx 91 (ab_bin (fun x y => x * y))),
  (91, ab_nx 93 (ab_iload 6)),
  (93, ab_nx 94 (ab_bin (fun x y => x + y))),
  (94, ab_ret 0 0),
  (95, ab_nx 96 (ab_iload 1)),
  (96, ab_if 99 110 (fun x => !decide (x = 0))),
  (99, ab_nx 100 (ab_aload 0)),
  (100, ab_nx 102 (ab_iload 5)),
  (102, ab_nx 104 (ab_iload 4)),
  (104, ab_nx 107 (ab_callV 3 11 f_X11_hoards 0 0 0 0)),
  (107, ab_goto 178),
  (110, ab_nx 111 (ab_iload 1)),
  (111, ab_nx 112 (ab_lit (.int 1))),
  (112, ab_icmp 115 127 (fun x y => !decide (x = y))),
  (115, ab_nx 116 (ab_aload 0)),
  (116, ab_nx 118 (ab_iload 5)),
  (118, ab_nx 120 (ab_iload 4)),
  (120, ab_nx 121 (ab_un (fun x => -x))),
  (121, ab_nx 124 (ab_callV 3 11 f_X11_hoards 0 0 0 0)),
  (124, ab_goto 178),
  (127, ab_nx 128 (ab_iload 1)),
  (128, ab_nx 129 (ab_lit (.int 2))),
  (129, ab_icmp 132 150 (fun x y => !decide (x = y))),
  (132, ab_nx 133 (ab_aload 0)),
  (133, ab_nx 136 (ab_getf 11 6)),
  (136, ab_nx 138 (ab_lit (.int 124))),
  (138, ab_nx 140 (ab_iload 5)),
  (140, ab_nx 141 (ab_bin (fun x y => x + y))),
  (141, ab_nx 142 ab_dup2),
  (142, ab_nx 143 (ab_ald 1)),
  (143, ab_nx 145 (ab_iload 4)),
  (145, ab_nx 146 (ab_bin (fun x y => x - y))),
  (146, ab_nx 147 (ab_ast 1)),
  (147, ab_goto 178),
  (150, ab_nx 151 (ab_iload 1)),
  (151, ab_nx 152 (ab_lit (.int 3))),
  (152, ab_icmp 155 172 (fun x y => !decide (x = y))),
  (155, ab_nx 156 (ab_aload 0)),
  (156, ab_nx 159 (ab_getf 11 6)),
  (159, ab_nx 162 (ab_lit (.int 180))),
  (162, ab_nx 163 ab_dup2),
  (163, ab_nx 164 (ab_ald 1)),
  (164, ab_nx 165 (ab_lit (.int 1))),
  (165, ab_nx 166 (ab_iload 2)),
  (166, ab_nx 167 (ab_bin (fun x y => x <<< (y &&& 31)))),
  (167, ab_nx 168 (ab_bin (fun x y => x ||| y))),
  (168, ab_nx 169 (ab_ast 1)),
  (169, ab_goto 178),
  (172, ab_nx 173 (ab_aload 0)),
  (173, ab_nx 174 (ab_iload 2)),
  (174, ab_nx 177 (ab_callV 2 11 f_X11_goesOn 0 0 0 0)),
  (177, ab_nx 178 ab_pop),
  (178, ab_nx 179 (ab_lit (.int 0))),
  (179, ab_ret 0 0)]
set_option maxRecDepth 100000 in
set_option maxHeartbeats 4000000 in
theorem M_X11_does {l : Launch} {b : ab_B} {D : va_G} {cA : Nat → ClassId} {f_X11_cell : List Value → ab_H → Option ab_O} (h_X11_cell : ab_M l b D ab_cl cA (ab_E0 b) yX11_cell (Cond.code yX11_cell cX11_cell 2 (some .int) :: ab_G) ({ frames := 1, cells := 0, slots := 0, locals := 100 } : Room) f_X11_cell) {f_X11_isDead : List Value → ab_H → Option ab_O} (h_X11_isDead : ab_M l b D ab_cl cA (ab_E0 b) yX11_isDead (Cond.code yX11_isDead cX11_isDead 2 (some .boolean) :: ab_G) ({ frames := 2, cells := 0, slots := 0, locals := 200 } : Room) f_X11_isDead) {f_X11_whyBare : List Value → ab_H → Option ab_O} (h_X11_whyBare : ab_M l b D ab_cl cA (ab_E0 b) yX11_whyBare (Cond.code yX11_whyBare cX11_whyBare 3 (some .int) :: ab_G) ({ frames := 1, cells := 0, slots := 0, locals := 100 } : Room) f_X11_whyBare) {f_X11_whyHoard : List Value → ab_H → Option ab_O} (h_X11_whyHoard : ab_M l b D ab_cl cA (ab_E0 b) yX11_whyHoard (Cond.code yX11_whyHoard cX11_whyHoard 3 (some .int) :: ab_G) ({ frames := 1, cells := 0, slots := 0, locals := 100 } : Room) f_X11_whyHoard) {f_X11_hoards : List Value → ab_H → Option ab_O} (h_X11_hoards : ab_M l b D ab_cl cA (ab_E0 b) yX11_hoards (Cond.code yX11_hoards cX11_hoards 3 none :: ab_G) ({ frames := 1, cells := 0, slots := 0, locals := 100 } : Room) f_X11_hoards) {f_X11_goesOn : List Value → ab_H → Option ab_O} (h_X11_goesOn : ab_M l b D ab_cl cA (ab_E0 b) yX11_goesOn (Cond.code yX11_goesOn cX11_goesOn 3 (some .int) :: ab_G) ({ frames := 8, cells := 0, slots := 0, locals := 800 } : Room) f_X11_goesOn) : ab_M l b D ab_cl cA (ab_E0 b) yX11_does (Cond.code yX11_does cX11_does 7 (some .int) :: ab_G) ({ frames := 9, cells := 0, slots := 0, locals := 900 } : Room) (ab_X (ab_T (L_X11_does f_X11_cell f_X11_isDead f_X11_whyBare f_X11_whyHoard f_X11_hoards f_X11_goesOn)) 7) := by
  refine ab_meth (ret := (some .int)) (L_X11_does f_X11_cell f_X11_isDead f_X11_whyBare f_X11_whyHoard f_X11_hoards f_X11_goesOn) (by decide) rfl fun p e R s m args below meth c o C => ?_
  unfold L_X11_does
  refine List.forall_mem_cons.mpr ⟨ok_iload_n C (show decode cX11_does 0 = .ok (.iload_n 2, 1) by decide +kernel) rfl rfl, ?_⟩
  refine List.forall_mem_cons.mpr ⟨ok_iload_n C (show decode cX11_does 1 = .ok (.iload_n 3, 1) by decide +kernel) rfl rfl, ?_⟩
  refine List.forall_mem_cons.mpr ⟨ok_callS C h_X11_cell ⟨rfl, rfl⟩ kw_1413 kw_1411 kw_1412 kw_11 ds_X11_cell ⟨by decide, by decide⟩ (show decode cX11_does 2 = .ok (.invokestatic 245, 3) by decide +kernel) rfl, ?_⟩
  refine List.forall_mem_cons.mpr ⟨ok_istore C (show decode cX11_does 5 = .ok (.istore 5, 2) by decide +kernel) (by decide) rfl, ?_⟩
  refine List.forall_mem_cons.mpr ⟨ok_iload_n C (show decode cX11_does 7 = .ok (.iload_n 1, 1) by decide +kernel) rfl rfl, ?_⟩
  refine List.forall_mem_cons.mpr ⟨ok_iconst C (show decode cX11_does 8 = .ok (.iconst 3, 1) by decide +kernel) (by decide) rfl, ?_⟩
  refine List.forall_mem_cons.mpr ⟨ok_icmpne C (show decode cX11_does 9 = .ok (.if_icmp .ne 19, 3) by decide +kernel) (tg := 28) (by decide) rfl rfl, ?_⟩
  refine List.forall_mem_cons.mpr ⟨ok_aload_n C (show decode cX11_does 12 = .ok (.aload_n 0, 1) by decide +kernel) rfl rfl, ?_⟩
  refine List.forall_mem_cons.mpr ⟨ok_iload_n C (show decode cX11_does 13 = .ok (.iload_n 2, 1) by decide +kernel) rfl rfl, ?_⟩
  refine List.forall_mem_cons.mpr ⟨ok_callV C h_X11_isDead ⟨rfl, rfl⟩ rfl kw_1441 kw_1438 kw_1440 kp_71 kw_11 rfl ds_X11_isDead ⟨by decide, by decide⟩ (show decode cX11_does 14 = .ok (.invokevirtual 257, 3) by decide +kernel) rfl, ?_⟩
  refine List.forall_mem_cons.mpr ⟨ok_ifeq C (show decode cX11_does 17 = .ok (.ifCond .eq 7, 3) by decide +kernel) (tg := 24) (by decide) rfl rfl, ?_⟩
  refine List.forall_mem_cons.mpr ⟨ok_iconst C (show decode cX11_does 20 = .ok (.iconst 1, 1) by decide +kernel) (by decide) rfl, ?_⟩
  refine List.forall_mem_cons.mpr ⟨ok_goto C (show decode cX11_does 21 = .ok (.goto 59, 3) by decide +kernel) (tg := 80) (by decide) rfl, ?_⟩
  refine List.forall_mem_cons.mpr ⟨ok_iconst C (show decode cX11_does 24 = .ok (.iconst 0, 1) by decide +kernel) (by decide) rfl, ?_⟩
  refine List.forall_mem_cons.mpr ⟨ok_goto C (show decode cX11_does 25 = .ok (.goto 55, 3) by decide +kernel) (tg := 80) (by decide) rfl, ?_⟩
  refine List.forall_mem_cons.mpr ⟨ok_iload_n C (show decode cX11_does 28 = .ok (.iload_n 1, 1) by decide +kernel) rfl rfl, ?_⟩
  refine List.forall_mem_cons.mpr ⟨ok_iconst C (show decode cX11_does 29 = .ok (.iconst 4, 1) by decide +kernel) (by decide) rfl, ?_⟩
  refine List.forall_mem_cons.mpr ⟨ok_icmpne C (show decode cX11_does 30 = .ok (.if_icmp .ne 26, 3) by decide +kernel) (tg := 56) (by decide) rfl rfl, ?_⟩
  refine List.forall_mem_cons.mpr ⟨ok_aload_n C (show decode cX11_does 33 = .ok (.aload_n 0, 1) by decide +kernel) rfl rfl, ?_⟩
  refine List.forall_mem_cons.mpr ⟨ok_getf C (wi_X11) rfl (by decide) kw_1186 (show decode cX11_does 34 = .ok (.getfield 33, 3) by decide +kernel) rfl, ?_⟩
  refine List.forall_mem_cons.mpr ⟨ok_bipush C (show decode cX11_does 37 = .ok (.bipush 120, 2) by decide +kernel) (by decide) rfl, ?_⟩
  refine List.forall_mem_cons.mpr ⟨ok_iaload C (show decode cX11_does 39 = .ok (.iaload, 1) by decide +kernel) rfl, ?_⟩
  refine List.forall_mem_cons.mpr ⟨ok_iload_n C (show decode cX11_does 40 = .ok (.iload_n 2, 1) by decide +kernel) rfl rfl, ?_⟩
  refine List.forall_mem_cons.mpr ⟨ok_iadd C (show decode cX11_does 41 = .ok (.iadd, 1) by decide +kernel) rfl, ?_⟩
  refine List.forall_mem_cons.mpr ⟨ok_sipush C (show decode cX11_does 42 = .ok (.sipush 400, 3) by decide +kernel) (by decide) rfl, ?_⟩
  refine List.forall_mem_cons.mpr ⟨ok_icmple C (show decode cX11_does 45 = .ok (.if_icmp .le 7, 3) by decide +kernel) (tg := 52) (by decide) rfl rfl, ?_⟩
  refine List.forall_mem_cons.mpr ⟨ok_iconst C (show decode cX11_does 48 = .ok (.iconst 1, 1) by decide +kernel) (by decide) rfl, ?_⟩
  refine List.forall_mem_cons.mpr ⟨ok_goto C (show decode cX11_does 49 = .ok (.goto 31, 3) by decide +kernel) (tg := 80) (by decide) rfl, ?_⟩
  refine List.forall_mem_cons.mpr ⟨ok_iconst C (show decode cX11_does 52 = .ok (.iconst 0, 1) by decide +kernel) (by decide) rfl, ?_⟩
  refine List.forall_mem_cons.mpr ⟨ok_goto C (show decode cX11_does 53 = .ok (.goto 27, 3) by decide +kernel) (tg := 80) (by decide) rfl, ?_⟩
  refine List.forall_mem_cons.mpr ⟨ok_iload_n C (show decode cX11_does 56 = .ok (.iload_n 1, 1) by decide +kernel) rfl rfl, ?_⟩
  refine List.forall_mem_cons.mpr ⟨ok_iconst C (show decode cX11_does 57 = .ok (.iconst 1, 1) by decide +kernel) (by decide) rfl, ?_⟩
  refine List.forall_mem_cons.mpr ⟨ok_icmpne C (show decode cX11_does 58 = .ok (.if_icmp .ne 14, 3) by decide +kernel) (tg := 72) (by decide) rfl rfl, ?_⟩
  refine List.forall_mem_cons.mpr ⟨ok_aload_n C (show decode cX11_does 61 = .ok (.aload_n 0, 1) by decide +kernel) rfl rfl, ?_⟩
  refine List.forall_mem_cons.mpr ⟨ok_iload C (show decode cX11_does 62 = .ok (.iload 5, 2) by decide +kernel) rfl, ?_⟩
  refine List.forall_mem_cons.mpr ⟨ok_iload C (show decode cX11_does 64 = .ok (.iload 4, 2) by decide +kernel) rfl, ?_⟩
  refine List.forall_mem_cons.mpr ⟨ok_callV C h_X11_whyBare ⟨rfl, rfl⟩ rfl kw_1493 kw_1490 kw_1492 kp_80 kw_11 rfl ds_X11_whyBare ⟨by decide, by decide⟩ (show decode cX11_does 66 = .ok (.invokevirtual 311, 3) by decide +kernel) rfl, ?_⟩
  refine List.forall_mem_cons.mpr ⟨ok_goto C (show decode cX11_does 69 = .ok (.goto 11, 3) by decide +kernel) (tg := 80) (by decide) rfl, ?_⟩
  refine List.forall_mem_cons.mpr ⟨ok_aload_n C (show decode cX11_does 72 = .ok (.aload_n 0, 1) by decide +kernel) rfl rfl, ?_⟩
  refine List.forall_mem_cons.mpr ⟨ok_iload C (show decode cX11_does 73 = .ok (.iload 5, 2) by decide +kernel) rfl, ?_⟩
  refine List.forall_mem_cons.mpr ⟨ok_iload C (show decode cX11_does 75 = .ok (.iload 4, 2) by decide +kernel) rfl, ?_⟩
  refine List.forall_mem_cons.mpr ⟨ok_callV C h_X11_whyHoard ⟨rfl, rfl⟩ rfl kw_1477 kw_1474 kw_1476 kp_77 kw_11 rfl ds_X11_whyHoard ⟨by decide, by decide⟩ (show decode cX11_does 77 = .ok (.invokevirtual 301, 3) by decide +kernel) rfl, ?_⟩
  refine List.forall_mem_cons.mpr ⟨ok_istore C (show decode cX11_does 80 = .ok (.istore 6, 2) by decide +kernel) (by decide) rfl, ?_⟩
  refine List.forall_mem_cons.mpr ⟨ok_iload C (show decode cX11_does 82 = .ok (.iload 6, 2) by decide +kernel) rfl, ?_⟩
  refine List.forall_mem_cons.mpr ⟨ok_ifle C (show decode cX11_does 84 = .ok (.ifCond .le 11, 3) by decide +kernel) (tg := 95) (by decide) rfl rfl, ?_⟩
  refine List.forall_mem_cons.mpr ⟨ok_bipush C (show decode cX11_does 87 = .ok (.bipush 10, 2) by decide +kernel) (by decide) rfl, ?_⟩
  refine List.forall_mem_cons.mpr ⟨ok_iload_n C (show decode cX11_does 89 = .ok (.iload_n 1, 1) by decide +kernel) rfl rfl, ?_⟩
  refine List.forall_mem_cons.mpr ⟨ok_imul C (show decode cX11_does 90 = .ok (.imul, 1) by decide +kernel) rfl, ?_⟩
  refine List.forall_mem_cons.mpr ⟨ok_iload C (show decode cX11_does 91 = .ok (.iload 6, 2) by decide +kernel) rfl, ?_⟩
  refine List.forall_mem_cons.mpr ⟨ok_iadd C (show decode cX11_does 93 = .ok (.iadd, 1) by decide +kernel) rfl, ?_⟩
  refine List.forall_mem_cons.mpr ⟨ok_ret C rfl (show decode cX11_does 94 = .ok (.ireturn, 1) by decide +kernel), ?_⟩
  refine List.forall_mem_cons.mpr ⟨ok_iload_n C (show decode cX11_does 95 = .ok (.iload_n 1, 1) by decide +kernel) rfl rfl, ?_⟩
  refine List.forall_mem_cons.mpr ⟨ok_ifne C (show decode cX11_does 96 = .ok (.ifCond .ne 14, 3) by decide +kernel) (tg := 110) (by decide) rfl rfl, ?_⟩
  refine List.forall_mem_cons.mpr ⟨ok_aload_n C (show decode cX11_does 99 = .ok (.aload_n 0, 1) by decide +kernel) rfl rfl, ?_⟩
  refine List.forall_mem_cons.mpr ⟨ok_iload C (show decode cX11_does 100 = .ok (.iload 5, 2) by decide +kernel) rfl, ?_⟩
  refine List.forall_mem_cons.mpr ⟨ok_iload C (show decode cX11_does 102 = .ok (.iload 4, 2) by decide +kernel) rfl, ?_⟩
  refine List.forall_mem_cons.mpr ⟨ok_callV C h_X11_hoards ⟨rfl, rfl⟩ rfl kw_1485 kw_1482 kw_1484 kp_79 kw_11 rfl ds_X11_hoards ⟨by decide, by decide⟩ (show decode cX11_does 104 = .ok (.invokevirtual 307, 3) by decide +kernel) rfl, ?_⟩
  refine List.forall_mem_cons.mpr ⟨ok_goto C (show decode cX11_does 107 = .ok (.goto 71, 3) by decide +kernel) (tg := 178) (by decide) rfl, ?_⟩
  refine List.forall_mem_cons.mpr ⟨ok_iload_n C (show decode cX11_does 110 = .ok (.iload_n 1, 1) by decide +kernel) rfl rfl, ?_⟩
  refine List.forall_mem_cons.mpr ⟨ok_iconst C (show decode cX11_does 111 = .ok (.iconst 1, 1) by decide +kernel) (by decide) rfl, ?_⟩
  refine List.forall_mem_cons.mpr ⟨ok_icmpne C (show decode cX11_does 112 = .ok (.if_icmp .ne 15, 3) by decide +kernel) (tg := 127) (by decide) rfl rfl, ?_⟩
  refine List.forall_mem_cons.mpr ⟨ok_aload_n C (show decode cX11_does 115 = .ok (.aload_n 0, 1) by decide +kernel) rfl rfl, ?_⟩
  refine List.forall_mem_cons.mpr ⟨ok_iload C (show decode cX11_does 116 = .ok (.iload 5, 2) by decide +kernel) rfl, ?_⟩
  refine List.forall_mem_cons.mpr ⟨ok_iload C (show decode cX11_does 118 = .ok (.iload 4, 2) by decide +kernel) rfl, ?_⟩
  refine List.forall_mem_cons.mpr ⟨ok_ineg C (show decode cX11_does 120 = .ok (.ineg, 1) by decide +kernel) rfl, ?_⟩
  refine List.forall_mem_cons.mpr ⟨ok_callV C h_X11_hoards ⟨rfl, rfl⟩ rfl kw_1485 kw_1482 kw_1484 kp_79 kw_11 rfl ds_X11_hoards ⟨by decide, by decide⟩ (show decode cX11_does 121 = .ok (.invokevirtual 307, 3) by decide +kernel) rfl, ?_⟩
  refine List.forall_mem_cons.mpr ⟨ok_goto C (show decode cX11_does 124 = .ok (.goto 54, 3) by decide +kernel) (tg := 178) (by decide) rfl, ?_⟩
  refine List.forall_mem_cons.mpr ⟨ok_iload_n C (show decode cX11_does 127 = .ok (.iload_n 1, 1) by decide +kernel) rfl rfl, ?_⟩
  refine List.forall_mem_cons.mpr ⟨ok_iconst C (show decode cX11_does 128 = .ok (.iconst 2, 1) by decide +kernel) (by decide) rfl, ?_⟩
  refine List.forall_mem_cons.mpr ⟨ok_icmpne C (show decode cX11_does 129 = .ok (.if_icmp .ne 21, 3) by decide +kernel) (tg := 150) (by decide) rfl rfl, ?_⟩
  refine List.forall_mem_cons.mpr ⟨ok_aload_n C (show decode cX11_does 132 = .ok (.aload_n 0, 1) by decide +kernel) rfl rfl, ?_⟩
  refine List.forall_mem_cons.mpr ⟨ok_getf C (wi_X11) rfl (by decide) kw_1186 (show decode cX11_does 133 = .ok (.getfield 33, 3) by decide +kernel) rfl, ?_⟩
  refine List.forall_mem_cons.mpr ⟨ok_bipush C (show decode cX11_does 136 = .ok (.bipush 124, 2) by decide +kernel) (by decide) rfl, ?_⟩
  refine List.forall_mem_cons.mpr ⟨ok_iload C (show decode cX11_does 138 = .ok (.iload 5, 2) by decide +kernel) rfl, ?_⟩
  refine List.forall_mem_cons.mpr ⟨ok_iadd C (show decode cX11_does 140 = .ok (.iadd, 1) by decide +kernel) rfl, ?_⟩
  refine List.forall_mem_cons.mpr ⟨ok_dup2 C (show decode cX11_does 141 = .ok (.dup2, 1) by decide +kernel) rfl, ?_⟩
  refine List.forall_mem_cons.mpr ⟨ok_iaload C (show decode cX11_does 142 = .ok (.iaload, 1) by decide +kernel) rfl, ?_⟩
  refine List.forall_mem_cons.mpr ⟨ok_iload C (show decode cX11_does 143 = .ok (.iload 4, 2) by decide +kernel) rfl, ?_⟩
  refine List.forall_mem_cons.mpr ⟨ok_isub C (show decode cX11_does 145 = .ok (.isub, 1) by decide +kernel) rfl, ?_⟩
  refine List.forall_mem_cons.mpr ⟨ok_iastore C (show decode cX11_does 146 = .ok (.iastore, 1) by decide +kernel) rfl, ?_⟩
  refine List.forall_mem_cons.mpr ⟨ok_goto C (show decode cX11_does 147 = .ok (.goto 31, 3) by decide +kernel) (tg := 178) (by decide) rfl, ?_⟩
  refine List.forall_mem_cons.mpr ⟨ok_iload_n C (show decode cX11_does 150 = .ok (.iload_n 1, 1) by decide +kernel) rfl rfl, ?_⟩
  refine List.forall_mem_cons.mpr ⟨ok_iconst C (show decode cX11_does 151 = .ok (.iconst 3, 1) by decide +kernel) (by decide) rfl, ?_⟩
  refine List.forall_mem_cons.mpr ⟨ok_icmpne C (show decode cX11_does 152 = .ok (.if_icmp .ne 20, 3) by decide +kernel) (tg := 172) (by decide) rfl rfl, ?_⟩
  refine List.forall_mem_cons.mpr ⟨ok_aload_n C (show decode cX11_does 155 = .ok (.aload_n 0, 1) by decide +kernel) rfl rfl, ?_⟩
  refine List.forall_mem_cons.mpr ⟨ok_getf C (wi_X11) rfl (by decide) kw_1186 (show decode cX11_does 156 = .ok (.getfield 33, 3) by decide +kernel) rfl, ?_⟩
  refine List.forall_mem_cons.mpr ⟨ok_sipush C (show decode cX11_does 159 = .ok (.sipush 180, 3) by decide +kernel) (by decide) rfl, ?_⟩
  refine List.forall_mem_cons.mpr ⟨ok_dup2 C (show decode cX11_does 162 = .ok (.dup2, 1) by decide +kernel) rfl, ?_⟩
  refine List.forall_mem_cons.mpr ⟨ok_iaload C (show decode cX11_does 163 = .ok (.iaload, 1) by decide +kernel) rfl, ?_⟩
  refine List.forall_mem_cons.mpr ⟨ok_iconst C (show decode cX11_does 164 = .ok (.iconst 1, 1) by decide +kernel) (by decide) rfl, ?_⟩
  refine List.forall_mem_cons.mpr ⟨ok_iload_n C (show decode cX11_does 165 = .ok (.iload_n 2, 1) by decide +kernel) rfl rfl, ?_⟩
  refine List.forall_mem_cons.mpr ⟨ok_ishl C (show decode cX11_does 166 = .ok (.ishl, 1) by decide +kernel) rfl, ?_⟩
  refine List.forall_mem_cons.mpr ⟨ok_ior C (show decode cX11_does 167 = .ok (.ior, 1) by decide +kernel) rfl, ?_⟩
  refine List.forall_mem_cons.mpr ⟨ok_iastore C (show decode cX11_does 168 = .ok (.iastore, 1) by decide +kernel) rfl, ?_⟩
  refine List.forall_mem_cons.mpr ⟨ok_goto C (show decode cX11_does 169 = .ok (.goto 9, 3) by decide +kernel) (tg := 178) (by decide) rfl, ?_⟩
  refine List.forall_mem_cons.mpr ⟨ok_aload_n C (show decode cX11_does 172 = .ok (.aload_n 0, 1) by decide +kernel) rfl rfl, ?_⟩
  refine List.forall_mem_cons.mpr ⟨ok_iload_n C (show decode cX11_does 173 = .ok (.iload_n 2, 1) by decide +kernel) rfl rfl, ?_⟩
  refine List.forall_mem_cons.mpr ⟨ok_callV C h_X11_goesOn ⟨rfl, rfl⟩ rfl kw_1509 kw_1506 kw_1508 kp_81 kw_11 rfl ds_X11_goesOn ⟨by decide, by decide⟩ (show decode cX11_does 174 = .ok (.invokevirtual 314, 3) by decide +kernel) rfl, ?_⟩
  refine List.forall_mem_cons.mpr ⟨ok_pop C (show decode cX11_does 177 = .ok (.pop, 1) by decide +kernel) rfl, ?_⟩
  refine List.forall_mem_cons.mpr ⟨ok_iconst C (show decode cX11_does 178 = .ok (.iconst 0, 1) by decide +kernel) (by decide) rfl, ?_⟩
  refine List.forall_mem_cons.mpr ⟨ok_ret C rfl (show decode cX11_does 179 = .ok (.ireturn, 1) by decide +kernel), ?_⟩
  exact fun _ h => absurd h List.not_mem_nil
