def L_X11_readMisses (f_X11_bad : List Value → ab_H → Option ab_O) (f_X11_next : List Value → ab_H → Option ab_O) (f_X11_takesName : List Value → ab_H → Option ab_O) (f_X11_looksAt : List Value → ab_H → Option ab_O) (f_X11_puts : List Value → ab_H → Option ab_O) : List (Nat × ab_A) := [
  (0, ab_nx 1 (ab_aload 0)),
  (1, ab_nx 4 (ab_getf 11 7)),
  (4, ab_nx 5 (ab_lit (.int 3))),
  (5, ab_nx 6 (ab_ald 1)),
  (6, ab_nx 7 (ab_istore 1)),
  (7, ab_nx 8 (ab_iload 1)),
  (8, ab_nx 10 (ab_lit (.int 20))),
  (10, ab_icmp 13 19 (fun x y => !decide (x = y))),
  (13, ab_nx 14 (ab_aload 0)),
  (14, ab_nx 15 (ab_lit (.int 4))),
  (15, ab_nx 18 (ab_callV 2 11 f_X11_bad 0 0 0 0)),
  (18, ab_zret 0 0),
  (19, ab_nx 20 (ab_aload 0)),
  (20, ab_nx 23 (ab_callV 1 11 f_X11_next 0 0 0 0)),
  (23, ab_nx 24 (ab_aload 0)),
  (24, ab_nx 26 (ab_lit (.int 20))),
  (26, ab_nx 27 (ab_aload 0)),
  (27, ab_nx 30 (ab_getf 11 7)),
  (30, ab_nx 31 (ab_lit (.int 1))),
  (31, ab_nx 32 (ab_ald 1)),
  (32, ab_nx 35 (ab_callV 3 11 f_X11_takesName 0 0 0 0)),
  (35, ab_if 38 40 (fun x => !decide (x = 0))),
  (38, ab_nx 39 (ab_lit (.int 0))),
  (39, ab_zret 0 0),
  (40, ab_nx 41 (ab_aload 0)),
  (41, ab_nx 44 (ab_getf 11 18)),
  (44, ab_nx 45 (ab_istore 2)),
  (45, ab_nx 46 (ab_aload 0)),
  (46, ab_nx 48 (ab_lit (.int 20))),
  (48, ab_nx 49 (ab_aload 0)),
  (49, ab_nx 52 (ab_getf 11 7)),
  (52, ab_nx 53 (ab_lit (.int 1))),
  (53, ab_nx 54 (ab_ald 1)),
  (54, ab_nx 57 (ab_callV 3 11 f_X11_looksAt 0 0 0 0)),
  (57, ab_if 60 62 (fun x => !decide (x = 0))),
  (60, ab_nx 61 (ab_lit (.int 0))),
  (61, ab_zret 0 0),
  (62, ab_nx 63 (ab_aload 0)),
  (63, ab_nx 66 (ab_getf 11 18)),
  (66, ab_nx 67 (ab_iload 2)),
  (67, ab_icmp 70 74 (fun x y => decide (x = y))),
  (70, ab_nx 71 (ab_lit (.int 1))),
  (71, ab_goto 75),
  (74, ab_nx 75 (ab_lit (.int 0))),
  (75, ab_nx 76 (ab_istore 3)),
  (76, ab_nx 77 (ab_lit (.int 0))),
  (77, ab_nx 79 (ab_istore 4)),
  (79, ab_nx 81 (ab_iload 4)),
  (81, ab_nx 82 (ab_iload 1)),
  (82, ab_icmp 85 132 (fun x y => decide (y ≤ x))),
  (85, ab_nx 86 (ab_iload 3)),
  (86, ab_if 89 124 (fun x => decide (x = 0))),
  (89, ab_nx 90 (ab_aload 0)),
  (90, ab_nx 93 (ab_getf 11 7)),
  (93, ab_nx 95 (ab_lit (.int 60))),
  (95, ab_nx 97 (ab_iload 4)),
  (97, ab_nx 98 (ab_bin (fun x y => x + y))),
  (98, ab_nx 99 (ab_ald 1)),
  (99, ab_nx 100 (ab_iload 2)),
  (100, ab_icmp 103 120 (fun x y => !decide (x = y))),
  (103, ab_nx 104 (ab_aload 0)),
  (104, ab_nx 107 (ab_getf 11 7)),
  (107, ab_nx 109 (ab_lit (.int 80))),
  (109, ab_nx 111 (ab_iload 4)),
  (111, ab_nx 112 (ab_bin (fun x y => x + y))),
  (112, ab_nx 113 (ab_ald 1)),
  (113, ab_nx 114 (ab_aload 0)),
  (114, ab_nx 117 (ab_getf 11 18)),
  (117, ab_icmp 120 124 (fun x y => decide (x = y))),
  (120, ab_nx 121 (ab_lit (.int 1))),
  (121, ab_goto 125),
  (124, ab_nx 125 (ab_lit (.int 0))),
  (125, ab_nx 126 (ab_istore 3)),
  (126, ab_nx 129 (ab_iinc 4 1)),
  (129, ab_goto 79),
  (132, ab_nx 133 (ab_iload 3)),
  (133, ab_if 136 142 (fun x => !decide (x = 0))),
  (136, ab_nx 137 (ab_aload 0)),
  (137, ab_nx 138 (ab_lit (.int 3))),
  (138, ab_nx 141 (ab_callV 2 11 f_X11_bad 0 0 0 0)),
  (141, ab_zret 0 0),
  (142, ab_nx 143 (ab_aload 0)),
  (143, ab_nx 146 (ab_getf 11 7)),
  (146, ab_nx 148 (ab_lit (.int 60))),
  (148, ab_nx 149 (ab_iload 1)),
  (149, ab_nx 150 (ab_bin (fun x y => x + y))),
  (150, ab_nx 151 (ab_iload 2)),
  (151, ab_nx 152 (ab_ast 1)),
  (152, ab_nx 153 (ab_aload 0)),
  (153, ab_nx 156 (ab_getf 11 7)),
  (156, ab_nx 158 (ab_lit (.int 80))),
  (158, ab_nx 159 (ab_iload 1)),
  (159, ab_nx 160 (ab_bin (fun x y => x + y))),
  (160, ab_nx 161 (ab_aload 0)),
  (161, ab_nx 164 (ab_getf 11 18)),
  (164, ab_nx 165 (ab_ast 1)),
  (165, ab_nx 166 (ab_aload 0)),
  (166, ab_nx 169 (ab_callV 1 11 f_X11_next 0 0 0 0)),
  (169, ab_nx 170 (ab_aload 0)),
  (170, ab_nx 172 (ab_lit (.int 100))),
  (172, ab_nx 173 (ab_iload 1)),
  (173, ab_nx 174 (ab_bin (fun x y => x + y))),
  (174, ab_nx 175 (ab_lit (.int 0))),
  (175, ab_nx 177 (ab_lit (.int 60))),
  (177, ab_nx 180 (ab_callV 4 11 f_X11_puts 0 0 0 0)),
  (180, ab_if 183 185 (fun x => !decide (x = 0))),
  (183, ab_nx 184 (ab_lit (.int 0))),
  (184, ab_zret 0 0),
  (185, ab_nx 186 (ab_aload 0)),
  (186, ab_nx 189 (ab_getf 11 7)),
  (189, ab_nx 190 (ab_lit (.int 3))),
  (190, ab_nx 191 ab_dup2),
  (191, ab_nx 192 (ab_ald 1)),
  (192, ab_nx 193 (ab_lit (.int 1))),
  (193, ab_nx 194 (ab_bin (fun x y => x + y))),
  (194, ab_nx 195 (ab_ast 1)),
  (195, ab_nx 196 (ab_lit (.int 1))),
  (196, ab_zret 0 0)]
set_option maxRecDepth 100000 in
set_option maxHeartbeats 4000000 in
theorem M_X11_readMisses {l : Launch} {b : ab_B} {D : va_G} {cA : Nat → ClassId} {f_X11_bad : List Value → ab_H → Option ab_O} (h_X11_bad : ab_M l b D ab_cl cA (ab_E0 b) yX11_bad (Cond.code yX11_bad cX11_bad 2 (some .boolean) :: ab_G) ({ frames := 1, cells := 0, slots := 0, locals := 100 } : Room) f_X11_bad) {f_X11_next : List Value → ab_H → Option ab_O} (h_X11_next : ab_M l b D ab_cl cA (ab_E0 b) yX11_next (Cond.code yX11_next cX11_next 4 none :: ab_G) ({ frames := 2, cells := 0, slots := 0, locals := 200 } : Room) f_X11_next) {f_X11_takesName : List Value → ab_H → Option ab_O} (h_X11_takesName : ab_M l b D ab_cl cA (ab_E0 b) yX11_takesName (Cond.code yX11_takesName cX11_takesName 3 (some .boolean) :: ab_G) ({ frames := 3, cells := 0, slots := 0, locals := 300 } : Room) f_X11_takesName) {f_X11_looksAt : List Value → ab_H → Option ab_O} (h_X11_looksAt : ab_M l b D ab_cl cA (ab_E0 b) yX11_looksAt (Cond.code yX11_looksAt cX11_looksAt 3 (some .boolean) :: ab_G) ({ frames := 2, cells := 0, slots := 0, locals := 200 } : Room) f_X11_looksAt) {f_X11_puts : List Value → ab_H → Option ab_O} (h_X11_puts : ab_M l b D ab_cl cA (ab_E0 b) yX11_puts (Cond.code yX11_puts cX11_puts 4 (some .boolean) :: ab_G) ({ frames := 4, cells := 0, slots := 0, locals := 400 } : Room) f_X11_puts) : ab_M l b D ab_cl cA (ab_E0 b) yX11_readMisses (Cond.code yX11_readMisses cX11_readMisses 5 (some .boolean) :: ab_G) ({ frames := 5, cells := 0, slots := 0, locals := 500 } : Room) (ab_X (ab_T (L_X11_readMisses f_X11_bad f_X11_next f_X11_takesName f_X11_looksAt f_X11_puts)) 5) := by
  refine ab_meth (ret := (some .boolean)) (L_X11_readMisses f_X11_bad f_X11_next f_X11_takesName f_X11_looksAt f_X11_puts) (by decide) rfl fun p e R s m args below meth c o C => ?_
  unfold L_X11_readMisses
  refine List.forall_mem_cons.mpr ⟨ok_aload_n C (show decode cX11_readMisses 0 = .ok (.aload_n 0, 1) by decide +kernel) rfl rfl, ?_⟩
  refine List.forall_mem_cons.mpr ⟨ok_getf C (wi_X11) rfl (by decide) kw_1187 (show decode cX11_readMisses 1 = .ok (.getfield 37, 3) by decide +kernel) rfl, ?_⟩
  refine List.forall_mem_cons.mpr ⟨ok_iconst C (show decode cX11_readMisses 4 = .ok (.iconst 3, 1) by decide +kernel) (by decide) rfl, ?_⟩
  refine List.forall_mem_cons.mpr ⟨ok_iaload C (show decode cX11_readMisses 5 = .ok (.iaload, 1) by decide +kernel) rfl, ?_⟩
  refine List.forall_mem_cons.mpr ⟨ok_istore_n C (show decode cX11_readMisses 6 = .ok (.istore_n 1, 1) by decide +kernel) rfl (by decide) rfl, ?_⟩
  refine List.forall_mem_cons.mpr ⟨ok_iload_n C (show decode cX11_readMisses 7 = .ok (.iload_n 1, 1) by decide +kernel) rfl rfl, ?_⟩
  refine List.forall_mem_cons.mpr ⟨ok_bipush C (show decode cX11_readMisses 8 = .ok (.bipush 20, 2) by decide +kernel) (by decide) rfl, ?_⟩
  refine List.forall_mem_cons.mpr ⟨ok_icmpne C (show decode cX11_readMisses 10 = .ok (.if_icmp .ne 9, 3) by decide +kernel) (tg := 19) (by decide) rfl rfl, ?_⟩
  refine List.forall_mem_cons.mpr ⟨ok_aload_n C (show decode cX11_readMisses 13 = .ok (.aload_n 0, 1) by decide +kernel) rfl rfl, ?_⟩
  refine List.forall_mem_cons.mpr ⟨ok_iconst C (show decode cX11_readMisses 14 = .ok (.iconst 4, 1) by decide +kernel) (by decide) rfl, ?_⟩
  refine List.forall_mem_cons.mpr ⟨ok_callV C h_X11_bad ⟨rfl, rfl⟩ rfl kw_1344 kw_1341 kw_1343 kp_53 kw_11 rfl ds_X11_bad ⟨by decide, by decide⟩ (show decode cX11_readMisses 15 = .ok (.invokevirtual 173, 3) by decide +kernel) rfl, ?_⟩
  refine List.forall_mem_cons.mpr ⟨ok_zret C rfl (show decode cX11_readMisses 18 = .ok (.ireturn, 1) by decide +kernel), ?_⟩
  refine List.forall_mem_cons.mpr ⟨ok_aload_n C (show decode cX11_readMisses 19 = .ok (.aload_n 0, 1) by decide +kernel) rfl rfl, ?_⟩
  refine List.forall_mem_cons.mpr ⟨ok_callV C h_X11_next ⟨rfl, rfl⟩ rfl kw_1322 kw_1319 kw_1321 kp_49 kw_11 rfl ds_X11_next ⟨by decide, by decide⟩ (show decode cX11_readMisses 20 = .ok (.invokevirtual 176, 3) by decide +kernel) rfl, ?_⟩
  refine List.forall_mem_cons.mpr ⟨ok_aload_n C (show decode cX11_readMisses 23 = .ok (.aload_n 0, 1) by decide +kernel) rfl rfl, ?_⟩
  refine List.forall_mem_cons.mpr ⟨ok_bipush C (show decode cX11_readMisses 24 = .ok (.bipush 20, 2) by decide +kernel) (by decide) rfl, ?_⟩
  refine List.forall_mem_cons.mpr ⟨ok_aload_n C (show decode cX11_readMisses 26 = .ok (.aload_n 0, 1) by decide +kernel) rfl rfl, ?_⟩
  refine List.forall_mem_cons.mpr ⟨ok_getf C (wi_X11) rfl (by decide) kw_1187 (show decode cX11_readMisses 27 = .ok (.getfield 37, 3) by decide +kernel) rfl, ?_⟩
  refine List.forall_mem_cons.mpr ⟨ok_iconst C (show decode cX11_readMisses 30 = .ok (.iconst 1, 1) by decide +kernel) (by decide) rfl, ?_⟩
  refine List.forall_mem_cons.mpr ⟨ok_iaload C (show decode cX11_readMisses 31 = .ok (.iaload, 1) by decide +kernel) rfl, ?_⟩
  refine List.forall_mem_cons.mpr ⟨ok_callV C h_X11_takesName ⟨rfl, rfl⟩ rfl kw_1375 kw_1372 kw_1374 kp_60 kw_11 rfl ds_X11_takesName ⟨by decide, by decide⟩ (show decode cX11_readMisses 32 = .ok (.invokevirtual 218, 3) by decide +kernel) rfl, ?_⟩
  refine List.forall_mem_cons.mpr ⟨ok_ifne C (show decode cX11_readMisses 35 = .ok (.ifCond .ne 5, 3) by decide +kernel) (tg := 40) (by decide) rfl rfl, ?_⟩
  refine List.forall_mem_cons.mpr ⟨ok_iconst C (show decode cX11_readMisses 38 = .ok (.iconst 0, 1) by decide +kernel) (by decide) rfl, ?_⟩
  refine List.forall_mem_cons.mpr ⟨ok_zret C rfl (show decode cX11_readMisses 39 = .ok (.ireturn, 1) by decide +kernel), ?_⟩
  refine List.forall_mem_cons.mpr ⟨ok_aload_n C (show decode cX11_readMisses 40 = .ok (.aload_n 0, 1) by decide +kernel) rfl rfl, ?_⟩
  refine List.forall_mem_cons.mpr ⟨ok_getf C (wi_X11) rfl (by decide) kw_1198 (show decode cX11_readMisses 41 = .ok (.getfield 183, 3) by decide +kernel) rfl, ?_⟩
  refine List.forall_mem_cons.mpr ⟨ok_istore_n C (show decode cX11_readMisses 44 = .ok (.istore_n 2, 1) by decide +kernel) rfl (by decide) rfl, ?_⟩
  refine List.forall_mem_cons.mpr ⟨ok_aload_n C (show decode cX11_readMisses 45 = .ok (.aload_n 0, 1) by decide +kernel) rfl rfl, ?_⟩
  refine List.forall_mem_cons.mpr ⟨ok_bipush C (show decode cX11_readMisses 46 = .ok (.bipush 20, 2) by decide +kernel) (by decide) rfl, ?_⟩
  refine List.forall_mem_cons.mpr ⟨ok_aload_n C (show decode cX11_readMisses 48 = .ok (.aload_n 0, 1) by decide +kernel) rfl rfl, ?_⟩
  refine List.forall_mem_cons.mpr ⟨ok_getf C (wi_X11) rfl (by decide) kw_1187 (show decode cX11_readMisses 49 = .ok (.getfield 37, 3) by decide +kernel) rfl, ?_⟩
  refine List.forall_mem_cons.mpr ⟨ok_iconst C (show decode cX11_readMisses 52 = .ok (.iconst 1, 1) by decide +kernel) (by decide) rfl, ?_⟩
  refine List.forall_mem_cons.mpr ⟨ok_iaload C (show decode cX11_readMisses 53 = .ok (.iaload, 1) by decide +kernel) rfl, ?_⟩
  refine List.forall_mem_cons.mpr ⟨ok_callV C h_X11_looksAt ⟨rfl, rfl⟩ rfl kw_1379 kw_1376 kw_1378 kp_61 kw_11 rfl ds_X11_looksAt ⟨by decide, by decide⟩ (show decode cX11_readMisses 54 = .ok (.invokevirtual 198, 3) by decide +kernel) rfl, ?_⟩
  refine List.forall_mem_cons.mpr ⟨ok_ifne C (show decode cX11_readMisses 57 = .ok (.ifCond .ne 5, 3) by decide +kernel) (tg := 62) (by decide) rfl rfl, ?_⟩
  refine List.forall_mem_cons.mpr ⟨ok_iconst C (show decode cX11_readMisses 60 = .ok (.iconst 0, 1) by decide +kernel) (by decide) rfl, ?_⟩
  refine List.forall_mem_cons.mpr ⟨ok_zret C rfl (show decode cX11_readMisses 61 = .ok (.ireturn, 1) by decide +kernel), ?_⟩
  refine List.forall_mem_cons.mpr ⟨ok_aload_n C (show decode cX11_readMisses 62 = .ok (.aload_n 0, 1) by decide +kernel) rfl rfl, ?_⟩
  refine List.forall_mem_cons.mpr ⟨ok_getf C (wi_X11) rfl (by decide) kw_1198 (show decode cX11_readMisses 63 = .ok (.getfield 183, 3) by decide +kernel) rfl, ?_⟩
  refine List.forall_mem_cons.mpr ⟨ok_iload_n C (show decode cX11_readMisses 66 = .ok (.iload_n 2, 1) by decide +kernel) rfl rfl, ?_⟩
  refine List.forall_mem_cons.mpr ⟨ok_icmpeq C (show decode cX11_readMisses 67 = .ok (.if_icmp .eq 7, 3) by decide +kernel) (tg := 74) (by decide) rfl rfl, ?_⟩
  refine List.forall_mem_cons.mpr ⟨ok_iconst C (show decode cX11_readMisses 70 = .ok (.iconst 1, 1) by decide +kernel) (by decide) rfl, ?_⟩
  refine List.forall_mem_cons.mpr ⟨ok_goto C (show decode cX11_readMisses 71 = .ok (.goto 4, 3) by decide +kernel) (tg := 75) (by decide) rfl, ?_⟩
  refine List.forall_mem_cons.mpr ⟨ok_iconst C (show decode cX11_readMisses 74 = .ok (.iconst 0, 1) by decide +kernel) (by decide) rfl, ?_⟩
  refine List.forall_mem_cons.mpr ⟨ok_istore_n C (show decode cX11_readMisses 75 = .ok (.istore_n 3, 1) by decide +kernel) rfl (by decide) rfl, ?_⟩
  refine List.forall_mem_cons.mpr ⟨ok_iconst C (show decode cX11_readMisses 76 = .ok (.iconst 0, 1) by decide +kernel) (by decide) rfl, ?_⟩
  refine List.forall_mem_cons.mpr ⟨ok_istore C (show decode cX11_readMisses 77 = .ok (.istore 4, 2) by decide +kernel) (by decide) rfl, ?_⟩
  refine List.forall_mem_cons.mpr ⟨ok_iload C (show decode cX11_readMisses 79 = .ok (.iload 4, 2) by decide +kernel) rfl, ?_⟩
  refine List.forall_mem_cons.mpr ⟨ok_iload_n C (show decode cX11_readMisses 81 = .ok (.iload_n 1, 1) by decide +kernel) rfl rfl, ?_⟩
  refine List.forall_mem_cons.mpr ⟨ok_icmpge C (show decode cX11_readMisses 82 = .ok (.if_icmp .ge 50, 3) by decide +kernel) (tg := 132) (by decide) rfl rfl, ?_⟩
  refine List.forall_mem_cons.mpr ⟨ok_iload_n C (show decode cX11_readMisses 85 = .ok (.iload_n 3, 1) by decide +kernel) rfl rfl, ?_⟩
  refine List.forall_mem_cons.mpr ⟨ok_ifeq C (show decode cX11_readMisses 86 = .ok (.ifCond .eq 38, 3) by decide +kernel) (tg := 124) (by decide) rfl rfl, ?_⟩
  refine List.forall_mem_cons.mpr ⟨ok_aload_n C (show decode cX11_readMisses 89 = .ok (.aload_n 0, 1) by decide +kernel) rfl rfl, ?_⟩
  refine List.forall_mem_cons.mpr ⟨ok_getf C (wi_X11) rfl (by decide) kw_1187 (show decode cX11_readMisses 90 = .ok (.getfield 37, 3) by decide +kernel) rfl, ?_⟩
  refine List.forall_mem_cons.mpr ⟨ok_bipush C (show decode cX11_readMisses 93 = .ok (.bipush 60, 2) by decide +kernel) (by decide) rfl, ?_⟩
  refine List.forall_mem_cons.mpr ⟨ok_iload C (show decode cX11_readMisses 95 = .ok (.iload 4, 2) by decide +kernel) rfl, ?_⟩
  refine List.forall_mem_cons.mpr ⟨ok_iadd C (show decode cX11_readMisses 97 = .ok (.iadd, 1) by decide +kernel) rfl, ?_⟩
  refine List.forall_mem_cons.mpr ⟨ok_iaload C (show decode cX11_readMisses 98 = .ok (.iaload, 1) by decide +kernel) rfl, ?_⟩
  refine List.forall_mem_cons.mpr ⟨ok_iload_n C (show decode cX11_readMisses 99 = .ok (.iload_n 2, 1) by decide +kernel) rfl rfl, ?_⟩
  refine List.forall_mem_cons.mpr ⟨ok_icmpne C (show decode cX11_readMisses 100 = .ok (.if_icmp .ne 20, 3) by decide +kernel) (tg := 120) (by decide) rfl rfl, ?_⟩
  refine List.forall_mem_cons.mpr ⟨ok_aload_n C (show decode cX11_readMisses 103 = .ok (.aload_n 0, 1) by decide +kernel) rfl rfl, ?_⟩
  refine List.forall_mem_cons.mpr ⟨ok_getf C (wi_X11) rfl (by decide) kw_1187 (show decode cX11_readMisses 104 = .ok (.getfield 37, 3) by decide +kernel) rfl, ?_⟩
  refine List.forall_mem_cons.mpr ⟨ok_bipush C (show decode cX11_readMisses 107 = .ok (.bipush 80, 2) by decide +kernel) (by decide) rfl, ?_⟩
  refine List.forall_mem_cons.mpr ⟨ok_iload C (show decode cX11_readMisses 109 = .ok (.iload 4, 2) by decide +kernel) rfl, ?_⟩
  refine List.forall_mem_cons.mpr ⟨ok_iadd C (show decode cX11_readMisses 111 = .ok (.iadd, 1) by decide +kernel) rfl, ?_⟩
  refine List.forall_mem_cons.mpr ⟨ok_iaload C (show decode cX11_readMisses 112 = .ok (.iaload, 1) by decide +kernel) rfl, ?_⟩
  refine List.forall_mem_cons.mpr ⟨ok_aload_n C (show decode cX11_readMisses 113 = .ok (.aload_n 0, 1) by decide +kernel) rfl rfl, ?_⟩
  refine List.forall_mem_cons.mpr ⟨ok_getf C (wi_X11) rfl (by decide) kw_1198 (show decode cX11_readMisses 114 = .ok (.getfield 183, 3) by decide +kernel) rfl, ?_⟩
  refine List.forall_mem_cons.mpr ⟨ok_icmpeq C (show decode cX11_readMisses 117 = .ok (.if_icmp .eq 7, 3) by decide +kernel) (tg := 124) (by decide) rfl rfl, ?_⟩
  refine List.forall_mem_cons.mpr ⟨ok_iconst C (show decode cX11_readMisses 120 = .ok (.iconst 1, 1) by decide +kernel) (by decide) rfl, ?_⟩
  refine List.forall_mem_cons.mpr ⟨ok_goto C (show decode cX11_readMisses 121 = .ok (.goto 4, 3) by decide +kernel) (tg := 125) (by decide) rfl, ?_⟩
  refine List.forall_mem_cons.mpr ⟨ok_iconst C (show decode cX11_readMisses 124 = .ok (.iconst 0, 1) by decide +kernel) (by decide) rfl, ?_⟩
  refine List.forall_mem_cons.mpr ⟨ok_istore_n C (show decode cX11_readMisses 125 = .ok (.istore_n 3, 1) by decide +kernel) rfl (by decide) rfl, ?_⟩
  refine List.forall_mem_cons.mpr ⟨ok_iinc C (show decode cX11_readMisses 126 = .ok (.iinc 4 1, 3) by decide +kernel) (by decide) (by decide) rfl, ?_⟩
  refine List.forall_mem_cons.mpr ⟨ok_goto C (show decode cX11_readMisses 129 = .ok (.goto (-50), 3) by decide +kernel) (tg := 79) (by decide) rfl, ?_⟩
  refine List.forall_mem_cons.mpr ⟨ok_iload_n C (show decode cX11_readMisses 132 = .ok (.iload_n 3, 1) by decide +kernel) rfl rfl, ?_⟩
  refine List.forall_mem_cons.mpr ⟨ok_ifne C (show decode cX11_readMisses 133 = .ok (.ifCond .ne 9, 3) by decide +kernel) (tg := 142) (by decide) rfl rfl, ?_⟩
  refine List.forall_mem_cons.mpr ⟨ok_aload_n C (show decode cX11_readMisses 136 = .ok (.aload_n 0, 1) by decide +kernel) rfl rfl, ?_⟩
  refine List.forall_mem_cons.mpr ⟨ok_iconst C (show decode cX11_readMisses 137 = .ok (.iconst 3, 1) by decide +kernel) (by decide) rfl, ?_⟩
  refine List.forall_mem_cons.mpr ⟨ok_callV C h_X11_bad ⟨rfl, rfl⟩ rfl kw_1344 kw_1341 kw_1343 kp_53 kw_11 rfl ds_X11_bad ⟨by decide, by decide⟩ (show decode cX11_readMisses 138 = .ok (.invokevirtual 173, 3) by decide +kernel) rfl, ?_⟩
  refine List.forall_mem_cons.mpr ⟨ok_zret C rfl (show decode cX11_readMisses 141 = .ok (.ireturn, 1) by decide +kernel), ?_⟩
  refine List.forall_mem_cons.mpr ⟨ok_aload_n C (show decode cX11_readMisses 142 = .ok (.aload_n 0, 1) by decide +kernel) rfl rfl, ?_⟩
  refine List.forall_mem_cons.mpr ⟨ok_getf C (wi_X11) rfl (by decide) kw_1187 (show decode cX11_readMisses 143 = .ok (.getfield 37, 3) by decide +kernel) rfl, ?_⟩
  refine List.forall_mem_cons.mpr ⟨ok_bipush C (show decode cX11_readMisses 146 = .ok (.bipush 60, 2) by decide +kernel) (by decide) rfl, ?_⟩
  refine List.forall_mem_cons.mpr ⟨ok_iload_n C (show decode cX11_readMisses 148 = .ok (.iload_n 1, 1) by decide +kernel) rfl rfl, ?_⟩
  refine List.forall_mem_cons.mpr ⟨ok_iadd C (show decode cX11_readMisses 149 = .ok (.iadd, 1) by decide +kernel) rfl, ?_⟩
  refine List.forall_mem_cons.mpr ⟨ok_iload_n C (show decode cX11_readMisses 150 = .ok (.iload_n 2, 1) by decide +kernel) rfl rfl, ?_⟩
  refine List.forall_mem_cons.mpr ⟨ok_iastore C (show decode cX11_readMisses 151 = .ok (.iastore, 1) by decide +kernel) rfl, ?_⟩
  refine List.forall_mem_cons.mpr ⟨ok_aload_n C (show decode cX11_readMisses 152 = .ok (.aload_n 0, 1) by decide +kernel) rfl rfl, ?_⟩
  refine List.forall_mem_cons.mpr ⟨ok_getf C (wi_X11) rfl (by decide) kw_1187 (show decode cX11_readMisses 153 = .ok (.getfield 37, 3) by decide +kernel) rfl, ?_⟩
  refine List.forall_mem_cons.mpr ⟨ok_bipush C (show decode cX11_readMisses 156 = .ok (.bipush 80, 2) by decide +kernel) (by decide) rfl, ?_⟩
  refine List.forall_mem_cons.mpr ⟨ok_iload_n C (show decode cX11_readMisses 158 = .ok (.iload_n 1, 1) by decide +kernel) rfl rfl, ?_⟩
  refine List.forall_mem_cons.mpr ⟨ok_iadd C (show decode cX11_readMisses 159 = .ok (.iadd, 1) by decide +kernel) rfl, ?_⟩
  refine List.forall_mem_cons.mpr ⟨ok_aload_n C (show decode cX11_readMisses 160 = .ok (.aload_n 0, 1) by decide +kernel) rfl rfl, ?_⟩
  refine List.forall_mem_cons.mpr ⟨ok_getf C (wi_X11) rfl (by decide) kw_1198 (show decode cX11_readMisses 161 = .ok (.getfield 183, 3) by decide +kernel) rfl, ?_⟩
  refine List.forall_mem_cons.mpr ⟨ok_iastore C (show decode cX11_readMisses 164 = .ok (.iastore, 1) by decide +kernel) rfl, ?_⟩
  refine List.forall_mem_cons.mpr ⟨ok_aload_n C (show decode cX11_readMisses 165 = .ok (.aload_n 0, 1) by decide +kernel) rfl rfl, ?_⟩
  refine List.forall_mem_cons.mpr ⟨ok_callV C h_X11_next ⟨rfl, rfl⟩ rfl kw_1322 kw_1319 kw_1321 kp_49 kw_11 rfl ds_X11_next ⟨by decide, by decide⟩ (show decode cX11_readMisses 166 = .ok (.invokevirtual 176, 3) by decide +kernel) rfl, ?_⟩
  refine List.forall_mem_cons.mpr ⟨ok_aload_n C (show decode cX11_readMisses 169 = .ok (.aload_n 0, 1) by decide +kernel) rfl rfl, ?_⟩
  refine List.forall_mem_cons.mpr ⟨ok_bipush C (show decode cX11_readMisses 170 = .ok (.bipush 100, 2) by decide +kernel) (by decide) rfl, ?_⟩
  refine List.forall_mem_cons.mpr ⟨ok_iload_n C (show decode cX11_readMisses 172 = .ok (.iload_n 1, 1) by decide +kernel) rfl rfl, ?_⟩
  refine List.forall_mem_cons.mpr ⟨ok_iadd C (show decode cX11_readMisses 173 = .ok (.iadd, 1) by decide +kernel) rfl, ?_⟩
  refine List.forall_mem_cons.mpr ⟨ok_iconst C (show decode cX11_readMisses 174 = .ok (.iconst 0, 1) by decide +kernel) (by decide) rfl, ?_⟩
  refine List.forall_mem_cons.mpr ⟨ok_bipush C (show decode cX11_readMisses 175 = .ok (.bipush 60, 2) by decide +kernel) (by decide) rfl, ?_⟩
  refine List.forall_mem_cons.mpr ⟨ok_callV C h_X11_puts ⟨rfl, rfl⟩ rfl kw_1348 kw_1345 kw_1347 kp_54 kw_11 rfl ds_X11_puts ⟨by decide, by decide⟩ (show decode cX11_readMisses 177 = .ok (.invokevirtual 209, 3) by decide +kernel) rfl, ?_⟩
  refine List.forall_mem_cons.mpr ⟨ok_ifne C (show decode cX11_readMisses 180 = .ok (.ifCond .ne 5, 3) by decide +kernel) (tg := 185) (by decide) rfl rfl, ?_⟩
  refine List.forall_mem_cons.mpr ⟨ok_iconst C (show decode cX11_readMisses 183 = .ok (.iconst 0, 1) by decide +kernel) (by decide) rfl, ?_⟩
  refine List.forall_mem_cons.mpr ⟨ok_zret C rfl (show decode cX11_readMisses 184 = .ok (.ireturn, 1) by decide +kernel), ?_⟩
  refine List.forall_mem_cons.mpr ⟨ok_aload_n C (show decode cX11_readMisses 185 = .ok (.aload_n 0, 1) by decide +kernel) rfl rfl, ?_⟩
  refine List.forall_mem_cons.mpr ⟨ok_getf C (wi_X11) rfl (by decide) kw_1187 (show decode cX11_readMisses 186 = .ok (.getfield 37, 3) by decide +kernel) rfl, ?_⟩
  refine List.forall_mem_cons.mpr ⟨ok_iconst C (show decode cX11_readMisses 189 = .ok (.iconst 3, 1) by decide +kernel) (by decide) rfl, ?_⟩
  refine List.forall_mem_cons.mpr ⟨ok_dup2 C (show decode cX11_readMisses 190 = .ok (.dup2, 1) by decide +kernel) rfl, ?_⟩
  refine List.forall_mem_cons.mpr ⟨ok_iaload C (show decode cX11_readMisses 191 = .ok (.iaload, 1) by decide +kernel) rfl, ?_⟩
  refine List.forall_mem_cons.mpr ⟨ok_iconst C (show decode cX11_readMisses 192 = .ok (.iconst 1, 1) by decide +kernel) (by decide) rfl, ?_⟩
  refine List.forall_mem_cons.mpr ⟨ok_iadd C (show decode cX11_readMisses 193 = .ok (.iadd, 1) by decide +kernel) rfl, ?_⟩
  refine List.forall_mem_cons.mpr ⟨ok_iastore C (show decode cX11_readMisses 194 = .ok (.iastore, 1) by decide +kernel) rfl, ?_⟩
  refine List.forall_mem_cons.mpr ⟨ok_iconst C (show decode cX11_readMisses 195 = .ok (.iconst 1, 1) by decide +kernel) (by decide) rfl, ?_⟩
  refine List.forall_mem_cons.mpr ⟨ok_zret C rfl (show decode cX11_readMisses 196 = .ok (.ireturn, 1) by decide +kernel), ?_⟩
  exact fun _ h => absurd h List.not_mem_nil
def L_X11_line (f_X11_isWord : List Value → ab_H → Option ab_O) (f_X11_bad : List Value → ab_H → Option ab_O) (f_X11_next : List Value → ab_H → Option ab_O) (f_X11_puts : List Value → ab_H → Option ab_O) (f_X11_fresh : List Value → ab_H → Option ab_O) (f_X11_readMisses : List Value → ab_H → Option ab_O) (f_X11_takesName : List Value → ab_H → Option ab_O) (f_X11_bitOf : List Value → ab_H → Option ab_O) : List (Nat × ab_A) := [
  (0, ab_nx 1 (ab_aload 0)),
  (1, ab_nx 4 (ab_lit (.long 1819238756))),
  (4, ab_nx 7 (ab_callV 2 11 f_X11_isWord 0 0 0 0)),
  (7, ab_if 10 41 (fun x => decide (x = 0))),
  (10, ab_nx 11 (ab_aload 0)),
  (11, ab_nx 14 (ab_getf 11 20)),
  (14, ab_if 17 23 (fun x => decide (x = 0))),
  (17, ab_nx 18 (ab_aload 0)),
  (18, ab_nx 19 (ab_lit (.int 3))),
  (19, ab_nx 22 (ab_callV 2 11 f_X11_bad 0 0 0 0)),
  (22, ab_zret 0 0),
  (23, ab_nx 24 (ab_aload 0)),
  (24, ab_nx 25 (ab_lit (.int 1))),
  (25, ab_nx 28 (ab_putf 11 20 3)),
  (28, ab_nx 29 (ab_aload 0)),
  (29, ab_nx 32 (ab_callV 1 11 f_X11_next 0 0 0 0)),
  (32, ab_nx 33 (ab_aload 0)),
  (33, ab_nx 34 (ab_lit (.int 2))),
  (34, ab_nx 35 (ab_lit (.int 1))),
  (35, ab_nx 37 (ab_lit (.int 40))),
  (37, ab_nx 40 (ab_callV 4 11 f_X11_puts 0 0 0 0)),
  (40, ab_zret 0 0),
  (41, ab_nx 42 (ab_aload 0)),
  (42, ab_nx 45 (ab_lit (.long 1735356260))),
  (45, ab_nx 48 (ab_callV 2 11 f_X11_isWord 0 0 0 0)),
  (48, ab_if 51 102 (fun x => decide (x = 0))),
  (51, ab_nx 52 (ab_aload 0)),
  (52, ab_nx 55 (ab_getf 11 7)),
  (55, ab_nx 56 (ab_lit (.int 0))),
  (56, ab_nx 57 (ab_ald 1)),
  (57, ab_nx 59 (ab_lit (.int 6))),
  (59, ab_icmp 62 68 (fun x y => !decide (x = y))),
  (62, ab_nx 63 (ab_aload 0)),
  (63, ab_nx 64 (ab_lit (.int 4))),
  (64, ab_nx 67 (ab_callV 2 11 f_X11_bad 0 0 0 0)),
  (67, ab_zret 0 0),
  (68, ab_nx 69 (ab_aload 0)),
  (69, ab_nx 72 (ab_callV 1 11 f_X11_next 0 0 0 0)),
  (72, ab_nx 73 (ab_aload 0)),
  (73, ab_nx 75 (ab_lit (.int 14))),
  (75, ab_nx 76 (ab_aload 0)),
  (76, ab_nx 79 (ab_getf 11 7)),
  (79, ab_nx 80 (ab_lit (.int 0))),
  (80, ab_nx 81 (ab_ald 1)),
  (81, ab_nx 82 (ab_bin (fun x y => x + y))),
  (82, ab_nx 85 (ab_callV 2 11 f_X11_fresh 0 0 0 0)),
  (85, ab_if 88 90 (fun x => !decide (x = 0))),
  (88, ab_nx 89 (ab_lit (.int 0))),
  (89, ab_zret 0 0),
  (90, ab_nx 91 (ab_aload 0)),
  (91, ab_nx 94 (ab_getf 11 7)),
  (94, ab_nx 95 (ab_lit (.int 0))),
  (95, ab_nx 96 ab_dup2),
  (96, ab_nx 97 (ab_ald 1)),
  (97, ab_nx 98 (ab_lit (.int 1))),
  (98, ab_nx 99 (ab_bin (fun x y => x + y))),
  (99, ab_nx 100 (ab_ast 1)),
  (100, ab_nx 101 (ab_lit (.int 1))),
  (101, ab_zret 0 0),
  (102, ab_nx 103 (ab_aload 0)),
  (103, ab_nx 106 (ab_lit (.long 7168366))),
  (106, ab_nx 109 (ab_callV 2 11 f_X11_isWord 0 0 0 0)),
  (109, ab_if 112 173 (fun x => decide (x = 0))),
  (112, ab_nx 113 (ab_aload 0)),
  (113, ab_nx 116 (ab_getf 11 7)),
  (116, ab_nx 117 (ab_lit (.int 1))),
  (117, ab_nx 118 (ab_ald 1)),
  (118, ab_nx 119 (ab_istore 1)),
  (119, ab_nx 120 (ab_iload 1)),
  (120, ab_nx 122 (ab_lit (.int 8))),
  (122, ab_icmp 125 131 (fun x y => !decide (x = y))),
  (125, ab_nx 126 (ab_aload 0)),
  (126, ab_nx 127 (ab_lit (.int 4))),
  (127, ab_nx 130 (ab_callV 2 11 f_X11_bad 0 0 0 0)),
  (130, ab_zret 0 0),
  (131, ab_nx 132 (ab_aload 0)),
  (132, ab_nx 135 (ab_callV 1 11 f_X11_next 0 0 0 0)),
  (135, ab_nx 136 (ab_aload 0)),
  (136, ab_nx 138 (ab_lit (.int 20))),
  (138, ab_nx 139 (ab_iload 1)),
  (139, ab_nx 140 (ab_bin (fun x y => x + y))),
  (140, ab_nx 143 (ab_callV 2 11 f_X11_fresh 0 0 0 0)),
  (143, ab_if 146 159 (fun x => decide (x = 0))),
  (146, ab_nx 147 (ab_aload 0)),
  (147, ab_nx 149 (ab_lit (.int 52))),
  (149, ab_nx 150 (ab_iload 1)),
  (150, ab_nx 151 (ab_bin (fun x y => x + y))),
  (151, ab_nx 152 (ab_lit (.int 0))),
  (152, ab_nx 153 (ab_lit (.int 1))),
  (153, ab_nx 156 (ab_callV 4 11 f_X11_puts 0 0 0 0)),
  (156, ab_if 159 161 (fun x => !decide (x = 0))),
  (159, ab_nx 160 (ab_lit (.int 0))),
  (160, ab_zret 0 0),
  (161, ab_nx 162 (ab_aload 0)),
  (162, ab_nx 165 (ab_getf 11 7)),
  (165, ab_nx 166 (ab_lit (.int 1))),
  (166, ab_nx 167 ab_dup2),
  (167, ab_nx 168 (ab_ald 1)),
  (168, ab_nx 169 (ab_lit (.int 1))),
  (169, ab_nx 170 (ab_bin (fun x y => x + y))),
  (170, ab_nx 171 (ab_ast 1)),
  (171, ab_nx 172 (ab_lit (.int 1))),
  (172, ab_zret 0 0),
  (173, ab_nx 174 (ab_aload 0)),
  (174, ab_nx 177 (ab_lit (.long 120299675936115))),
  (177, ab_nx 180 (ab_callV 2 11 f_X11_isWord 0 0 0 0)),
  (180, ab_if 183 188 (fun x => decide (x = 0))),
  (183, ab_nx 184 (ab_aload 0)),
  (184, ab_nx 187 (ab_callV 1 11 f_X11_readMisses 0 0 0 0)),
  (187, ab_zret 0 0),
  (188, ab_nx 189 (ab_aload 0)),
  (189, ab_nx 192 (ab_lit (.long 495874696043))),
  (192, ab_nx 195 (ab_callV 2 11 f_X11_isWord 0 0 0 0)),
  (195, ab_if 198 202 (fun x => decide (x = 0))),
  (198, ab_nx 199 (ab_lit (.int 0))),
  (199, ab_goto 245),
  (202, ab_nx 203 (ab_aload 0)),
  (203, ab_nx 206 (ab_lit (.long 512735736947))),
  (206, ab_nx 209 (ab_callV 2 11 f_X11_isWord 0 0 0 0)),
  (209, ab_if 212 216 (fun x => decide (x = 0))),
  (212, ab_nx 213 (ab_lit (.int 1))),
  (213, ab_goto 245),
  (216, ab_nx 217 (ab_aload 0)),
  (217, ab_nx 220 (ab_lit (.long 1700885619))),
  (220, ab_nx 223 (ab_callV 2 11 f_X11_isWord 0 0 0 0)),
  (223, ab_if 226 230 (fun x => decide (x = 0))),
  (226, ab_nx 227 (ab_lit (.int 2))),
  (227, ab_goto 245),
  (230, ab_nx 231 (ab_aload 0)),
  (231, ab_nx 234 (ab_lit (.long 469785863539))),
  (234, ab_nx 237 (ab_callV 2 11 f_X11_isWord 0 0 0 0)),
  (237, ab_if 240 244 (fun x => decide (x = 0))),
  (240, ab_nx 241 (ab_lit (.int 3))),
  (241, ab_goto 245),
  (244, ab_nx 245 (ab_lit (.int (-1)))),
  (245, ab_nx 246 (ab_istore 1)),
  (246, ab_nx 247 (ab_iload 1)),
  (247, ab_if 250 256 (fun x => decide (0 ≤ x))),
  (250, ab_nx 251 (ab_aload 0)),
  (251, ab_nx 252 (ab_lit (.int 1))),
  (252, ab_nx 255 (ab_callV 2 11 f_X11_bad 0 0 0 0)),
  (255, ab_zret 0 0),
  (256, ab_nx 257 (ab_aload 0)),
  (257, ab_nx 260 (ab_callV 1 11 f_X11_next 0 0 0 0)),
  (260, ab_nx 261 (ab_aload 0)),
  (261, ab_nx 263 (ab_lit (.int 14))),
  (263, ab_nx 264 (ab_aload 0)),
  (264, ab_nx 267 (ab_getf 11 7)),
  (267, ab_nx 268 (ab_lit (.int 0))),
  (268, ab_nx 269 (ab_ald 1)),
  (269, ab_nx 272 (ab_callV 3 11 f_X11_takesName 0 0 0 0)),
  (272, ab_if 275 277 (fun x => !decide (x = 0))),
  (275, ab_nx 276 (ab_lit (.int 0))),
  (276, ab_zret 0 0),
  (277, ab_nx 278 (ab_aload 0)),
  (278, ab_nx 281 (ab_getf 11 18)),
  (281, ab_nx 282 (ab_istore 2)),
  (282, ab_nx 283 (ab_aload 0)),
  (283, ab_nx 286 (ab_getf 11 11)),
  (286, ab_nx 287 (ab_lit (.int 2))),
  (287, ab_icmp 290 296 (fun x y => decide (x = y))),
  (290, ab_nx 291 (ab_aload 0)),
  (291, ab_nx 292 (ab_lit (.int 1))),
  (292, ab_nx 295 (ab_callV 2 11 f_X11_bad 0 0 0 0)),
  (295, ab_zret 0 0),
  (296, ab_nx 297 (ab_aload 0)),
  (297, ab_nx 300 (ab_getf 11 14)),
  (300, ab_nx 301 (ab_lit (.int 1))),
  (301, ab_icmp 304 310 (fun x y => decide (x ≤ y))),
  (304, ab_nx 305 (ab_aload 0)),
  (305, ab_nx 306 (ab_lit (.int 2))),
  (306, ab_nx 309 (ab_callV 2 11 f_X11_bad 0 0 0 0)),
  (309, ab_zret 0 0),
  (310, ab_nx 311 (ab_lit (.int 2))),
  (311, ab_nx 312 (ab_iload 2)),
  (312, ab_nx 313 (ab_bin (fun x y => x * y))),
  (313, ab_nx 314 (ab_aload 0)),
  (314, ab_nx 317 (ab_getf 11 14)),
  (317, ab_nx 318 (ab_bin (fun x y => x + y))),
  (318, ab_nx 319 (ab_istore 3)),
  (319, ab_nx 320 (ab_aload 0)),
  (320, ab_nx 323 (ab_getf 11 21)),
  (323, ab_nx 324 (ab_iload 1)),
  (324, ab_nx 325 (ab_ald 1)),
  (325, ab_nx 326 (ab_iload 3)),
  (326, ab_nx 329 (ab_call 2 f_X11_bitOf 0 0 0 0)),
  (329, ab_if 332 338 (fun x => decide (x = 0))),
  (332, ab_nx 333 (ab_aload 0)),
  (333, ab_nx 334 (ab_lit (.int 3))),
  (334, ab_nx 337 (ab_callV 2 11 f_X11_bad 0 0 0 0)),
  (337, ab_zret 0 0),
  (338, ab_nx 339 (ab_aload 0)),
  (339, ab_nx 342 (ab_getf 11 21)),
  (342, ab_nx 343 (ab_iload 1)),
  (343, ab_nx 344 ab_dup2),
  (344, ab_nx 345 (ab_ald 1)),
  (345, ab_nx 346 (ab_lit (.int 1))),
  (346, ab_nx 347 (ab_iload 3)),
  (347, ab_nx 348 (ab_bin (fun x y => x <<< (y &&& 31)))),
  (348, ab_nx 349 (ab_bin (fun x y => x ||| y))),
  (349, ab_nx 350 (ab_ast 1)),
  (350, ab_nx 351 (ab_aload 0)),
  (351, ab_nx 354 (ab_callV 1 11 f_X11_next 0 0 0 0)),
  (354, ab_nx 355 (ab_aload 0)),
  (355, ab_nx 356 (ab_lit (.int 4))),
  (356, ab_nx 358 (ab_lit (.int 12))),
  (358, ab_nx 359 (ab_iload 1)),
  (359, ab_nx 360 (ab_bin (fun x y => x * y))),
  (360, ab_nx 361 (ab_bin (fun x y => x + y))),
  (361, ab_nx 362 (ab_iload 3)),
  (362, ab_nx 363 (ab_bin (fun x y => x + y))),
  (363, ab_nx 364 (ab_lit (.int 0))),
  (364, ab_nx 365 (ab_iload 1)),
  (365, ab_nx 366 (ab_lit (.int 2))),
  (366, ab_icmp 369 375 (fun x y => decide (y ≤ x))),
  (369, ab_nx 372 (ab_lit (.int 250))),
  (372, ab_goto 377),
  (375, ab_nx 377 (ab_lit (.int 20))),
  (377, ab_nx 380 (ab_callV 4 11 f_X11_puts 0 0 0 0)),
  (380, ab_zret 0 0)]
set_option maxRecDepth 100000 in
set_option maxHeartbeats 4000000 in
theorem M_X11_line {l : Launch} {b : ab_B} {D : va_G} {cA : Nat → ClassId} {f_X11_isWord : List Value → ab_H → Option ab_O} (h_X11_isWord : ab_M l b D ab_cl cA (ab_E0 b) yX11_isWord (Cond.code yX11_isWord cX11_isWord 3 (some .boolean) :: ab_G) ({ frames := 1, cells := 0, slots := 0, locals := 100 } : Room) f_X11_isWord) {f_X11_bad : List Value → ab_H → Option ab_O} (h_X11_bad : ab_M l b D ab_cl cA (ab_E0 b) yX11_bad (Cond.code yX11_bad cX11_bad 2 (some .boolean) :: ab_G) ({ frames := 1, cells := 0, slots := 0, locals := 100 } : Room) f_X11_bad) {f_X11_next : List Value → ab_H → Option ab_O} (h_X11_next : ab_M l b D ab_cl cA (ab_E0 b) yX11_next (Cond.code yX11_next cX11_next 4 none :: ab_G) ({ frames := 2, cells := 0, slots := 0, locals := 200 } : Room) f_X11_next) {f_X11_puts : List Value → ab_H → Option ab_O} (h_X11_puts : ab_M l b D ab_cl cA (ab_E0 b) yX11_puts (Cond.code yX11_puts cX11_puts 4 (some .boolean) :: ab_G) ({ frames := 4, cells := 0, slots := 0, locals := 400 } : Room) f_X11_puts) {f_X11_fresh : List Value → ab_H → Option ab_O} (h_X11_fresh : ab_M l b D ab_cl cA (ab_E0 b) yX11_fresh (Cond.code yX11_fresh cX11_fresh 2 (some .boolean) :: ab_G) ({ frames := 3, cells := 0, slots := 0, locals := 300 } : Room) f_X11_fresh) {f_X11_readMisses : List Value → ab_H → Option ab_O} (h_X11_readMisses : ab_M l b D ab_cl cA (ab_E0 b) yX11_readMisses (Cond.code yX11_readMisses cX11_readMisses 5 (some .boolean) :: ab_G) ({ frames := 5, cells := 0, slots := 0, locals := 500 } : Room) f_X11_readMisses) {f_X11_takesName : List Value → ab_H → Option ab_O} (h_X11_takesName : ab_M l b D ab_cl cA (ab_E0 b) yX11_takesName (Cond.code yX11_takesName cX11_takesName 3 (some .boolean) :: ab_G) ({ frames := 3, cells := 0, slots := 0, locals := 300 } : Room) f_X11_takesName) {f_X11_bitOf : List Value → ab_H → Option ab_O} (h_X11_bitOf : ab_M l b D ab_cl cA (ab_E0 b) yX11_bitOf (Cond.code yX11_bitOf cX11_bitOf 2 (some .boolean) :: ab_G) ({ frames := 1, cells := 0, slots := 0, locals := 100 } : Room) f_X11_bitOf) : ab_M l b D ab_cl cA (ab_E0 b) yX11_line (Cond.code yX11_line cX11_line 4 (some .boolean) :: ab_G) ({ frames := 6, cells := 0, slots := 0, locals := 600 } : Room) (ab_X (ab_T (L_X11_line f_X11_isWord f_X11_bad f_X11_next f_X11_puts f_X11_fresh f_X11_readMisses f_X11_takesName f_X11_bitOf)) 4) := by
  refine ab_meth (ret := (some .boolean)) (L_X11_line f_X11_isWord f_X11_bad f_X11_next f_X11_puts f_X11_fresh f_X11_readMisses f_X11_takesName f_X11_bitOf) (by decide) rfl fun p e R s m args below meth c o C => ?_
  unfold L_X11_line
  refine List.forall_mem_cons.mpr ⟨ok_aload_n C (show decode cX11_line 0 = .ok (.aload_n 0, 1) by decide +kernel) rfl rfl, ?_⟩
  refine List.forall_mem_cons.mpr ⟨ok_ldc2 C (show decode cX11_line 1 = .ok (.ldc2_w 87, 3) by decide +kernel) (gm kw_1155) rfl, ?_⟩
  refine List.forall_mem_cons.mpr ⟨ok_callV C h_X11_isWord ⟨rfl, rfl⟩ rfl kw_1340 kw_1337 kw_1339 kp_52 kw_11 rfl ds_X11_isWord ⟨by decide, by decide⟩ (show decode cX11_line 4 = .ok (.invokevirtual 201, 3) by decide +kernel) rfl, ?_⟩
  refine List.forall_mem_cons.mpr ⟨ok_ifeq C (show decode cX11_line 7 = .ok (.ifCond .eq 34, 3) by decide +kernel) (tg := 41) (by decide) rfl rfl, ?_⟩
  refine List.forall_mem_cons.mpr ⟨ok_aload_n C (show decode cX11_line 10 = .ok (.aload_n 0, 1) by decide +kernel) rfl rfl, ?_⟩
  refine List.forall_mem_cons.mpr ⟨ok_getf C (wi_X11) rfl (by decide) kw_1200 (show decode cX11_line 11 = .ok (.getfield 205, 3) by decide +kernel) rfl, ?_⟩
  refine List.forall_mem_cons.mpr ⟨ok_ifeq C (show decode cX11_line 14 = .ok (.ifCond .eq 9, 3) by decide +kernel) (tg := 23) (by decide) rfl rfl, ?_⟩
  refine List.forall_mem_cons.mpr ⟨ok_aload_n C (show decode cX11_line 17 = .ok (.aload_n 0, 1) by decide +kernel) rfl rfl, ?_⟩
  refine List.forall_mem_cons.mpr ⟨ok_iconst C (show decode cX11_line 18 = .ok (.iconst 3, 1) by decide +kernel) (by decide) rfl, ?_⟩
  refine List.forall_mem_cons.mpr ⟨ok_callV C h_X11_bad ⟨rfl, rfl⟩ rfl kw_1344 kw_1341 kw_1343 kp_53 kw_11 rfl ds_X11_bad ⟨by decide, by decide⟩ (show decode cX11_line 19 = .ok (.invokevirtual 173, 3) by decide +kernel) rfl, ?_⟩
  refine List.forall_mem_cons.mpr ⟨ok_zret C rfl (show decode cX11_line 22 = .ok (.ireturn, 1) by decide +kernel), ?_⟩
  refine List.forall_mem_cons.mpr ⟨ok_aload_n C (show decode cX11_line 23 = .ok (.aload_n 0, 1) by decide +kernel) rfl rfl, ?_⟩
  refine List.forall_mem_cons.mpr ⟨ok_iconst C (show decode cX11_line 24 = .ok (.iconst 1, 1) by decide +kernel) (by decide) rfl, ?_⟩
  refine List.forall_mem_cons.mpr ⟨ok_putf C (wi_X11) tyX11 tyX11_ok nmX11 rfl (by decide) kw_1200 (Or.inl rfl) (Or.inr (Or.inr (Or.inr ⟨rfl, rfl⟩))) (show decode cX11_line 25 = .ok (.putfield 205, 3) by decide +kernel) rfl, ?_⟩
  refine List.forall_mem_cons.mpr ⟨ok_aload_n C (show decode cX11_line 28 = .ok (.aload_n 0, 1) by decide +kernel) rfl rfl, ?_⟩
  refine List.forall_mem_cons.mpr ⟨ok_callV C h_X11_next ⟨rfl, rfl⟩ rfl kw_1322 kw_1319 kw_1321 kp_49 kw_11 rfl ds_X11_next ⟨by decide, by decide⟩ (show decode cX11_line 29 = .ok (.invokevirtual 176, 3) by decide +kernel) rfl, ?_⟩
  refine List.forall_mem_cons.mpr ⟨ok_aload_n C (show decode cX11_line 32 = .ok (.aload_n 0, 1) by decide +kernel) rfl rfl, ?_⟩
  refine List.forall_mem_cons.mpr ⟨ok_iconst C (show decode cX11_line 33 = .ok (.iconst 2, 1) by decide +kernel) (by decide) rfl, ?_⟩
  refine List.forall_mem_cons.mpr ⟨ok_iconst C (show decode cX11_line 34 = .ok (.iconst 1, 1) by decide +kernel) (by decide) rfl, ?_⟩
  refine List.forall_mem_cons.mpr ⟨ok_bipush C (show decode cX11_line 35 = .ok (.bipush 40, 2) by decide +kernel) (by decide) rfl, ?_⟩
  refine List.forall_mem_cons.mpr ⟨ok_callV C h_X11_puts ⟨rfl, rfl⟩ rfl kw_1348 kw_1345 kw_1347 kp_54 kw_11 rfl ds_X11_puts ⟨by decide, by decide⟩ (show decode cX11_line 37 = .ok (.invokevirtual 209, 3) by decide +kernel) rfl, ?_⟩
  refine List.forall_mem_cons.mpr ⟨ok_zret C rfl (show decode cX11_line 40 = .ok (.ireturn, 1) by decide +kernel), ?_⟩
  refine List.forall_mem_cons.mpr ⟨ok_aload_n C (show decode cX11_line 41 = .ok (.aload_n 0, 1) by decide +kernel) rfl rfl, ?_⟩
  refine List.forall_mem_cons.mpr ⟨ok_ldc2 C (show decode cX11_line 42 = .ok (.ldc2_w 89, 3) by decide +kernel) (gm kw_1156) rfl, ?_⟩
  refine List.forall_mem_cons.mpr ⟨ok_callV C h_X11_isWord ⟨rfl, rfl⟩ rfl kw_1340 kw_1337 kw_1339 kp_52 kw_11 rfl ds_X11_isWord ⟨by decide, by decide⟩ (show decode cX11_line 45 = .ok (.invokevirtual 201, 3) by decide +kernel) rfl, ?_⟩
  refine List.forall_mem_cons.mpr ⟨ok_ifeq C (show decode cX11_line 48 = .ok (.ifCond .eq 54, 3) by decide +kernel) (tg := 102) (by decide) rfl rfl, ?_⟩
  refine List.forall_mem_cons.mpr ⟨ok_aload_n C (show decode cX11_line 51 = .ok (.aload_n 0, 1) by decide +kernel) rfl rfl, ?_⟩
  refine List.forall_mem_cons.mpr ⟨ok_getf C (wi_X11) rfl (by decide) kw_1187 (show decode cX11_line 52 = .ok (.getfield 37, 3) by decide +kernel) rfl, ?_⟩
  refine List.forall_mem_cons.mpr ⟨ok_iconst C (show decode cX11_line 55 = .ok (.iconst 0, 1) by decide +kernel) (by decide) rfl, ?_⟩
  refine List.forall_mem_cons.mpr ⟨ok_iaload C (show decode cX11_line 56 = .ok (.iaload, 1) by decide +kernel) rfl, ?_⟩
  refine List.forall_mem_cons.mpr ⟨ok_bipush C (show decode cX11_line 57 = .ok (.bipush 6, 2) by decide +kernel) (by decide) rfl, ?_⟩
  refine List.forall_mem_cons.mpr ⟨ok_icmpne C (show decode cX11_line 59 = .ok (.if_icmp .ne 9, 3) by decide +kernel) (tg := 68) (by decide) rfl rfl, ?_⟩
  refine List.forall_mem_cons.mpr ⟨ok_aload_n C (show decode cX11_line 62 = .ok (.aload_n 0, 1) by decide +kernel) rfl rfl, ?_⟩
  refine List.forall_mem_cons.mpr ⟨ok_iconst C (show decode cX11_line 63 = .ok (.iconst 4, 1) by decide +kernel) (by decide) rfl, ?_⟩
  refine List.forall_mem_cons.mpr ⟨ok_callV C h_X11_bad ⟨rfl, rfl⟩ rfl kw_1344 kw_1341 kw_1343 kp_53 kw_11 rfl ds_X11_bad ⟨by decide, by decide⟩ (show decode cX11_line 64 = .ok (.invokevirtual 173, 3) by decide +kernel) rfl, ?_⟩
  refine List.forall_mem_cons.mpr ⟨ok_zret C rfl (show decode cX11_line 67 = .ok (.ireturn, 1) by decide +kernel), ?_⟩
  refine List.forall_mem_cons.mpr ⟨ok_aload_n C (show decode cX11_line 68 = .ok (.aload_n 0, 1) by decide +kernel) rfl rfl, ?_⟩
  refine List.forall_mem_cons.mpr ⟨ok_callV C h_X11_next ⟨rfl, rfl⟩ rfl kw_1322 kw_1319 kw_1321 kp_49 kw_11 rfl ds_X11_next ⟨by decide, by decide⟩ (show decode cX11_line 69 = .ok (.invokevirtual 176, 3) by decide +kernel) rfl, ?_⟩
  refine List.forall_mem_cons.mpr ⟨ok_aload_n C (show decode cX11_line 72 = .ok (.aload_n 0, 1) by decide +kernel) rfl rfl, ?_⟩
  refine List.forall_mem_cons.mpr ⟨ok_bipush C (show decode cX11_line 73 = .ok (.bipush 14, 2) by decide +kernel) (by decide) rfl, ?_⟩
  refine List.forall_mem_cons.mpr ⟨ok_aload_n C (show decode cX11_line 75 = .ok (.aload_n 0, 1) by decide +kernel) rfl rfl, ?_⟩
  refine List.forall_mem_cons.mpr ⟨ok_getf C (wi_X11) rfl (by decide) kw_1187 (show decode cX11_line 76 = .ok (.getfield 37, 3) by decide +kernel) rfl, ?_⟩
  refine List.forall_mem_cons.mpr ⟨ok_iconst C (show decode cX11_line 79 = .ok (.iconst 0, 1) by decide +kernel) (by decide) rfl, ?_⟩
  refine List.forall_mem_cons.mpr ⟨ok_iaload C (show decode cX11_line 80 = .ok (.iaload, 1) by decide +kernel) rfl, ?_⟩
  refine List.forall_mem_cons.mpr ⟨ok_iadd C (show decode cX11_line 81 = .ok (.iadd, 1) by decide +kernel) rfl, ?_⟩
  refine List.forall_mem_cons.mpr ⟨ok_callV C h_X11_fresh ⟨rfl, rfl⟩ rfl kw_1359 kw_1356 kw_1358 kp_56 kw_11 rfl ds_X11_fresh ⟨by decide, by decide⟩ (show decode cX11_line 82 = .ok (.invokevirtual 212, 3) by decide +kernel) rfl, ?_⟩
  refine List.forall_mem_cons.mpr ⟨ok_ifne C (show decode cX11_line 85 = .ok (.ifCond .ne 5, 3) by decide +kernel) (tg := 90) (by decide) rfl rfl, ?_⟩
  refine List.forall_mem_cons.mpr ⟨ok_iconst C (show decode cX11_line 88 = .ok (.iconst 0, 1) by decide +kernel) (by decide) rfl, ?_⟩
  refine List.forall_mem_cons.mpr ⟨ok_zret C rfl (show decode cX11_line 89 = .ok (.ireturn, 1) by decide +kernel), ?_⟩
  refine List.forall_mem_cons.mpr ⟨ok_aload_n C (show decode cX11_line 90 = .ok (.aload_n 0, 1) by decide +kernel) rfl rfl, ?_⟩
  refine List.forall_mem_cons.mpr ⟨ok_getf C (wi_X11) rfl (by decide) kw_1187 (show decode cX11_line 91 = .ok (.getfield 37, 3) by decide +kernel) rfl, ?_⟩
  refine List.forall_mem_cons.mpr ⟨ok_iconst C (show decode cX11_line 94 = .ok (.iconst 0, 1) by decide +kernel) (by decide) rfl, ?_⟩
  refine List.forall_mem_cons.mpr ⟨ok_dup2 C (show decode cX11_line 95 = .ok (.dup2, 1) by decide +kernel) rfl, ?_⟩
  refine List.forall_mem_cons.mpr ⟨ok_iaload C (show decode cX11_line 96 = .ok (.iaload, 1) by decide +kernel) rfl, ?_⟩
  refine List.forall_mem_cons.mpr ⟨ok_iconst C (show decode cX11_line 97 = .ok (.iconst 1, 1) by decide +kernel) (by decide) rfl, ?_⟩
  refine List.forall_mem_cons.mpr ⟨ok_iadd C (show decode cX11_line 98 = .ok (.iadd, 1) by decide +kernel) rfl, ?_⟩
  refine List.forall_mem_cons.mpr ⟨ok_iastore C (show decode cX11_line 99 = .ok (.iastore, 1) by decide +kernel) rfl, ?_⟩
  refine List.forall_mem_cons.mpr ⟨ok_iconst C (show decode cX11_line 100 = .ok (.iconst 1, 1) by decide +kernel) (by decide) rfl, ?_⟩
  refine List.forall_mem_cons.mpr ⟨ok_zret C rfl (show decode cX11_line 101 = .ok (.ireturn, 1) by decide +kernel), ?_⟩
  refine List.forall_mem_cons.mpr ⟨ok_aload_n C (show decode cX11_line 102 = .ok (.aload_n 0, 1) by decide +kernel) rfl rfl, ?_⟩
  refine List.forall_mem_cons.mpr ⟨ok_ldc2 C (show decode cX11_line 103 = .ok (.ldc2_w 99, 3) by decide +kernel) (gm kw_1161) rfl, ?_⟩
  refine List.forall_mem_cons.mpr ⟨ok_callV C h_X11_isWord ⟨rfl, rfl⟩ rfl kw_1340 kw_1337 kw_1339 kp_52 kw_11 rfl ds_X11_isWord ⟨by decide, by decide⟩ (show decode cX11_line 106 = .ok (.invokevirtual 201, 3) by decide +kernel) rfl, ?_⟩
  refine List.forall_mem_cons.mpr ⟨ok_ifeq C (show decode cX11_line 109 = .ok (.ifCond .eq 64, 3) by decide +kernel) (tg := 173) (by decide) rfl rfl, ?_⟩
  refine List.forall_mem_cons.mpr ⟨ok_aload_n C (show decode cX11_line 112 = .ok (.aload_n 0, 1) by decide +kernel) rfl rfl, ?_⟩
  refine List.forall_mem_cons.mpr ⟨ok_getf C (wi_X11) rfl (by decide) kw_1187 (show decode cX11_line 113 = .ok (.getfield 37, 3) by decide +kernel) rfl, ?_⟩
  refine List.forall_mem_cons.mpr ⟨ok_iconst C (show decode cX11_line 116 = .ok (.iconst 1, 1) by decide +kernel) (by decide) rfl, ?_⟩
  refine List.forall_mem_cons.mpr ⟨ok_iaload C (show decode cX11_line 117 = .ok (.iaload, 1) by decide +kernel) rfl, ?_⟩
  refine List.forall_mem_cons.mpr ⟨ok_istore_n C (show decode cX11_line 118 = .ok (.istore_n 1, 1) by decide +kernel) rfl (by decide) rfl, ?_⟩
  refine List.forall_mem_cons.mpr ⟨ok_iload_n C (show decode cX11_line 119 = .ok (.iload_n 1, 1) by decide +kernel) rfl rfl, ?_⟩
  refine List.forall_mem_cons.mpr ⟨ok_bipush C (show decode cX11_line 120 = .ok (.bipush 8, 2) by decide +kernel) (by decide) rfl, ?_⟩
  refine List.forall_mem_cons.mpr ⟨ok_icmpne C (show decode cX11_line 122 = .ok (.if_icmp .ne 9, 3) by decide +kernel) (tg := 131) (by decide) rfl rfl, ?_⟩
  refine List.forall_mem_cons.mpr ⟨ok_aload_n C (show decode cX11_line 125 = .ok (.aload_n 0, 1) by decide +kernel) rfl rfl, ?_⟩
  refine List.forall_mem_cons.mpr ⟨ok_iconst C (show decode cX11_line 126 = .ok (.iconst 4, 1) by decide +kernel) (by decide) rfl, ?_⟩
  refine List.forall_mem_cons.mpr ⟨ok_callV C h_X11_bad ⟨rfl, rfl⟩ rfl kw_1344 kw_1341 kw_1343 kp_53 kw_11 rfl ds_X11_bad ⟨by decide, by decide⟩ (show decode cX11_line 127 = .ok (.invokevirtual 173, 3) by decide +kernel) rfl, ?_⟩
  refine List.forall_mem_cons.mpr ⟨ok_zret C rfl (show decode cX11_line 130 = .ok (.ireturn, 1) by decide +kernel), ?_⟩
  refine List.forall_mem_cons.mpr ⟨ok_aload_n C (show decode cX11_line 131 = .ok (.aload_n 0, 1) by decide +kernel) rfl rfl, ?_⟩
  refine List.forall_mem_cons.mpr ⟨ok_callV C h_X11_next ⟨rfl, rfl⟩ rfl kw_1322 kw_1319 kw_1321 kp_49 kw_11 rfl ds_X11_next ⟨by decide, by decide⟩ (show decode cX11_line 132 = .ok (.invokevirtual 176, 3) by decide +kernel) rfl, ?_⟩
  refine List.forall_mem_cons.mpr ⟨ok_aload_n C (show decode cX11_line 135 = .ok (.aload_n 0, 1) by decide +kernel) rfl rfl, ?_⟩
  refine List.forall_mem_cons.mpr ⟨ok_bipush C (show decode cX11_line 136 = .ok (.bipush 20, 2) by decide +kernel) (by decide) rfl, ?_⟩
  refine List.forall_mem_cons.mpr ⟨ok_iload_n C (show decode cX11_line 138 = .ok (.iload_n 1, 1) by decide +kernel) rfl rfl, ?_⟩
  refine List.forall_mem_cons.mpr ⟨ok_iadd C (show decode cX11_line 139 = .ok (.iadd, 1) by decide +kernel) rfl, ?_⟩
  refine List.forall_mem_cons.mpr ⟨ok_callV C h_X11_fresh ⟨rfl, rfl⟩ rfl kw_1359 kw_1356 kw_1358 kp_56 kw_11 rfl ds_X11_fresh ⟨by decide, by decide⟩ (show decode cX11_line 140 = .ok (.invokevirtual 212, 3) by decide +kernel) rfl, ?_⟩
  refine List.forall_mem_cons.mpr ⟨ok_ifeq C (show decode cX11_line 143 = .ok (.ifCond .eq 16, 3) by decide +kernel) (tg := 159) (by decide) rfl rfl, ?_⟩
  refine List.forall_mem_cons.mpr ⟨ok_aload_n C (show decode cX11_line 146 = .ok (.aload_n 0, 1) by decide +kernel) rfl rfl, ?_⟩
  refine List.forall_mem_cons.mpr ⟨ok_bipush C (show decode cX11_line 147 = .ok (.bipush 52, 2) by decide +kernel) (by decide) rfl, ?_⟩
  refine List.forall_mem_cons.mpr ⟨ok_iload_n C (show decode cX11_line 149 = .ok (.iload_n 1, 1) by decide +kernel) rfl rfl, ?_⟩
  refine List.forall_mem_cons.mpr ⟨ok_iadd C (show decode cX11_line 150 = .ok (.iadd, 1) by decide +kernel) rfl, ?_⟩
  refine List.forall_mem_cons.mpr ⟨ok_iconst C (show decode cX11_line 151 = .ok (.iconst 0, 1) by decide +kernel) (by decide) rfl, ?_⟩
  refine List.forall_mem_cons.mpr ⟨ok_iconst C (show decode cX11_line 152 = .ok (.iconst 1, 1) by decide +kernel) (by decide) rfl, ?_⟩
  refine List.forall_mem_cons.mpr ⟨ok_callV C h_X11_puts ⟨rfl, rfl⟩ rfl kw_1348 kw_1345 kw_1347 kp_54 kw_11 rfl ds_X11_puts ⟨by decide, by decide⟩ (show decode cX11_line 153 = .ok (.invokevirtual 209, 3) by decide +kernel) rfl, ?_⟩
  refine List.forall_mem_cons.mpr ⟨ok_ifne C (show decode cX11_line 156 = .ok (.ifCond .ne 5, 3) by decide +kernel) (tg := 161) (by decide) rfl rfl, ?_⟩
  refine List.forall_mem_cons.mpr ⟨ok_iconst C (show decode cX11_line 159 = .ok (.iconst 0, 1) by decide +kernel) (by decide) rfl, ?_⟩
  refine List.forall_mem_cons.mpr ⟨ok_zret C rfl (show decode cX11_line 160 = .ok (.ireturn, 1) by decide +kernel), ?_⟩
  refine List.forall_mem_cons.mpr ⟨ok_aload_n C (show decode cX11_line 161 = .ok (.aload_n 0, 1) by decide +kernel) rfl rfl, ?_⟩
  refine List.forall_mem_cons.mpr ⟨ok_getf C (wi_X11) rfl (by decide) kw_1187 (show decode cX11_line 162 = .ok (.getfield 37, 3) by decide +kernel) rfl, ?_⟩
  refine List.forall_mem_cons.mpr ⟨ok_iconst C (show decode cX11_line 165 = .ok (.iconst 1, 1) by decide +kernel) (by decide) rfl, ?_⟩
  refine List.forall_mem_cons.mpr ⟨ok_dup2 C (show decode cX11_line 166 = .ok (.dup2, 1) by decide +kernel) rfl, ?_⟩
  refine List.forall_mem_cons.mpr ⟨ok_iaload C (show decode cX11_line 167 = .ok (.iaload, 1) by decide +kernel) rfl, ?_⟩
  refine List.forall_mem_cons.mpr ⟨ok_iconst C (show decode cX11_line 168 = .ok (.iconst 1, 1) by decide +kernel) (by decide) rfl, ?_⟩
  refine List.forall_mem_cons.mpr ⟨ok_iadd C (show decode cX11_line 169 = .ok (.iadd, 1) by decide +kernel) rfl, ?_⟩
  refine List.forall_mem_cons.mpr ⟨ok_iastore C (show decode cX11_line 170 = .ok (.iastore, 1) by decide +kernel) rfl, ?_⟩
  refine List.forall_mem_cons.mpr ⟨ok_iconst C (show decode cX11_line 171 = .ok (.iconst 1, 1) by decide +kernel) (by decide) rfl, ?_⟩
  refine List.forall_mem_cons.mpr ⟨ok_zret C rfl (show decode cX11_line 172 = .ok (.ireturn, 1) by decide +kernel), ?_⟩
  refine List.forall_mem_cons.mpr ⟨ok_aload_n C (show decode cX11_line 173 = .ok (.aload_n 0, 1) by decide +kernel) rfl rfl, ?_⟩
  refine List.forall_mem_cons.mpr ⟨ok_ldc2 C (show decode cX11_line 174 = .ok (.ldc2_w 101, 3) by decide +kernel) (gm kw_1162) rfl, ?_⟩
  refine List.forall_mem_cons.mpr ⟨ok_callV C h_X11_isWord ⟨rfl, rfl⟩ rfl kw_1340 kw_1337 kw_1339 kp_52 kw_11 rfl ds_X11_isWord ⟨by decide, by decide⟩ (show decode cX11_line 177 = .ok (.invokevirtual 201, 3) by decide +kernel) rfl, ?_⟩
  refine List.forall_mem_cons.mpr ⟨ok_ifeq C (show decode cX11_line 180 = .ok (.ifCond .eq 8, 3) by decide +kernel) (tg := 188) (by decide) rfl rfl, ?_⟩
  refine List.forall_mem_cons.mpr ⟨ok_aload_n C (show decode cX11_line 183 = .ok (.aload_n 0, 1) by decide +kernel) rfl rfl, ?_⟩
  refine List.forall_mem_cons.mpr ⟨ok_callV C h_X11_readMisses ⟨rfl, rfl⟩ rfl kw_1371 kw_1368 kw_1370 kp_59 kw_11 rfl ds_X11_readMisses ⟨by decide, by decide⟩ (show decode cX11_line 184 = .ok (.invokevirtual 215, 3) by decide +kernel) rfl, ?_⟩
  refine List.forall_mem_cons.mpr ⟨ok_zret C rfl (show decode cX11_line 187 = .ok (.ireturn, 1) by decide +kernel), ?_⟩
  refine List.forall_mem_cons.mpr ⟨ok_aload_n C (show decode cX11_line 188 = .ok (.aload_n 0, 1) by decide +kernel) rfl rfl, ?_⟩
  refine List.forall_mem_cons.mpr ⟨ok_ldc2 C (show decode cX11_line 189 = .ok (.ldc2_w 91, 3) by decide +kernel) (gm kw_1157) rfl, ?_⟩
  refine List.forall_mem_cons.mpr ⟨ok_callV C h_X11_isWord ⟨rfl, rfl⟩ rfl kw_1340 kw_1337 kw_1339 kp_52 kw_11 rfl ds_X11_isWord ⟨by decide, by decide⟩ (show decode cX11_line 192 = .ok (.invokevirtual 201, 3) by decide +kernel) rfl, ?_⟩
  refine List.forall_mem_cons.mpr ⟨ok_ifeq C (show decode cX11_line 195 = .ok (.ifCond .eq 7, 3) by decide +kernel) (tg := 202) (by decide) rfl rfl, ?_⟩
  refine List.forall_mem_cons.mpr ⟨ok_iconst C (show decode cX11_line 198 = .ok (.iconst 0, 1) by decide +kernel) (by decide) rfl, ?_⟩
  refine List.forall_mem_cons.mpr ⟨ok_goto C (show decode cX11_line 199 = .ok (.goto 46, 3) by decide +kernel) (tg := 245) (by decide) rfl, ?_⟩
  refine List.forall_mem_cons.mpr ⟨ok_aload_n C (show decode cX11_line 202 = .ok (.aload_n 0, 1) by decide +kernel) rfl rfl, ?_⟩
  refine List.forall_mem_cons.mpr ⟨ok_ldc2 C (show decode cX11_line 203 = .ok (.ldc2_w 93, 3) by decide +kernel) (gm kw_1158) rfl, ?_⟩
  refine List.forall_mem_cons.mpr ⟨ok_callV C h_X11_isWord ⟨rfl, rfl⟩ rfl kw_1340 kw_1337 kw_1339 kp_52 kw_11 rfl ds_X11_isWord ⟨by decide, by decide⟩ (show decode cX11_line 206 = .ok (.invokevirtual 201, 3) by decide +kernel) rfl, ?_⟩
  refine List.forall_mem_cons.mpr ⟨ok_ifeq C (show decode cX11_line 209 = .ok (.ifCond .eq 7, 3) by decide +kernel) (tg := 216) (by decide) rfl rfl, ?_⟩
  refine List.forall_mem_cons.mpr ⟨ok_iconst C (show decode cX11_line 212 = .ok (.iconst 1, 1) by decide +kernel) (by decide) rfl, ?_⟩
  refine List.forall_mem_cons.mpr ⟨ok_goto C (show decode cX11_line 213 = .ok (.goto 32, 3) by decide +kernel) (tg := 245) (by decide) rfl, ?_⟩
  refine List.forall_mem_cons.mpr ⟨ok_aload_n C (show decode cX11_line 216 = .ok (.aload_n 0, 1) by decide +kernel) rfl rfl, ?_⟩
  refine List.forall_mem_cons.mpr ⟨ok_ldc2 C (show decode cX11_line 217 = .ok (.ldc2_w 95, 3) by decide +kernel) (gm kw_1159) rfl, ?_⟩
  refine List.forall_mem_cons.mpr ⟨ok_callV C h_X11_isWord ⟨rfl, rfl⟩ rfl kw_1340 kw_1337 kw_1339 kp_52 kw_11 rfl ds_X11_isWord ⟨by decide, by decide⟩ (show decode cX11_line 220 = .ok (.invokevirtual 201, 3) by decide +kernel) rfl, ?_⟩
  refine List.forall_mem_cons.mpr ⟨ok_ifeq C (show decode cX11_line 223 = .ok (.ifCond .eq 7, 3) by decide +kernel) (tg := 230) (by decide) rfl rfl, ?_⟩
  refine List.forall_mem_cons.mpr ⟨ok_iconst C (show decode cX11_line 226 = .ok (.iconst 2, 1) by decide +kernel) (by decide) rfl, ?_⟩
  refine List.forall_mem_cons.mpr ⟨ok_goto C (show decode cX11_line 227 = .ok (.goto 18, 3) by decide +kernel) (tg := 245) (by decide) rfl, ?_⟩
  refine List.forall_mem_cons.mpr ⟨ok_aload_n C (show decode cX11_line 230 = .ok (.aload_n 0, 1) by decide +kernel) rfl rfl, ?_⟩
  refine List.forall_mem_cons.mpr ⟨ok_ldc2 C (show decode cX11_line 231 = .ok (.ldc2_w 97, 3) by decide +kernel) (gm kw_1160) rfl, ?_⟩
  refine List.forall_mem_cons.mpr ⟨ok_callV C h_X11_isWord ⟨rfl, rfl⟩ rfl kw_1340 kw_1337 kw_1339 kp_52 kw_11 rfl ds_X11_isWord ⟨by decide, by decide⟩ (show decode cX11_line 234 = .ok (.invokevirtual 201, 3) by decide +kernel) rfl, ?_⟩
  refine List.forall_mem_cons.mpr ⟨ok_ifeq C (show decode cX11_line 237 = .ok (.ifCond .eq 7, 3) by decide +kernel) (tg := 244) (by decide) rfl rfl, ?_⟩
  refine List.forall_mem_cons.mpr ⟨ok_iconst C (show decode cX11_line 240 = .ok (.iconst 3, 1) by decide +kernel) (by decide) rfl, ?_⟩
  refine List.forall_mem_cons.mpr ⟨ok_goto C (show decode cX11_line 241 = .ok (.goto 4, 3) by decide +kernel) (tg := 245) (by decide) rfl, ?_⟩
  refine List.forall_mem_cons.mpr ⟨ok_iconst C (show decode cX11_line 244 = .ok (.iconst (-1), 1) by decide +kernel) (by decide) rfl, ?_⟩
  refine List.forall_mem_cons.mpr ⟨ok_istore_n C (show decode cX11_line 245 = .ok (.istore_n 1, 1) by decide +kernel) rfl (by decide) rfl, ?_⟩
  refine List.forall_mem_cons.mpr ⟨ok_iload_n C (show decode cX11_line 246 = .ok (.iload_n 1, 1) by decide +kernel) rfl rfl, ?_⟩
  refine List.forall_mem_cons.mpr ⟨ok_ifge C (show decode cX11_line 247 = .ok (.ifCond .ge 9, 3) by decide +kernel) (tg := 256) (by decide) rfl rfl, ?_⟩
  refine List.forall_mem_cons.mpr ⟨ok_aload_n C (show decode cX11_line 250 = .ok (.aload_n 0, 1) by decide +kernel) rfl rfl, ?_⟩
  refine List.forall_mem_cons.mpr ⟨ok_iconst C (show decode cX11_line 251 = .ok (.iconst 1, 1) by decide +kernel) (by decide) rfl, ?_⟩
  refine List.forall_mem_cons.mpr ⟨ok_callV C h_X11_bad ⟨rfl, rfl⟩ rfl kw_1344 kw_1341 kw_1343 kp_53 kw_11 rfl ds_X11_bad ⟨by decide, by decide⟩ (show decode cX11_line 252 = .ok (.invokevirtual 173, 3) by decide +kernel) rfl, ?_⟩
  refine List.forall_mem_cons.mpr ⟨ok_zret C rfl (show decode cX11_line 255 = .ok (.ireturn, 1) by decide +kernel), ?_⟩
  refine List.forall_mem_cons.mpr ⟨ok_aload_n C (show decode cX11_line 256 = .ok (.aload_n 0, 1) by decide +kernel) rfl rfl, ?_⟩
  refine List.forall_mem_cons.mpr ⟨ok_callV C h_X11_next ⟨rfl, rfl⟩ rfl kw_1322 kw_1319 kw_1321 kp_49 kw_11 rfl ds_X11_next ⟨by decide, by decide⟩ (show decode cX11_line 257 = .ok (.invokevirtual 176, 3) by decide +kernel) rfl, ?_⟩
  refine List.forall_mem_cons.mpr ⟨ok_aload_n C (show decode cX11_line 260 = .ok (.aload_n 0, 1) by decide +kernel) rfl rfl, ?_⟩
  refine List.forall_mem_cons.mpr ⟨ok_bipush C (show decode cX11_line 261 = .ok (.bipush 14, 2) by decide +kernel) (by decide) rfl, ?_⟩
  refine List.forall_mem_cons.mpr ⟨ok_aload_n C (show decode cX11_line 263 = .ok (.aload_n 0, 1) by decide +kernel) rfl rfl, ?_⟩
  refine List.forall_mem_cons.mpr ⟨ok_getf C (wi_X11) rfl (by decide) kw_1187 (show decode cX11_line 264 = .ok (.getfield 37, 3) by decide +kernel) rfl, ?_⟩
  refine List.forall_mem_cons.mpr ⟨ok_iconst C (show decode cX11_line 267 = .ok (.iconst 0, 1) by decide +kernel) (by decide) rfl, ?_⟩
  refine List.forall_mem_cons.mpr ⟨ok_iaload C (show decode cX11_line 268 = .ok (.iaload, 1) by decide +kernel) rfl, ?_⟩
  refine List.forall_mem_cons.mpr ⟨ok_callV C h_X11_takesName ⟨rfl, rfl⟩ rfl kw_1375 kw_1372 kw_1374 kp_60 kw_11 rfl ds_X11_takesName ⟨by decide, by decide⟩ (show decode cX11_line 269 = .ok (.invokevirtual 218, 3) by decide +kernel) rfl, ?_⟩
  refine List.forall_mem_cons.mpr ⟨ok_ifne C (show decode cX11_line 272 = .ok (.ifCond .ne 5, 3) by decide +kernel) (tg := 277) (by decide) rfl rfl, ?_⟩
  refine List.forall_mem_cons.mpr ⟨ok_iconst C (show decode cX11_line 275 = .ok (.iconst 0, 1) by decide +kernel) (by decide) rfl, ?_⟩
  refine List.forall_mem_cons.mpr ⟨ok_zret C rfl (show decode cX11_line 276 = .ok (.ireturn, 1) by decide +kernel), ?_⟩
  refine List.forall_mem_cons.mpr ⟨ok_aload_n C (show decode cX11_line 277 = .ok (.aload_n 0, 1) by decide +kernel) rfl rfl, ?_⟩
  refine List.forall_mem_cons.mpr ⟨ok_getf C (wi_X11) rfl (by decide) kw_1198 (show decode cX11_line 278 = .ok (.getfield 183, 3) by decide +kernel) rfl, ?_⟩
  refine List.forall_mem_cons.mpr ⟨ok_istore_n C (show decode cX11_line 281 = .ok (.istore_n 2, 1) by decide +kernel) rfl (by decide) rfl, ?_⟩
  refine List.forall_mem_cons.mpr ⟨ok_aload_n C (show decode cX11_line 282 = .ok (.aload_n 0, 1) by decide +kernel) rfl rfl, ?_⟩
  refine List.forall_mem_cons.mpr ⟨ok_getf C (wi_X11) rfl (by decide) kw_1191 (show decode cX11_line 283 = .ok (.getfield 147, 3) by decide +kernel) rfl, ?_⟩
  refine List.forall_mem_cons.mpr ⟨ok_iconst C (show decode cX11_line 286 = .ok (.iconst 2, 1) by decide +kernel) (by decide) rfl, ?_⟩
  refine List.forall_mem_cons.mpr ⟨ok_icmpeq C (show decode cX11_line 287 = .ok (.if_icmp .eq 9, 3) by decide +kernel) (tg := 296) (by decide) rfl rfl, ?_⟩
  refine List.forall_mem_cons.mpr ⟨ok_aload_n C (show decode cX11_line 290 = .ok (.aload_n 0, 1) by decide +kernel) rfl rfl, ?_⟩
  refine List.forall_mem_cons.mpr ⟨ok_iconst C (show decode cX11_line 291 = .ok (.iconst 1, 1) by decide +kernel) (by decide) rfl, ?_⟩
  refine List.forall_mem_cons.mpr ⟨ok_callV C h_X11_bad ⟨rfl, rfl⟩ rfl kw_1344 kw_1341 kw_1343 kp_53 kw_11 rfl ds_X11_bad ⟨by decide, by decide⟩ (show decode cX11_line 292 = .ok (.invokevirtual 173, 3) by decide +kernel) rfl, ?_⟩
  refine List.forall_mem_cons.mpr ⟨ok_zret C rfl (show decode cX11_line 295 = .ok (.ireturn, 1) by decide +kernel), ?_⟩
  refine List.forall_mem_cons.mpr ⟨ok_aload_n C (show decode cX11_line 296 = .ok (.aload_n 0, 1) by decide +kernel) rfl rfl, ?_⟩
  refine List.forall_mem_cons.mpr ⟨ok_getf C (wi_X11) rfl (by decide) kw_1194 (show decode cX11_line 297 = .ok (.getfield 157, 3) by decide +kernel) rfl, ?_⟩
  refine List.forall_mem_cons.mpr ⟨ok_iconst C (show decode cX11_line 300 = .ok (.iconst 1, 1) by decide +kernel) (by decide) rfl, ?_⟩
  refine List.forall_mem_cons.mpr ⟨ok_icmple C (show decode cX11_line 301 = .ok (.if_icmp .le 9, 3) by decide +kernel) (tg := 310) (by decide) rfl rfl, ?_⟩
  refine List.forall_mem_cons.mpr ⟨ok_aload_n C (show decode cX11_line 304 = .ok (.aload_n 0, 1) by decide +kernel) rfl rfl, ?_⟩
  refine List.forall_mem_cons.mpr ⟨ok_iconst C (show decode cX11_line 305 = .ok (.iconst 2, 1) by decide +kernel) (by decide) rfl, ?_⟩
  refine List.forall_mem_cons.mpr ⟨ok_callV C h_X11_bad ⟨rfl, rfl⟩ rfl kw_1344 kw_1341 kw_1343 kp_53 kw_11 rfl ds_X11_bad ⟨by decide, by decide⟩ (show decode cX11_line 306 = .ok (.invokevirtual 173, 3) by decide +kernel) rfl, ?_⟩
  refine List.forall_mem_cons.mpr ⟨ok_zret C rfl (show decode cX11_line 309 = .ok (.ireturn, 1) by decide +kernel), ?_⟩
  refine List.forall_mem_cons.mpr ⟨ok_iconst C (show decode cX11_line 310 = .ok (.iconst 2, 1) by decide +kernel) (by decide) rfl, ?_⟩
  refine List.forall_mem_cons.mpr ⟨ok_iload_n C (show decode cX11_line 311 = .ok (.iload_n 2, 1) by decide +kernel) rfl rfl, ?_⟩
  refine List.forall_mem_cons.mpr ⟨ok_imul C (show decode cX11_line 312 = .ok (.imul, 1) by decide +kernel) rfl, ?_⟩
  refine List.forall_mem_cons.mpr ⟨ok_aload_n C (show decode cX11_line 313 = .ok (.aload_n 0, 1) by decide +kernel) rfl rfl, ?_⟩
  refine List.forall_mem_cons.mpr ⟨ok_getf C (wi_X11) rfl (by decide) kw_1194 (show decode cX11_line 314 = .ok (.getfield 157, 3) by decide +kernel) rfl, ?_⟩
  refine List.forall_mem_cons.mpr ⟨ok_iadd C (show decode cX11_line 317 = .ok (.iadd, 1) by decide +kernel) rfl, ?_⟩
  refine List.forall_mem_cons.mpr ⟨ok_istore_n C (show decode cX11_line 318 = .ok (.istore_n 3, 1) by decide +kernel) rfl (by decide) rfl, ?_⟩
  refine List.forall_mem_cons.mpr ⟨ok_aload_n C (show decode cX11_line 319 = .ok (.aload_n 0, 1) by decide +kernel) rfl rfl, ?_⟩
  refine List.forall_mem_cons.mpr ⟨ok_getf C (wi_X11) rfl (by decide) kw_1201 (show decode cX11_line 320 = .ok (.getfield 50, 3) by decide +kernel) rfl, ?_⟩
  refine List.forall_mem_cons.mpr ⟨ok_iload_n C (show decode cX11_line 323 = .ok (.iload_n 1, 1) by decide +kernel) rfl rfl, ?_⟩
  refine List.forall_mem_cons.mpr ⟨ok_iaload C (show decode cX11_line 324 = .ok (.iaload, 1) by decide +kernel) rfl, ?_⟩
  refine List.forall_mem_cons.mpr ⟨ok_iload_n C (show decode cX11_line 325 = .ok (.iload_n 3, 1) by decide +kernel) rfl rfl, ?_⟩
  refine List.forall_mem_cons.mpr ⟨ok_callS C h_X11_bitOf ⟨rfl, rfl⟩ kw_1382 kw_1380 kw_1381 kw_11 ds_X11_bitOf ⟨by decide, by decide⟩ (show decode cX11_line 326 = .ok (.invokestatic 221, 3) by decide +kernel) rfl, ?_⟩
  refine List.forall_mem_cons.mpr ⟨ok_ifeq C (show decode cX11_line 329 = .ok (.ifCond .eq 9, 3) by decide +kernel) (tg := 338) (by decide) rfl rfl, ?_⟩
  refine List.forall_mem_cons.mpr ⟨ok_aload_n C (show decode cX11_line 332 = .ok (.aload_n 0, 1) by decide +kernel) rfl rfl, ?_⟩
  refine List.forall_mem_cons.mpr ⟨ok_iconst C (show decode cX11_line 333 = .ok (.iconst 3, 1) by decide +kernel) (by decide) rfl, ?_⟩
  refine List.forall_mem_cons.mpr ⟨ok_callV C h_X11_bad ⟨rfl, rfl⟩ rfl kw_1344 kw_1341 kw_1343 kp_53 kw_11 rfl ds_X11_bad ⟨by decide, by decide⟩ (show decode cX11_line 334 = .ok (.invokevirtual 173, 3) by decide +kernel) rfl, ?_⟩
  refine List.forall_mem_cons.mpr ⟨ok_zret C rfl (show decode cX11_line 337 = .ok (.ireturn, 1) by decide +kernel), ?_⟩
  refine List.forall_mem_cons.mpr ⟨ok_aload_n C (show decode cX11_line 338 = .ok (.aload_n 0, 1) by decide +kernel) rfl rfl, ?_⟩
  refine List.forall_mem_cons.mpr ⟨ok_getf C (wi_X11) rfl (by decide) kw_1201 (show decode cX11_line 339 = .ok (.getfield 50, 3) by decide +kernel) rfl, ?_⟩
  refine List.forall_mem_cons.mpr ⟨ok_iload_n C (show decode cX11_line 342 = .ok (.iload_n 1, 1) by decide +kernel) rfl rfl, ?_⟩
  refine List.forall_mem_cons.mpr ⟨ok_dup2 C (show decode cX11_line 343 = .ok (.dup2, 1) by decide +kernel) rfl, ?_⟩
  refine List.forall_mem_cons.mpr ⟨ok_iaload C (show decode cX11_line 344 = .ok (.iaload, 1) by decide +kernel) rfl, ?_⟩
  refine List.forall_mem_cons.mpr ⟨ok_iconst C (show decode cX11_line 345 = .ok (.iconst 1, 1) by decide +kernel) (by decide) rfl, ?_⟩
  refine List.forall_mem_cons.mpr ⟨ok_iload_n C (show decode cX11_line 346 = .ok (.iload_n 3, 1) by decide +kernel) rfl rfl, ?_⟩
  refine List.forall_mem_cons.mpr ⟨ok_ishl C (show decode cX11_line 347 = .ok (.ishl, 1) by decide +kernel) rfl, ?_⟩
  refine List.forall_mem_cons.mpr ⟨ok_ior C (show decode cX11_line 348 = .ok (.ior, 1) by decide +kernel) rfl, ?_⟩
  refine List.forall_mem_cons.mpr ⟨ok_iastore C (show decode cX11_line 349 = .ok (.iastore, 1) by decide +kernel) rfl, ?_⟩
  refine List.forall_mem_cons.mpr ⟨ok_aload_n C (show decode cX11_line 350 = .ok (.aload_n 0, 1) by decide +kernel) rfl rfl, ?_⟩
  refine List.forall_mem_cons.mpr ⟨ok_callV C h_X11_next ⟨rfl, rfl⟩ rfl kw_1322 kw_1319 kw_1321 kp_49 kw_11 rfl ds_X11_next ⟨by decide, by decide⟩ (show decode cX11_line 351 = .ok (.invokevirtual 176, 3) by decide +kernel) rfl, ?_⟩
  refine List.forall_mem_cons.mpr ⟨ok_aload_n C (show decode cX11_line 354 = .ok (.aload_n 0, 1) by decide +kernel) rfl rfl, ?_⟩
  refine List.forall_mem_cons.mpr ⟨ok_iconst C (show decode cX11_line 355 = .ok (.iconst 4, 1) by decide +kernel) (by decide) rfl, ?_⟩
  refine List.forall_mem_cons.mpr ⟨ok_bipush C (show decode cX11_line 356 = .ok (.bipush 12, 2) by decide +kernel) (by decide) rfl, ?_⟩
  refine List.forall_mem_cons.mpr ⟨ok_iload_n C (show decode cX11_line 358 = .ok (.iload_n 1, 1) by decide +kernel) rfl rfl, ?_⟩
  refine List.forall_mem_cons.mpr ⟨ok_imul C (show decode cX11_line 359 = .ok (.imul, 1) by decide +kernel) rfl, ?_⟩
  refine List.forall_mem_cons.mpr ⟨ok_iadd C (show decode cX11_line 360 = .ok (.iadd, 1) by decide +kernel) rfl, ?_⟩
  refine List.forall_mem_cons.mpr ⟨ok_iload_n C (show decode cX11_line 361 = .ok (.iload_n 3, 1) by decide +kernel) rfl rfl, ?_⟩
  refine List.forall_mem_cons.mpr ⟨ok_iadd C (show decode cX11_line 362 = .ok (.iadd, 1) by decide +kernel) rfl, ?_⟩
  refine List.forall_mem_cons.mpr ⟨ok_iconst C (show decode cX11_line 363 = .ok (.iconst 0, 1) by decide +kernel) (by decide) rfl, ?_⟩
  refine List.forall_mem_cons.mpr ⟨ok_iload_n C (show decode cX11_line 364 = .ok (.iload_n 1, 1) by decide +kernel) rfl rfl, ?_⟩
  refine List.forall_mem_cons.mpr ⟨ok_iconst C (show decode cX11_line 365 = .ok (.iconst 2, 1) by decide +kernel) (by decide) rfl, ?_⟩
  refine List.forall_mem_cons.mpr ⟨ok_icmpge C (show decode cX11_line 366 = .ok (.if_icmp .ge 9, 3) by decide +kernel) (tg := 375) (by decide) rfl rfl, ?_⟩
  refine List.forall_mem_cons.mpr ⟨ok_sipush C (show decode cX11_line 369 = .ok (.sipush 250, 3) by decide +kernel) (by decide) rfl, ?_⟩
  refine List.forall_mem_cons.mpr ⟨ok_goto C (show decode cX11_line 372 = .ok (.goto 5, 3) by decide +kernel) (tg := 377) (by decide) rfl, ?_⟩
  refine List.forall_mem_cons.mpr ⟨ok_bipush C (show decode cX11_line 375 = .ok (.bipush 20, 2) by decide +kernel) (by decide) rfl, ?_⟩
  refine List.forall_mem_cons.mpr ⟨ok_callV C h_X11_puts ⟨rfl, rfl⟩ rfl kw_1348 kw_1345 kw_1347 kp_54 kw_11 rfl ds_X11_puts ⟨by decide, by decide⟩ (show decode cX11_line 377 = .ok (.invokevirtual 209, 3) by decide +kernel) rfl, ?_⟩
  refine List.forall_mem_cons.mpr ⟨ok_zret C rfl (show decode cX11_line 380 = .ok (.ireturn, 1) by decide +kernel), ?_⟩
  exact fun _ h => absurd h List.not_mem_nil
