def L_X11_day (f_X11_goingSet : List Value → ab_H → Option ab_O) (f_X11_bitOf : List Value → ab_H → Option ab_O) (f_X11_goesOf : List Value → ab_H → Option ab_O) (f_X11_cell : List Value → ab_H → Option ab_O) (f_X11_eats : List Value → ab_H → Option ab_O) (f_X11_areUnlike : List Value → ab_H → Option ab_O) : List (Nat × ab_A) := [
  (0, ab_nx 1 (ab_lit (.int 1))),
  (1, ab_nx 2 (ab_aload 0)),
  (2, ab_nx 5 (ab_getf 11 6)),
  (5, ab_nx 7 (ab_lit (.int 120))),
  (7, ab_nx 8 (ab_ald 1)),
  (8, ab_nx 9 (ab_lit (.int 2))),
  (9, ab_nx 10 ab_irem),
  (10, ab_nx 11 (ab_bin (fun x y => x - y))),
  (11, ab_nx 12 (ab_istore 1)),
  (12, ab_nx 13 (ab_aload 0)),
  (13, ab_nx 16 (ab_callV 1 11 f_X11_goingSet 0 0 0 0)),
  (16, ab_nx 17 (ab_istore 2)),
  (17, ab_nx 18 (ab_lit (.int 0))),
  (18, ab_nx 19 (ab_istore 3)),
  (19, ab_nx 20 (ab_iload 3)),
  (20, ab_nx 21 (ab_aload 0)),
  (21, ab_nx 24 (ab_getf 11 6)),
  (24, ab_nx 25 (ab_lit (.int 1))),
  (25, ab_nx 26 (ab_ald 1)),
  (26, ab_icmp 29 71 (fun x y => decide (y ≤ x))),
  (29, ab_nx 30 (ab_iload 2)),
  (30, ab_nx 31 (ab_iload 3)),
  (31, ab_nx 34 (ab_call 2 f_X11_bitOf 0 0 0 0)),
  (34, ab_if 37 40 (fun x => !decide (x = 0))),
  (37, ab_goto 65),
  (40, ab_nx 41 (ab_aload 0)),
  (41, ab_nx 44 (ab_getf 11 6)),
  (44, ab_nx 47 (ab_lit (.int 172))),
  (47, ab_nx 48 (ab_iload 3)),
  (48, ab_nx 49 (ab_bin (fun x y => x + y))),
  (49, ab_nx 50 (ab_iload 1)),
  (50, ab_nx 51 (ab_ast 1)),
  (51, ab_nx 52 (ab_aload 0)),
  (52, ab_nx 55 (ab_getf 11 6)),
  (55, ab_nx 58 (ab_lit (.int 181))),
  (58, ab_nx 59 (ab_iload 3)),
  (59, ab_nx 60 (ab_bin (fun x y => x + y))),
  (60, ab_nx 61 ab_dup2),
  (61, ab_nx 62 (ab_ald 1)),
  (62, ab_nx 63 (ab_lit (.int 1))),
  (63, ab_nx 64 (ab_bin (fun x y => x + y))),
  (64, ab_nx 65 (ab_ast 1)),
  (65, ab_nx 68 (ab_iinc 3 1)),
  (68, ab_goto 19),
  (71, ab_nx 72 (ab_lit (.int 0))),
  (72, ab_nx 73 (ab_istore 3)),
  (73, ab_nx 74 (ab_iload 3)),
  (74, ab_nx 75 (ab_aload 0)),
  (75, ab_nx 78 (ab_getf 11 6)),
  (78, ab_nx 79 (ab_lit (.int 0))),
  (79, ab_nx 80 (ab_ald 1)),
  (80, ab_icmp 83 164 (fun x y => decide (y ≤ x))),
  (83, ab_nx 84 (ab_aload 0)),
  (84, ab_nx 85 (ab_iload 3)),
  (85, ab_nx 88 (ab_callV 2 11 f_X11_goesOf 0 0 0 0)),
  (88, ab_nx 90 (ab_istore 4)),
  (90, ab_nx 91 (ab_aload 0)),
  (91, ab_nx 94 (ab_getf 11 6)),
  (94, ab_nx 96 (ab_lit (.int 124))),
  (96, ab_nx 97 (ab_iload 3)),
  (97, ab_nx 98 (ab_lit (.int 1))),
  (98, ab_nx 99 (ab_iload 1)),
  (99, ab_nx 100 (ab_bin (fun x y => x - y))),
  (100, ab_nx 103 (ab_call 2 f_X11_cell 0 0 0 0)),
  (103, ab_nx 104 (ab_bin (fun x y => x + y))),
  (104, ab_nx 105 ab_dup2),
  (105, ab_nx 106 (ab_ald 1)),
  (106, ab_nx 108 (ab_iload 4)),
  (108, ab_nx 109 (ab_bin (fun x y => x - y))),
  (109, ab_nx 110 (ab_ast 1)),
  (110, ab_nx 111 (ab_aload 0)),
  (111, ab_nx 114 (ab_getf 11 6)),
  (114, ab_nx 116 (ab_lit (.int 124))),
  (116, ab_nx 117 (ab_iload 3)),
  (117, ab_nx 118 (ab_iload 1)),
  (118, ab_nx 121 (ab_call 2 f_X11_cell 0 0 0 0)),
  (121, ab_nx 122 (ab_bin (fun x y => x + y))),
  (122, ab_nx 123 ab_dup2),
  (123, ab_nx 124 (ab_ald 1)),
  (124, ab_nx 126 (ab_iload 4)),
  (126, ab_nx 127 (ab_bin (fun x y => x + y))),
  (127, ab_nx 128 (ab_ast 1)),
  (128, ab_nx 129 (ab_aload 0)),
  (129, ab_nx 132 (ab_getf 11 6)),
  (132, ab_nx 135 (ab_lit (.int 160))),
  (135, ab_nx 136 (ab_iload 3)),
  (136, ab_nx 137 (ab_iload 1)),
  (137, ab_nx 140 (ab_call 2 f_X11_cell 0 0 0 0)),
  (140, ab_nx 141 (ab_bin (fun x y => x + y))),
  (141, ab_nx 142 ab_dup2),
  (142, ab_nx 143 (ab_ald 1)),
  (143, ab_nx 145 (ab_iload 4)),
  (145, ab_nx 146 (ab_bin (fun x y => x + y))),
  (146, ab_nx 147 (ab_ast 1)),
  (147, ab_nx 148 (ab_aload 0)),
  (148, ab_nx 149 ab_dup),
  (149, ab_nx 152 (ab_getf 11 22)),
  (152, ab_nx 154 (ab_iload 4)),
  (154, ab_nx 155 (ab_bin (fun x y => x - y))),
  (155, ab_nx 158 (ab_putf 11 22 0)),
  (158, ab_nx 161 (ab_iinc 3 1)),
  (161, ab_goto 73),
  (164, ab_nx 165 (ab_aload 0)),
  (165, ab_nx 168 (ab_getf 11 6)),
  (168, ab_nx 170 (ab_lit (.int 122))),
  (170, ab_nx 171 ab_dup2),
  (171, ab_nx 172 (ab_ald 1)),
  (172, ab_nx 173 (ab_aload 0)),
  (173, ab_nx 176 (ab_getf 11 6)),
  (176, ab_nx 177 (ab_lit (.int 2))),
  (177, ab_nx 178 (ab_ald 1)),
  (178, ab_nx 179 (ab_aload 0)),
  (179, ab_nx 182 (ab_getf 11 22)),
  (182, ab_nx 183 (ab_bin (fun x y => x - y))),
  (183, ab_nx 184 (ab_bin (fun x y => x + y))),
  (184, ab_nx 185 (ab_ast 1)),
  (185, ab_nx 186 (ab_aload 0)),
  (186, ab_nx 189 (ab_getf 11 6)),
  (189, ab_nx 191 (ab_lit (.int 121))),
  (191, ab_nx 192 ab_dup2),
  (192, ab_nx 193 (ab_ald 1)),
  (193, ab_nx 194 (ab_aload 0)),
  (194, ab_nx 197 (ab_getf 11 22)),
  (197, ab_nx 198 (ab_aload 0)),
  (198, ab_nx 201 (ab_getf 11 6)),
  (201, ab_nx 202 (ab_lit (.int 2))),
  (202, ab_nx 203 (ab_ald 1)),
  (203, ab_icmp 206 210 (fun x y => !decide (x = y))),
  (206, ab_nx 207 (ab_lit (.int 1))),
  (207, ab_goto 211),
  (210, ab_nx 211 (ab_lit (.int 0))),
  (211, ab_nx 212 (ab_bin (fun x y => x + y))),
  (212, ab_nx 213 (ab_ast 1)),
  (213, ab_nx 214 (ab_lit (.int 0))),
  (214, ab_nx 215 (ab_istore 3)),
  (215, ab_nx 216 (ab_iload 3)),
  (216, ab_nx 217 (ab_lit (.int 2))),
  (217, ab_nx 218 (ab_aload 0)),
  (218, ab_nx 221 (ab_getf 11 6)),
  (221, ab_nx 222 (ab_lit (.int 0))),
  (222, ab_nx 223 (ab_ald 1)),
  (223, ab_nx 224 (ab_bin (fun x y => x * y))),
  (224, ab_icmp 227 238 (fun x y => decide (y ≤ x))),
  (227, ab_nx 228 (ab_aload 0)),
  (228, ab_nx 229 (ab_iload 3)),
  (229, ab_nx 232 (ab_callV 2 11 f_X11_eats 0 0 0 0)),
  (232, ab_nx 235 (ab_iinc 3 1)),
  (235, ab_goto 215),
  (238, ab_nx 239 (ab_lit (.int 0))),
  (239, ab_nx 240 (ab_istore 3)),
  (240, ab_nx 241 (ab_iload 3)),
  (241, ab_nx 242 (ab_aload 0)),
  (242, ab_nx 245 (ab_getf 11 6)),
  (245, ab_nx 246 (ab_lit (.int 1))),
  (246, ab_nx 247 (ab_ald 1)),
  (247, ab_icmp 250 324 (fun x y => decide (y ≤ x))),
  (250, ab_nx 251 (ab_lit (.int 0))),
  (251, ab_nx 253 (ab_istore 4)),
  (253, ab_nx 255 (ab_iload 4)),
  (255, ab_nx 256 (ab_aload 0)),
  (256, ab_nx 259 (ab_getf 11 6)),
  (259, ab_nx 260 (ab_lit (.int 1))),
  (260, ab_nx 261 (ab_ald 1)),
  (261, ab_icmp 264 318 (fun x y => decide (y ≤ x))),
  (264, ab_nx 265 (ab_aload 0)),
  (265, ab_nx 268 (ab_getf 11 6)),
  (268, ab_nx 271 (ab_lit (.int 189))),
  (271, ab_nx 273 (ab_lit (.int 8))),
  (273, ab_nx 274 (ab_iload 3)),
  (274, ab_nx 275 (ab_bin (fun x y => x * y))),
  (275, ab_nx 276 (ab_bin (fun x y => x + y))),
  (276, ab_nx 278 (ab_iload 4)),
  (278, ab_nx 279 (ab_bin (fun x y => x + y))),
  (279, ab_nx 280 (ab_aload 0)),
  (280, ab_nx 281 (ab_iload 3)),
  (281, ab_nx 283 (ab_iload 4)),
  (283, ab_nx 286 (ab_callV 3 11 f_X11_areUnlike 0 0 0 0)),
  (286, ab_if 289 310 (fun x => decide (x = 0))),
  (289, ab_nx 290 (ab_aload 0)),
  (290, ab_nx 293 (ab_getf 11 6)),
  (293, ab_nx 296 (ab_lit (.int 189))),
  (296, ab_nx 298 (ab_lit (.int 8))),
  (298, ab_nx 299 (ab_iload 3)),
  (299, ab_nx 300 (ab_bin (fun x y => x * y))),
  (300, ab_nx 301 (ab_bin (fun x y => x + y))),
  (301, ab_nx 303 (ab_iload 4)),
  (303, ab_nx 304 (ab_bin (fun x y => x + y))),
  (304, ab_nx 305 (ab_ald 1)),
  (305, ab_nx 306 (ab_lit (.int 1))),
  (306, ab_nx 307 (ab_bin (fun x y => x + y))),
  (307, ab_goto 311),
  (310, ab_nx 311 (ab_lit (.int 0))),
  (311, ab_nx 312 (ab_ast 1)),
  (312, ab_nx 315 (ab_iinc 4 1)),
  (315, ab_goto 253),
  (318, ab_nx 321 (ab_iinc 3 1)),
  (321, ab_goto 240),
  (324, ab_nx 325 (ab_aload 0)),
  (325, ab_nx 328 (ab_getf 11 6)),
  (328, ab_nx 330 (ab_lit (.int 120))),
  (330, ab_nx 331 ab_dup2),
  (331, ab_nx 332 (ab_ald 1)),
  (332, ab_nx 333 (ab_lit (.int 1))),
  (333, ab_nx 334 (ab_bin (fun x y => x + y))),
  (334, ab_nx 335 (ab_ast 1)),
  (335, ab_vret 0 0)]
set_option maxRecDepth 100000 in
set_option maxHeartbeats 4000000 in
theorem M_X11_day {l : Launch} {b : ab_B} {D : va_G} {cA : Nat → ClassId} {f_X11_goingSet : List Value → ab_H → Option ab_O} (h_X11_goingSet : ab_M l b D ab_cl cA (ab_E0 b) yX11_goingSet (Cond.code yX11_goingSet cX11_goingSet 4 (some .int) :: ab_G) ({ frames := 6, cells := 0, slots := 0, locals := 600 } : Room) f_X11_goingSet) {f_X11_bitOf : List Value → ab_H → Option ab_O} (h_X11_bitOf : ab_M l b D ab_cl cA (ab_E0 b) yX11_bitOf (Cond.code yX11_bitOf cX11_bitOf 2 (some .boolean) :: ab_G) ({ frames := 1, cells := 0, slots := 0, locals := 100 } : Room) f_X11_bitOf) {f_X11_goesOf : List Value → ab_H → Option ab_O} (h_X11_goesOf : ab_M l b D ab_cl cA (ab_E0 b) yX11_goesOf (Cond.code yX11_goesOf cX11_goesOf 3 (some .int) :: ab_G) ({ frames := 3, cells := 0, slots := 0, locals := 300 } : Room) f_X11_goesOf) {f_X11_cell : List Value → ab_H → Option ab_O} (h_X11_cell : ab_M l b D ab_cl cA (ab_E0 b) yX11_cell (Cond.code yX11_cell cX11_cell 2 (some .int) :: ab_G) ({ frames := 1, cells := 0, slots := 0, locals := 100 } : Room) f_X11_cell) {f_X11_eats : List Value → ab_H → Option ab_O} (h_X11_eats : ab_M l b D ab_cl cA (ab_E0 b) yX11_eats (Cond.code yX11_eats cX11_eats 3 none :: ab_G) ({ frames := 2, cells := 0, slots := 0, locals := 200 } : Room) f_X11_eats) {f_X11_areUnlike : List Value → ab_H → Option ab_O} (h_X11_areUnlike : ab_M l b D ab_cl cA (ab_E0 b) yX11_areUnlike (Cond.code yX11_areUnlike cX11_areUnlike 3 (some .boolean) :: ab_G) ({ frames := 3, cells := 0, slots := 0, locals := 300 } : Room) f_X11_areUnlike) : ab_M l b D ab_cl cA (ab_E0 b) yX11_day (Cond.code yX11_day cX11_day 5 none :: ab_G) ({ frames := 7, cells := 0, slots := 0, locals := 700 } : Room) (ab_X (ab_T (L_X11_day f_X11_goingSet f_X11_bitOf f_X11_goesOf f_X11_cell f_X11_eats f_X11_areUnlike)) 5) := by
  refine ab_meth (ret := none) (L_X11_day f_X11_goingSet f_X11_bitOf f_X11_goesOf f_X11_cell f_X11_eats f_X11_areUnlike) (by decide) rfl fun p e R s m args below meth c o C => ?_
  unfold L_X11_day
  refine List.forall_mem_cons.mpr ⟨ok_iconst C (show decode cX11_day 0 = .ok (.iconst 1, 1) by decide +kernel) (by decide) rfl, ?_⟩
  refine List.forall_mem_cons.mpr ⟨ok_aload_n C (show decode cX11_day 1 = .ok (.aload_n 0, 1) by decide +kernel) rfl rfl, ?_⟩
  refine List.forall_mem_cons.mpr ⟨ok_getf C (wi_X11) rfl (by decide) kw_1186 (show decode cX11_day 2 = .ok (.getfield 33, 3) by decide +kernel) rfl, ?_⟩
  refine List.forall_mem_cons.mpr ⟨ok_bipush C (show decode cX11_day 5 = .ok (.bipush 120, 2) by decide +kernel) (by decide) rfl, ?_⟩
  refine List.forall_mem_cons.mpr ⟨ok_iaload C (show decode cX11_day 7 = .ok (.iaload, 1) by decide +kernel) rfl, ?_⟩
  refine List.forall_mem_cons.mpr ⟨ok_iconst C (show decode cX11_day 8 = .ok (.iconst 2, 1) by decide +kernel) (by decide) rfl, ?_⟩
  refine List.forall_mem_cons.mpr ⟨ok_irem C (show decode cX11_day 9 = .ok (.irem, 1) by decide +kernel) rfl, ?_⟩
  refine List.forall_mem_cons.mpr ⟨ok_isub C (show decode cX11_day 10 = .ok (.isub, 1) by decide +kernel) rfl, ?_⟩
  refine List.forall_mem_cons.mpr ⟨ok_istore_n C (show decode cX11_day 11 = .ok (.istore_n 1, 1) by decide +kernel) rfl (by decide) rfl, ?_⟩
  refine List.forall_mem_cons.mpr ⟨ok_aload_n C (show decode cX11_day 12 = .ok (.aload_n 0, 1) by decide +kernel) rfl rfl, ?_⟩
  refine List.forall_mem_cons.mpr ⟨ok_callV C h_X11_goingSet ⟨rfl, rfl⟩ rfl kw_1517 kw_1514 kw_1516 kp_83 kw_11 rfl ds_X11_goingSet ⟨by decide, by decide⟩ (show decode cX11_day 13 = .ok (.invokevirtual 289, 3) by decide +kernel) rfl, ?_⟩
  refine List.forall_mem_cons.mpr ⟨ok_istore_n C (show decode cX11_day 16 = .ok (.istore_n 2, 1) by decide +kernel) rfl (by decide) rfl, ?_⟩
  refine List.forall_mem_cons.mpr ⟨ok_iconst C (show decode cX11_day 17 = .ok (.iconst 0, 1) by decide +kernel) (by decide) rfl, ?_⟩
  refine List.forall_mem_cons.mpr ⟨ok_istore_n C (show decode cX11_day 18 = .ok (.istore_n 3, 1) by decide +kernel) rfl (by decide) rfl, ?_⟩
  refine List.forall_mem_cons.mpr ⟨ok_iload_n C (show decode cX11_day 19 = .ok (.iload_n 3, 1) by decide +kernel) rfl rfl, ?_⟩
  refine List.forall_mem_cons.mpr ⟨ok_aload_n C (show decode cX11_day 20 = .ok (.aload_n 0, 1) by decide +kernel) rfl rfl, ?_⟩
  refine List.forall_mem_cons.mpr ⟨ok_getf C (wi_X11) rfl (by decide) kw_1186 (show decode cX11_day 21 = .ok (.getfield 33, 3) by decide +kernel) rfl, ?_⟩
  refine List.forall_mem_cons.mpr ⟨ok_iconst C (show decode cX11_day 24 = .ok (.iconst 1, 1) by decide +kernel) (by decide) rfl, ?_⟩
  refine List.forall_mem_cons.mpr ⟨ok_iaload C (show decode cX11_day 25 = .ok (.iaload, 1) by decide +kernel) rfl, ?_⟩
  refine List.forall_mem_cons.mpr ⟨ok_icmpge C (show decode cX11_day 26 = .ok (.if_icmp .ge 45, 3) by decide +kernel) (tg := 71) (by decide) rfl rfl, ?_⟩
  refine List.forall_mem_cons.mpr ⟨ok_iload_n C (show decode cX11_day 29 = .ok (.iload_n 2, 1) by decide +kernel) rfl rfl, ?_⟩
  refine List.forall_mem_cons.mpr ⟨ok_iload_n C (show decode cX11_day 30 = .ok (.iload_n 3, 1) by decide +kernel) rfl rfl, ?_⟩
  refine List.forall_mem_cons.mpr ⟨ok_callS C h_X11_bitOf ⟨rfl, rfl⟩ kw_1382 kw_1380 kw_1381 kw_11 ds_X11_bitOf ⟨by decide, by decide⟩ (show decode cX11_day 31 = .ok (.invokestatic 221, 3) by decide +kernel) rfl, ?_⟩
  refine List.forall_mem_cons.mpr ⟨ok_ifne C (show decode cX11_day 34 = .ok (.ifCond .ne 6, 3) by decide +kernel) (tg := 40) (by decide) rfl rfl, ?_⟩
  refine List.forall_mem_cons.mpr ⟨ok_goto C (show decode cX11_day 37 = .ok (.goto 28, 3) by decide +kernel) (tg := 65) (by decide) rfl, ?_⟩
  refine List.forall_mem_cons.mpr ⟨ok_aload_n C (show decode cX11_day 40 = .ok (.aload_n 0, 1) by decide +kernel) rfl rfl, ?_⟩
  refine List.forall_mem_cons.mpr ⟨ok_getf C (wi_X11) rfl (by decide) kw_1186 (show decode cX11_day 41 = .ok (.getfield 33, 3) by decide +kernel) rfl, ?_⟩
  refine List.forall_mem_cons.mpr ⟨ok_sipush C (show decode cX11_day 44 = .ok (.sipush 172, 3) by decide +kernel) (by decide) rfl, ?_⟩
  refine List.forall_mem_cons.mpr ⟨ok_iload_n C (show decode cX11_day 47 = .ok (.iload_n 3, 1) by decide +kernel) rfl rfl, ?_⟩
  refine List.forall_mem_cons.mpr ⟨ok_iadd C (show decode cX11_day 48 = .ok (.iadd, 1) by decide +kernel) rfl, ?_⟩
  refine List.forall_mem_cons.mpr ⟨ok_iload_n C (show decode cX11_day 49 = .ok (.iload_n 1, 1) by decide +kernel) rfl rfl, ?_⟩
  refine List.forall_mem_cons.mpr ⟨ok_iastore C (show decode cX11_day 50 = .ok (.iastore, 1) by decide +kernel) rfl, ?_⟩
  refine List.forall_mem_cons.mpr ⟨ok_aload_n C (show decode cX11_day 51 = .ok (.aload_n 0, 1) by decide +kernel) rfl rfl, ?_⟩
  refine List.forall_mem_cons.mpr ⟨ok_getf C (wi_X11) rfl (by decide) kw_1186 (show decode cX11_day 52 = .ok (.getfield 33, 3) by decide +kernel) rfl, ?_⟩
  refine List.forall_mem_cons.mpr ⟨ok_sipush C (show decode cX11_day 55 = .ok (.sipush 181, 3) by decide +kernel) (by decide) rfl, ?_⟩
  refine List.forall_mem_cons.mpr ⟨ok_iload_n C (show decode cX11_day 58 = .ok (.iload_n 3, 1) by decide +kernel) rfl rfl, ?_⟩
  refine List.forall_mem_cons.mpr ⟨ok_iadd C (show decode cX11_day 59 = .ok (.iadd, 1) by decide +kernel) rfl, ?_⟩
  refine List.forall_mem_cons.mpr ⟨ok_dup2 C (show decode cX11_day 60 = .ok (.dup2, 1) by decide +kernel) rfl, ?_⟩
  refine List.forall_mem_cons.mpr ⟨ok_iaload C (show decode cX11_day 61 = .ok (.iaload, 1) by decide +kernel) rfl, ?_⟩
  refine List.forall_mem_cons.mpr ⟨ok_iconst C (show decode cX11_day 62 = .ok (.iconst 1, 1) by decide +kernel) (by decide) rfl, ?_⟩
  refine List.forall_mem_cons.mpr ⟨ok_iadd C (show decode cX11_day 63 = .ok (.iadd, 1) by decide +kernel) rfl, ?_⟩
  refine List.forall_mem_cons.mpr ⟨ok_iastore C (show decode cX11_day 64 = .ok (.iastore, 1) by decide +kernel) rfl, ?_⟩
  refine List.forall_mem_cons.mpr ⟨ok_iinc C (show decode cX11_day 65 = .ok (.iinc 3 1, 3) by decide +kernel) (by decide) (by decide) rfl, ?_⟩
  refine List.forall_mem_cons.mpr ⟨ok_goto C (show decode cX11_day 68 = .ok (.goto (-49), 3) by decide +kernel) (tg := 19) (by decide) rfl, ?_⟩
  refine List.forall_mem_cons.mpr ⟨ok_iconst C (show decode cX11_day 71 = .ok (.iconst 0, 1) by decide +kernel) (by decide) rfl, ?_⟩
  refine List.forall_mem_cons.mpr ⟨ok_istore_n C (show decode cX11_day 72 = .ok (.istore_n 3, 1) by decide +kernel) rfl (by decide) rfl, ?_⟩
  refine List.forall_mem_cons.mpr ⟨ok_iload_n C (show decode cX11_day 73 = .ok (.iload_n 3, 1) by decide +kernel) rfl rfl, ?_⟩
  refine List.forall_mem_cons.mpr ⟨ok_aload_n C (show decode cX11_day 74 = .ok (.aload_n 0, 1) by decide +kernel) rfl rfl, ?_⟩
  refine List.forall_mem_cons.mpr ⟨ok_getf C (wi_X11) rfl (by decide) kw_1186 (show decode cX11_day 75 = .ok (.getfield 33, 3) by decide +kernel) rfl, ?_⟩
  refine List.forall_mem_cons.mpr ⟨ok_iconst C (show decode cX11_day 78 = .ok (.iconst 0, 1) by decide +kernel) (by decide) rfl, ?_⟩
  refine List.forall_mem_cons.mpr ⟨ok_iaload C (show decode cX11_day 79 = .ok (.iaload, 1) by decide +kernel) rfl, ?_⟩
  refine List.forall_mem_cons.mpr ⟨ok_icmpge C (show decode cX11_day 80 = .ok (.if_icmp .ge 84, 3) by decide +kernel) (tg := 164) (by decide) rfl rfl, ?_⟩
  refine List.forall_mem_cons.mpr ⟨ok_aload_n C (show decode cX11_day 83 = .ok (.aload_n 0, 1) by decide +kernel) rfl rfl, ?_⟩
  refine List.forall_mem_cons.mpr ⟨ok_iload_n C (show decode cX11_day 84 = .ok (.iload_n 3, 1) by decide +kernel) rfl rfl, ?_⟩
  refine List.forall_mem_cons.mpr ⟨ok_callV C h_X11_goesOf ⟨rfl, rfl⟩ rfl kw_1521 kw_1518 kw_1520 kp_84 kw_11 rfl ds_X11_goesOf ⟨by decide, by decide⟩ (show decode cX11_day 85 = .ok (.invokevirtual 292, 3) by decide +kernel) rfl, ?_⟩
  refine List.forall_mem_cons.mpr ⟨ok_istore C (show decode cX11_day 88 = .ok (.istore 4, 2) by decide +kernel) (by decide) rfl, ?_⟩
  refine List.forall_mem_cons.mpr ⟨ok_aload_n C (show decode cX11_day 90 = .ok (.aload_n 0, 1) by decide +kernel) rfl rfl, ?_⟩
  refine List.forall_mem_cons.mpr ⟨ok_getf C (wi_X11) rfl (by decide) kw_1186 (show decode cX11_day 91 = .ok (.getfield 33, 3) by decide +kernel) rfl, ?_⟩
  refine List.forall_mem_cons.mpr ⟨ok_bipush C (show decode cX11_day 94 = .ok (.bipush 124, 2) by decide +kernel) (by decide) rfl, ?_⟩
  refine List.forall_mem_cons.mpr ⟨ok_iload_n C (show decode cX11_day 96 = .ok (.iload_n 3, 1) by decide +kernel) rfl rfl, ?_⟩
  refine List.forall_mem_cons.mpr ⟨ok_iconst C (show decode cX11_day 97 = .ok (.iconst 1, 1) by decide +kernel) (by decide) rfl, ?_⟩
  refine List.forall_mem_cons.mpr ⟨ok_iload_n C (show decode cX11_day 98 = .ok (.iload_n 1, 1) by decide +kernel) rfl rfl, ?_⟩
  refine List.forall_mem_cons.mpr ⟨ok_isub C (show decode cX11_day 99 = .ok (.isub, 1) by decide +kernel) rfl, ?_⟩
  refine List.forall_mem_cons.mpr ⟨ok_callS C h_X11_cell ⟨rfl, rfl⟩ kw_1413 kw_1411 kw_1412 kw_11 ds_X11_cell ⟨by decide, by decide⟩ (show decode cX11_day 100 = .ok (.invokestatic 245, 3) by decide +kernel) rfl, ?_⟩
  refine List.forall_mem_cons.mpr ⟨ok_iadd C (show decode cX11_day 103 = .ok (.iadd, 1) by decide +kernel) rfl, ?_⟩
  refine List.forall_mem_cons.mpr ⟨ok_dup2 C (show decode cX11_day 104 = .ok (.dup2, 1) by decide +kernel) rfl, ?_⟩
  refine List.forall_mem_cons.mpr ⟨ok_iaload C (show decode cX11_day 105 = .ok (.iaload, 1) by decide +kernel) rfl, ?_⟩
  refine List.forall_mem_cons.mpr ⟨ok_iload C (show decode cX11_day 106 = .ok (.iload 4, 2) by decide +kernel) rfl, ?_⟩
  refine List.forall_mem_cons.mpr ⟨ok_isub C (show decode cX11_day 108 = .ok (.isub, 1) by decide +kernel) rfl, ?_⟩
  refine List.forall_mem_cons.mpr ⟨ok_iastore C (show decode cX11_day 109 = .ok (.iastore, 1) by decide +kernel) rfl, ?_⟩
  refine List.forall_mem_cons.mpr ⟨ok_aload_n C (show decode cX11_day 110 = .ok (.aload_n 0, 1) by decide +kernel) rfl rfl, ?_⟩
  refine List.forall_mem_cons.mpr ⟨ok_getf C (wi_X11) rfl (by decide) kw_1186 (show decode cX11_day 111 = .ok (.getfield 33, 3) by decide +kernel) rfl, ?_⟩
  refine List.forall_mem_cons.mpr ⟨ok_bipush C (show decode cX11_day 114 = .ok (.bipush 124, 2) by decide +kernel) (by decide) rfl, ?_⟩
  refine List.forall_mem_cons.mpr ⟨ok_iload_n C (show decode cX11_day 116 = .ok (.iload_n 3, 1) by decide +kernel) rfl rfl, ?_⟩
  refine List.forall_mem_cons.mpr ⟨ok_iload_n C (show decode cX11_day 117 = .ok (.iload_n 1, 1) by decide +kernel) rfl rfl, ?_⟩
  refine List.forall_mem_cons.mpr ⟨ok_callS C h_X11_cell ⟨rfl, rfl⟩ kw_1413 kw_1411 kw_1412 kw_11 ds_X11_cell ⟨by decide, by decide⟩ (show decode cX11_day 118 = .ok (.invokestatic 245, 3) by decide +kernel) rfl, ?_⟩
  refine List.forall_mem_cons.mpr ⟨ok_iadd C (show decode cX11_day 121 = .ok (.iadd, 1) by decide +kernel) rfl, ?_⟩
  refine List.forall_mem_cons.mpr ⟨ok_dup2 C (show decode cX11_day 122 = .ok (.dup2, 1) by decide +kernel) rfl, ?_⟩
  refine List.forall_mem_cons.mpr ⟨ok_iaload C (show decode cX11_day 123 = .ok (.iaload, 1) by decide +kernel) rfl, ?_⟩
  refine List.forall_mem_cons.mpr ⟨ok_iload C (show decode cX11_day 124 = .ok (.iload 4, 2) by decide +kernel) rfl, ?_⟩
  refine List.forall_mem_cons.mpr ⟨ok_iadd C (show decode cX11_day 126 = .ok (.iadd, 1) by decide +kernel) rfl, ?_⟩
  refine List.forall_mem_cons.mpr ⟨ok_iastore C (show decode cX11_day 127 = .ok (.iastore, 1) by decide +kernel) rfl, ?_⟩
  refine List.forall_mem_cons.mpr ⟨ok_aload_n C (show decode cX11_day 128 = .ok (.aload_n 0, 1) by decide +kernel) rfl rfl, ?_⟩
  refine List.forall_mem_cons.mpr ⟨ok_getf C (wi_X11) rfl (by decide) kw_1186 (show decode cX11_day 129 = .ok (.getfield 33, 3) by decide +kernel) rfl, ?_⟩
  refine List.forall_mem_cons.mpr ⟨ok_sipush C (show decode cX11_day 132 = .ok (.sipush 160, 3) by decide +kernel) (by decide) rfl, ?_⟩
  refine List.forall_mem_cons.mpr ⟨ok_iload_n C (show decode cX11_day 135 = .ok (.iload_n 3, 1) by decide +kernel) rfl rfl, ?_⟩
  refine List.forall_mem_cons.mpr ⟨ok_iload_n C (show decode cX11_day 136 = .ok (.iload_n 1, 1) by decide +kernel) rfl rfl, ?_⟩
  refine List.forall_mem_cons.mpr ⟨ok_callS C h_X11_cell ⟨rfl, rfl⟩ kw_1413 kw_1411 kw_1412 kw_11 ds_X11_cell ⟨by decide, by decide⟩ (show decode cX11_day 137 = .ok (.invokestatic 245, 3) by decide +kernel) rfl, ?_⟩
  refine List.forall_mem_cons.mpr ⟨ok_iadd C (show decode cX11_day 140 = .ok (.iadd, 1) by decide +kernel) rfl, ?_⟩
  refine List.forall_mem_cons.mpr ⟨ok_dup2 C (show decode cX11_day 141 = .ok (.dup2, 1) by decide +kernel) rfl, ?_⟩
  refine List.forall_mem_cons.mpr ⟨ok_iaload C (show decode cX11_day 142 = .ok (.iaload, 1) by decide +kernel) rfl, ?_⟩
  refine List.forall_mem_cons.mpr ⟨ok_iload C (show decode cX11_day 143 = .ok (.iload 4, 2) by decide +kernel) rfl, ?_⟩
  refine List.forall_mem_cons.mpr ⟨ok_iadd C (show decode cX11_day 145 = .ok (.iadd, 1) by decide +kernel) rfl, ?_⟩
  refine List.forall_mem_cons.mpr ⟨ok_iastore C (show decode cX11_day 146 = .ok (.iastore, 1) by decide +kernel) rfl, ?_⟩
  refine List.forall_mem_cons.mpr ⟨ok_aload_n C (show decode cX11_day 147 = .ok (.aload_n 0, 1) by decide +kernel) rfl rfl, ?_⟩
  refine List.forall_mem_cons.mpr ⟨ok_dup C (show decode cX11_day 148 = .ok (.dup, 1) by decide +kernel) rfl, ?_⟩
  refine List.forall_mem_cons.mpr ⟨ok_getf C (wi_X11) rfl (by decide) kw_1202 (show decode cX11_day 149 = .ok (.getfield 283, 3) by decide +kernel) rfl, ?_⟩
  refine List.forall_mem_cons.mpr ⟨ok_iload C (show decode cX11_day 152 = .ok (.iload 4, 2) by decide +kernel) rfl, ?_⟩
  refine List.forall_mem_cons.mpr ⟨ok_isub C (show decode cX11_day 154 = .ok (.isub, 1) by decide +kernel) rfl, ?_⟩
  refine List.forall_mem_cons.mpr ⟨ok_putf C (wi_X11) tyX11 tyX11_ok nmX11 rfl (by decide) kw_1202 (Or.inl rfl) (Or.inl ⟨rfl, rfl⟩) (show decode cX11_day 155 = .ok (.putfield 283, 3) by decide +kernel) rfl, ?_⟩
  refine List.forall_mem_cons.mpr ⟨ok_iinc C (show decode cX11_day 158 = .ok (.iinc 3 1, 3) by decide +kernel) (by decide) (by decide) rfl, ?_⟩
  refine List.forall_mem_cons.mpr ⟨ok_goto C (show decode cX11_day 161 = .ok (.goto (-88), 3) by decide +kernel) (tg := 73) (by decide) rfl, ?_⟩
  refine List.forall_mem_cons.mpr ⟨ok_aload_n C (show decode cX11_day 164 = .ok (.aload_n 0, 1) by decide +kernel) rfl rfl, ?_⟩
  refine List.forall_mem_cons.mpr ⟨ok_getf C (wi_X11) rfl (by decide) kw_1186 (show decode cX11_day 165 = .ok (.getfield 33, 3) by decide +kernel) rfl, ?_⟩
  refine List.forall_mem_cons.mpr ⟨ok_bipush C (show decode cX11_day 168 = .ok (.bipush 122, 2) by decide +kernel) (by decide) rfl, ?_⟩
  refine List.forall_mem_cons.mpr ⟨ok_dup2 C (show decode cX11_day 170 = .ok (.dup2, 1) by decide +kernel) rfl, ?_⟩
  refine List.forall_mem_cons.mpr ⟨ok_iaload C (show decode cX11_day 171 = .ok (.iaload, 1) by decide +kernel) rfl, ?_⟩
  refine List.forall_mem_cons.mpr ⟨ok_aload_n C (show decode cX11_day 172 = .ok (.aload_n 0, 1) by decide +kernel) rfl rfl, ?_⟩
  refine List.forall_mem_cons.mpr ⟨ok_getf C (wi_X11) rfl (by decide) kw_1186 (show decode cX11_day 173 = .ok (.getfield 33, 3) by decide +kernel) rfl, ?_⟩
  refine List.forall_mem_cons.mpr ⟨ok_iconst C (show decode cX11_day 176 = .ok (.iconst 2, 1) by decide +kernel) (by decide) rfl, ?_⟩
  refine List.forall_mem_cons.mpr ⟨ok_iaload C (show decode cX11_day 177 = .ok (.iaload, 1) by decide +kernel) rfl, ?_⟩
  refine List.forall_mem_cons.mpr ⟨ok_aload_n C (show decode cX11_day 178 = .ok (.aload_n 0, 1) by decide +kernel) rfl rfl, ?_⟩
  refine List.forall_mem_cons.mpr ⟨ok_getf C (wi_X11) rfl (by decide) kw_1202 (show decode cX11_day 179 = .ok (.getfield 283, 3) by decide +kernel) rfl, ?_⟩
  refine List.forall_mem_cons.mpr ⟨ok_isub C (show decode cX11_day 182 = .ok (.isub, 1) by decide +kernel) rfl, ?_⟩
  refine List.forall_mem_cons.mpr ⟨ok_iadd C (show decode cX11_day 183 = .ok (.iadd, 1) by decide +kernel) rfl, ?_⟩
  refine List.forall_mem_cons.mpr ⟨ok_iastore C (show decode cX11_day 184 = .ok (.iastore, 1) by decide +kernel) rfl, ?_⟩
  refine List.forall_mem_cons.mpr ⟨ok_aload_n C (show decode cX11_day 185 = .ok (.aload_n 0, 1) by decide +kernel) rfl rfl, ?_⟩
  refine List.forall_mem_cons.mpr ⟨ok_getf C (wi_X11) rfl (by decide) kw_1186 (show decode cX11_day 186 = .ok (.getfield 33, 3) by decide +kernel) rfl, ?_⟩
  refine List.forall_mem_cons.mpr ⟨ok_bipush C (show decode cX11_day 189 = .ok (.bipush 121, 2) by decide +kernel) (by decide) rfl, ?_⟩
  refine List.forall_mem_cons.mpr ⟨ok_dup2 C (show decode cX11_day 191 = .ok (.dup2, 1) by decide +kernel) rfl, ?_⟩
  refine List.forall_mem_cons.mpr ⟨ok_iaload C (show decode cX11_day 192 = .ok (.iaload, 1) by decide +kernel) rfl, ?_⟩
  refine List.forall_mem_cons.mpr ⟨ok_aload_n C (show decode cX11_day 193 = .ok (.aload_n 0, 1) by decide +kernel) rfl rfl, ?_⟩
  refine List.forall_mem_cons.mpr ⟨ok_getf C (wi_X11) rfl (by decide) kw_1202 (show decode cX11_day 194 = .ok (.getfield 283, 3) by decide +kernel) rfl, ?_⟩
  refine List.forall_mem_cons.mpr ⟨ok_aload_n C (show decode cX11_day 197 = .ok (.aload_n 0, 1) by decide +kernel) rfl rfl, ?_⟩
  refine List.forall_mem_cons.mpr ⟨ok_getf C (wi_X11) rfl (by decide) kw_1186 (show decode cX11_day 198 = .ok (.getfield 33, 3) by decide +kernel) rfl, ?_⟩
  refine List.forall_mem_cons.mpr ⟨ok_iconst C (show decode cX11_day 201 = .ok (.iconst 2, 1) by decide +kernel) (by decide) rfl, ?_⟩
  refine List.forall_mem_cons.mpr ⟨ok_iaload C (show decode cX11_day 202 = .ok (.iaload, 1) by decide +kernel) rfl, ?_⟩
  refine List.forall_mem_cons.mpr ⟨ok_icmpne C (show decode cX11_day 203 = .ok (.if_icmp .ne 7, 3) by decide +kernel) (tg := 210) (by decide) rfl rfl, ?_⟩
  refine List.forall_mem_cons.mpr ⟨ok_iconst C (show decode cX11_day 206 = .ok (.iconst 1, 1) by decide +kernel) (by decide) rfl, ?_⟩
  refine List.forall_mem_cons.mpr ⟨ok_goto C (show decode cX11_day 207 = .ok (.goto 4, 3) by decide +kernel) (tg := 211) (by decide) rfl, ?_⟩
  refine List.forall_mem_cons.mpr ⟨ok_iconst C (show decode cX11_day 210 = .ok (.iconst 0, 1) by decide +kernel) (by decide) rfl, ?_⟩
  refine List.forall_mem_cons.mpr ⟨ok_iadd C (show decode cX11_day 211 = .ok (.iadd, 1) by decide +kernel) rfl, ?_⟩
  refine List.forall_mem_cons.mpr ⟨ok_iastore C (show decode cX11_day 212 = .ok (.iastore, 1) by decide +kernel) rfl, ?_⟩
  refine List.forall_mem_cons.mpr ⟨ok_iconst C (show decode cX11_day 213 = .ok (.iconst 0, 1) by decide +kernel) (by decide) rfl, ?_⟩
  refine List.forall_mem_cons.mpr ⟨ok_istore_n C (show decode cX11_day 214 = .ok (.istore_n 3, 1) by decide +kernel) rfl (by decide) rfl, ?_⟩
  refine List.forall_mem_cons.mpr ⟨ok_iload_n C (show decode cX11_day 215 = .ok (.iload_n 3, 1) by decide +kernel) rfl rfl, ?_⟩
  refine List.forall_mem_cons.mpr ⟨ok_iconst C (show decode cX11_day 216 = .ok (.iconst 2, 1) by decide +kernel) (by decide) rfl, ?_⟩
  refine List.forall_mem_cons.mpr ⟨ok_aload_n C (show decode cX11_day 217 = .ok (.aload_n 0, 1) by decide +kernel) rfl rfl, ?_⟩
  refine List.forall_mem_cons.mpr ⟨ok_getf C (wi_X11) rfl (by decide) kw_1186 (show decode cX11_day 218 = .ok (.getfield 33, 3) by decide +kernel) rfl, ?_⟩
  refine List.forall_mem_cons.mpr ⟨ok_iconst C (show decode cX11_day 221 = .ok (.iconst 0, 1) by decide +kernel) (by decide) rfl, ?_⟩
  refine List.forall_mem_cons.mpr ⟨ok_iaload C (show decode cX11_day 222 = .ok (.iaload, 1) by decide +kernel) rfl, ?_⟩
  refine List.forall_mem_cons.mpr ⟨ok_imul C (show decode cX11_day 223 = .ok (.imul, 1) by decide +kernel) rfl, ?_⟩
  refine List.forall_mem_cons.mpr ⟨ok_icmpge C (show decode cX11_day 224 = .ok (.if_icmp .ge 14, 3) by decide +kernel) (tg := 238) (by decide) rfl rfl, ?_⟩
  refine List.forall_mem_cons.mpr ⟨ok_aload_n C (show decode cX11_day 227 = .ok (.aload_n 0, 1) by decide +kernel) rfl rfl, ?_⟩
  refine List.forall_mem_cons.mpr ⟨ok_iload_n C (show decode cX11_day 228 = .ok (.iload_n 3, 1) by decide +kernel) rfl rfl, ?_⟩
  refine List.forall_mem_cons.mpr ⟨ok_callV C h_X11_eats ⟨rfl, rfl⟩ rfl kw_1528 kw_1525 kw_1527 kp_85 kw_11 rfl ds_X11_eats ⟨by decide, by decide⟩ (show decode cX11_day 229 = .ok (.invokevirtual 295, 3) by decide +kernel) rfl, ?_⟩
  refine List.forall_mem_cons.mpr ⟨ok_iinc C (show decode cX11_day 232 = .ok (.iinc 3 1, 3) by decide +kernel) (by decide) (by decide) rfl, ?_⟩
  refine List.forall_mem_cons.mpr ⟨ok_goto C (show decode cX11_day 235 = .ok (.goto (-20), 3) by decide +kernel) (tg := 215) (by decide) rfl, ?_⟩
  refine List.forall_mem_cons.mpr ⟨ok_iconst C (show decode cX11_day 238 = .ok (.iconst 0, 1) by decide +kernel) (by decide) rfl, ?_⟩
  refine List.forall_mem_cons.mpr ⟨ok_istore_n C (show decode cX11_day 239 = .ok (.istore_n 3, 1) by decide +kernel) rfl (by decide) rfl, ?_⟩
  refine List.forall_mem_cons.mpr ⟨ok_iload_n C (show decode cX11_day 240 = .ok (.iload_n 3, 1) by decide +kernel) rfl rfl, ?_⟩
  refine List.forall_mem_cons.mpr ⟨ok_aload_n C (show decode cX11_day 241 = .ok (.aload_n 0, 1) by decide +kernel) rfl rfl, ?_⟩
  refine List.forall_mem_cons.mpr ⟨ok_getf C (wi_X11) rfl (by decide) kw_1186 (show decode cX11_day 242 = .ok (.getfield 33, 3) by decide +kernel) rfl, ?_⟩
  refine List.forall_mem_cons.mpr ⟨ok_iconst C (show decode cX11_day 245 = .ok (.iconst 1, 1) by decide +kernel) (by decide) rfl, ?_⟩
  refine List.forall_mem_cons.mpr ⟨ok_iaload C (show decode cX11_day 246 = .ok (.iaload, 1) by decide +kernel) rfl, ?_⟩
  refine List.forall_mem_cons.mpr ⟨ok_icmpge C (show decode cX11_day 247 = .ok (.if_icmp .ge 77, 3) by decide +kernel) (tg := 324) (by decide) rfl rfl, ?_⟩
  refine List.forall_mem_cons.mpr ⟨ok_iconst C (show decode cX11_day 250 = .ok (.iconst 0, 1) by decide +kernel) (by decide) rfl, ?_⟩
  refine List.forall_mem_cons.mpr ⟨ok_istore C (show decode cX11_day 251 = .ok (.istore 4, 2) by decide +kernel) (by decide) rfl, ?_⟩
  refine List.forall_mem_cons.mpr ⟨ok_iload C (show decode cX11_day 253 = .ok (.iload 4, 2) by decide +kernel) rfl, ?_⟩
  refine List.forall_mem_cons.mpr ⟨ok_aload_n C (show decode cX11_day 255 = .ok (.aload_n 0, 1) by decide +kernel) rfl rfl, ?_⟩
  refine List.forall_mem_cons.mpr ⟨ok_getf C (wi_X11) rfl (by decide) kw_1186 (show decode cX11_day 256 = .ok (.getfield 33, 3) by decide +kernel) rfl, ?_⟩
  refine List.forall_mem_cons.mpr ⟨ok_iconst C (show decode cX11_day 259 = .ok (.iconst 1, 1) by decide +kernel) (by decide) rfl, ?_⟩
  refine List.forall_mem_cons.mpr ⟨ok_iaload C (show decode cX11_day 260 = .ok (.iaload, 1) by decide +kernel) rfl, ?_⟩
  refine List.forall_mem_cons.mpr ⟨ok_icmpge C (show decode cX11_day 261 = .ok (.if_icmp .ge 57, 3) by decide +kernel) (tg := 318) (by decide) rfl rfl, ?_⟩
  refine List.forall_mem_cons.mpr ⟨ok_aload_n C (show decode cX11_day 264 = .ok (.aload_n 0, 1) by decide +kernel) rfl rfl, ?_⟩
  refine List.forall_mem_cons.mpr ⟨ok_getf C (wi_X11) rfl (by decide) kw_1186 (show decode cX11_day 265 = .ok (.getfield 33, 3) by decide +kernel) rfl, ?_⟩
  refine List.forall_mem_cons.mpr ⟨ok_sipush C (show decode cX11_day 268 = .ok (.sipush 189, 3) by decide +kernel) (by decide) rfl, ?_⟩
  refine List.forall_mem_cons.mpr ⟨ok_bipush C (show decode cX11_day 271 = .ok (.bipush 8, 2) by decide +kernel) (by decide) rfl, ?_⟩
  refine List.forall_mem_cons.mpr ⟨ok_iload_n C (show decode cX11_day 273 = .ok (.iload_n 3, 1) by decide +kernel) rfl rfl, ?_⟩
  refine List.forall_mem_cons.mpr ⟨ok_imul C (show decode cX11_day 274 = .ok (.imul, 1) by decide +kernel) rfl, ?_⟩
  refine List.forall_mem_cons.mpr ⟨ok_iadd C (show decode cX11_day 275 = .ok (.iadd, 1) by decide +kernel) rfl, ?_⟩
  refine List.forall_mem_cons.mpr ⟨ok_iload C (show decode cX11_day 276 = .ok (.iload 4, 2) by decide +kernel) rfl, ?_⟩
  refine List.forall_mem_cons.mpr ⟨ok_iadd C (show decode cX11_day 278 = .ok (.iadd, 1) by decide +kernel) rfl, ?_⟩
  refine List.forall_mem_cons.mpr ⟨ok_aload_n C (show decode cX11_day 279 = .ok (.aload_n 0, 1) by decide +kernel) rfl rfl, ?_⟩
  refine List.forall_mem_cons.mpr ⟨ok_iload_n C (show decode cX11_day 280 = .ok (.iload_n 3, 1) by decide +kernel) rfl rfl, ?_⟩
  refine List.forall_mem_cons.mpr ⟨ok_iload C (show decode cX11_day 281 = .ok (.iload 4, 2) by decide +kernel) rfl, ?_⟩
  refine List.forall_mem_cons.mpr ⟨ok_callV C h_X11_areUnlike ⟨rfl, rfl⟩ rfl kw_1453 kw_1450 kw_1452 kp_74 kw_11 rfl ds_X11_areUnlike ⟨by decide, by decide⟩ (show decode cX11_day 283 = .ok (.invokevirtual 260, 3) by decide +kernel) rfl, ?_⟩
  refine List.forall_mem_cons.mpr ⟨ok_ifeq C (show decode cX11_day 286 = .ok (.ifCond .eq 24, 3) by decide +kernel) (tg := 310) (by decide) rfl rfl, ?_⟩
  refine List.forall_mem_cons.mpr ⟨ok_aload_n C (show decode cX11_day 289 = .ok (.aload_n 0, 1) by decide +kernel) rfl rfl, ?_⟩
  refine List.forall_mem_cons.mpr ⟨ok_getf C (wi_X11) rfl (by decide) kw_1186 (show decode cX11_day 290 = .ok (.getfield 33, 3) by decide +kernel) rfl, ?_⟩
  refine List.forall_mem_cons.mpr ⟨ok_sipush C (show decode cX11_day 293 = .ok (.sipush 189, 3) by decide +kernel) (by decide) rfl, ?_⟩
  refine List.forall_mem_cons.mpr ⟨ok_bipush C (show decode cX11_day 296 = .ok (.bipush 8, 2) by decide +kernel) (by decide) rfl, ?_⟩
  refine List.forall_mem_cons.mpr ⟨ok_iload_n C (show decode cX11_day 298 = .ok (.iload_n 3, 1) by decide +kernel) rfl rfl, ?_⟩
  refine List.forall_mem_cons.mpr ⟨ok_imul C (show decode cX11_day 299 = .ok (.imul, 1) by decide +kernel) rfl, ?_⟩
  refine List.forall_mem_cons.mpr ⟨ok_iadd C (show decode cX11_day 300 = .ok (.iadd, 1) by decide +kernel) rfl, ?_⟩
  refine List.forall_mem_cons.mpr ⟨ok_iload C (show decode cX11_day 301 = .ok (.iload 4, 2) by decide +kernel) rfl, ?_⟩
  refine List.forall_mem_cons.mpr ⟨ok_iadd C (show decode cX11_day 303 = .ok (.iadd, 1) by decide +kernel) rfl, ?_⟩
  refine List.forall_mem_cons.mpr ⟨ok_iaload C (show decode cX11_day 304 = .ok (.iaload, 1) by decide +kernel) rfl, ?_⟩
  refine List.forall_mem_cons.mpr ⟨ok_iconst C (show decode cX11_day 305 = .ok (.iconst 1, 1) by decide +kernel) (by decide) rfl, ?_⟩
  refine List.forall_mem_cons.mpr ⟨ok_iadd C (show decode cX11_day 306 = .ok (.iadd, 1) by decide +kernel) rfl, ?_⟩
  refine List.forall_mem_cons.mpr ⟨ok_goto C (show decode cX11_day 307 = .ok (.goto 4, 3) by decide +kernel) (tg := 311) (by decide) rfl, ?_⟩
  refine List.forall_mem_cons.mpr ⟨ok_iconst C (show decode cX11_day 310 = .ok (.iconst 0, 1) by decide +kernel) (by decide) rfl, ?_⟩
  refine List.forall_mem_cons.mpr ⟨ok_iastore C (show decode cX11_day 311 = .ok (.iastore, 1) by decide +kernel) rfl, ?_⟩
  refine List.forall_mem_cons.mpr ⟨ok_iinc C (show decode cX11_day 312 = .ok (.iinc 4 1, 3) by decide +kernel) (by decide) (by decide) rfl, ?_⟩
  refine List.forall_mem_cons.mpr ⟨ok_goto C (show decode cX11_day 315 = .ok (.goto (-62), 3) by decide +kernel) (tg := 253) (by decide) rfl, ?_⟩
  refine List.forall_mem_cons.mpr ⟨ok_iinc C (show decode cX11_day 318 = .ok (.iinc 3 1, 3) by decide +kernel) (by decide) (by decide) rfl, ?_⟩
  refine List.forall_mem_cons.mpr ⟨ok_goto C (show decode cX11_day 321 = .ok (.goto (-81), 3) by decide +kernel) (tg := 240) (by decide) rfl, ?_⟩
  refine List.forall_mem_cons.mpr ⟨ok_aload_n C (show decode cX11_day 324 = .ok (.aload_n 0, 1) by decide +kernel) rfl rfl, ?_⟩
  refine List.forall_mem_cons.mpr ⟨ok_getf C (wi_X11) rfl (by decide) kw_1186 (show decode cX11_day 325 = .ok (.getfield 33, 3) by decide +kernel) rfl, ?_⟩
  refine List.forall_mem_cons.mpr ⟨ok_bipush C (show decode cX11_day 328 = .ok (.bipush 120, 2) by decide +kernel) (by decide) rfl, ?_⟩
  refine List.forall_mem_cons.mpr ⟨ok_dup2 C (show decode cX11_day 330 = .ok (.dup2, 1) by decide +kernel) rfl, ?_⟩
  refine List.forall_mem_cons.mpr ⟨ok_iaload C (show decode cX11_day 331 = .ok (.iaload, 1) by decide +kernel) rfl, ?_⟩
  refine List.forall_mem_cons.mpr ⟨ok_iconst C (show decode cX11_day 332 = .ok (.iconst 1, 1) by decide +kernel) (by decide) rfl, ?_⟩
  refine List.forall_mem_cons.mpr ⟨ok_iadd C (show decode cX11_day 333 = .ok (.iadd, 1) by decide +kernel) rfl, ?_⟩
  refine List.forall_mem_cons.mpr ⟨ok_iastore C (show decode cX11_day 334 = .ok (.iastore, 1) by decide +kernel) rfl, ?_⟩
  refine List.forall_mem_cons.mpr ⟨ok_vret C rfl (show decode cX11_day 335 = .ok (.return_, 1) by decide +kernel), ?_⟩
  exact fun _ h => absurd h List.not_mem_nil
def L_X11_goesOn (f_X11_day : List Value → ab_H → Option ab_O) : List (Nat × ab_A) := [
  (0, ab_nx 1 (ab_lit (.int 0))),
  (1, ab_nx 2 (ab_istore 2)),
  (2, ab_nx 3 (ab_iload 2)),
  (3, ab_nx 4 (ab_iload 1)),
  (4, ab_icmp 7 30 (fun x y => decide (y ≤ x))),
  (7, ab_nx 8 (ab_aload 0)),
  (8, ab_nx 11 (ab_getf 11 6)),
  (11, ab_nx 13 (ab_lit (.int 120))),
  (13, ab_nx 14 (ab_ald 1)),
  (14, ab_nx 17 (ab_lit (.int 400))),
  (17, ab_icmp 20 30 (fun x y => decide (y ≤ x))),
  (20, ab_nx 21 (ab_aload 0)),
  (21, ab_nx 24 (ab_callV 1 11 f_X11_day 0 0 0 0)),
  (24, ab_nx 27 (ab_iinc 2 1)),
  (27, ab_goto 2),
  (30, ab_nx 31 (ab_iload 2)),
  (31, ab_ret 0 0)]
set_option maxRecDepth 100000 in
set_option maxHeartbeats 4000000 in
theorem M_X11_goesOn {l : Launch} {b : ab_B} {D : va_G} {cA : Nat → ClassId} {f_X11_day : List Value → ab_H → Option ab_O} (h_X11_day : ab_M l b D ab_cl cA (ab_E0 b) yX11_day (Cond.code yX11_day cX11_day 5 none :: ab_G) ({ frames := 7, cells := 0, slots := 0, locals := 700 } : Room) f_X11_day) : ab_M l b D ab_cl cA (ab_E0 b) yX11_goesOn (Cond.code yX11_goesOn cX11_goesOn 3 (some .int) :: ab_G) ({ frames := 8, cells := 0, slots := 0, locals := 800 } : Room) (ab_X (ab_T (L_X11_goesOn f_X11_day)) 3) := by
  refine ab_meth (ret := (some .int)) (L_X11_goesOn f_X11_day) (by decide) rfl fun p e R s m args below meth c o C => ?_
  unfold L_X11_goesOn
  refine List.forall_mem_cons.mpr ⟨ok_iconst C (show decode cX11_goesOn 0 = .ok (.iconst 0, 1) by decide +kernel) (by decide) rfl, ?_⟩
  refine List.forall_mem_cons.mpr ⟨ok_istore_n C (show decode cX11_goesOn 1 = .ok (.istore_n 2, 1) by decide +kernel) rfl (by decide) rfl, ?_⟩
  refine List.forall_mem_cons.mpr ⟨ok_iload_n C (show decode cX11_goesOn 2 = .ok (.iload_n 2, 1) by decide +kernel) rfl rfl, ?_⟩
  refine List.forall_mem_cons.mpr ⟨ok_iload_n C (show decode cX11_goesOn 3 = .ok (.iload_n 1, 1) by decide +kernel) rfl rfl, ?_⟩
  refine List.forall_mem_cons.mpr ⟨ok_icmpge C (show decode cX11_goesOn 4 = .ok (.if_icmp .ge 26, 3) by decide +kernel) (tg := 30) (by decide) rfl rfl, ?_⟩
  refine List.forall_mem_cons.mpr ⟨ok_aload_n C (show decode cX11_goesOn 7 = .ok (.aload_n 0, 1) by decide +kernel) rfl rfl, ?_⟩
  refine List.forall_mem_cons.mpr ⟨ok_getf C (wi_X11) rfl (by decide) kw_1186 (show decode cX11_goesOn 8 = .ok (.getfield 33, 3) by decide +kernel) rfl, ?_⟩
  refine List.forall_mem_cons.mpr ⟨ok_bipush C (show decode cX11_goesOn 11 = .ok (.bipush 120, 2) by decide +kernel) (by decide) rfl, ?_⟩
  refine List.forall_mem_cons.mpr ⟨ok_iaload C (show decode cX11_goesOn 13 = .ok (.iaload, 1) by decide +kernel) rfl, ?_⟩
  refine List.forall_mem_cons.mpr ⟨ok_sipush C (show decode cX11_goesOn 14 = .ok (.sipush 400, 3) by decide +kernel) (by decide) rfl, ?_⟩
  refine List.forall_mem_cons.mpr ⟨ok_icmpge C (show decode cX11_goesOn 17 = .ok (.if_icmp .ge 13, 3) by decide +kernel) (tg := 30) (by decide) rfl rfl, ?_⟩
  refine List.forall_mem_cons.mpr ⟨ok_aload_n C (show decode cX11_goesOn 20 = .ok (.aload_n 0, 1) by decide +kernel) rfl rfl, ?_⟩
  refine List.forall_mem_cons.mpr ⟨ok_callV C h_X11_day ⟨rfl, rfl⟩ rfl kw_1513 kw_1510 kw_1512 kp_82 kw_11 rfl ds_X11_day ⟨by decide, by decide⟩ (show decode cX11_goesOn 21 = .ok (.invokevirtual 298, 3) by decide +kernel) rfl, ?_⟩
  refine List.forall_mem_cons.mpr ⟨ok_iinc C (show decode cX11_goesOn 24 = .ok (.iinc 2 1, 3) by decide +kernel) (by decide) (by decide) rfl, ?_⟩
  refine List.forall_mem_cons.mpr ⟨ok_goto C (show decode cX11_goesOn 27 = .ok (.goto (-25), 3) by decide +kernel) (tg := 2) (by decide) rfl, ?_⟩
  refine List.forall_mem_cons.mpr ⟨ok_iload_n C (show decode cX11_goesOn 30 = .ok (.iload_n 2, 1) by decide +kernel) rfl rfl, ?_⟩
  refine List.forall_mem_cons.mpr ⟨ok_ret C rfl (show decode cX11_goesOn 31 = .ok (.ireturn, 1) by decide +kernel), ?_⟩
  exact fun _ h => absurd h List.not_mem_nil
def L_X11_whyHoard : List (Nat × ab_A) := [
  (0, ab_nx 1 (ab_aload 0)),
  (1, ab_nx 4 (ab_getf 11 6)),
  (4, ab_nx 6 (ab_lit (.int 124))),
  (6, ab_nx 7 (ab_iload 1)),
  (7, ab_nx 8 (ab_bin (fun x y => x + y))),
  (8, ab_nx 9 (ab_ald 1)),
  (9, ab_nx 10 (ab_iload 2)),
  (10, ab_icmp 13 17 (fun x y => decide (y ≤ x))),
  (13, ab_nx 14 (ab_lit (.int 1))),
  (14, ab_goto 18),
  (17, ab_nx 18 (ab_lit (.int 0))),
  (18, ab_ret 0 0)]
set_option maxRecDepth 100000 in
set_option maxHeartbeats 4000000 in
theorem M_X11_whyHoard {l : Launch} {b : ab_B} {D : va_G} {cA : Nat → ClassId} : ab_M l b D ab_cl cA (ab_E0 b) yX11_whyHoard (Cond.code yX11_whyHoard cX11_whyHoard 3 (some .int) :: ab_G) ({ frames := 1, cells := 0, slots := 0, locals := 100 } : Room) (ab_X (ab_T L_X11_whyHoard) 3) := by
  refine ab_meth (ret := (some .int)) L_X11_whyHoard (by decide) rfl fun p e R s m args below meth c o C => ?_
  unfold L_X11_whyHoard
  refine List.forall_mem_cons.mpr ⟨ok_aload_n C (show decode cX11_whyHoard 0 = .ok (.aload_n 0, 1) by decide +kernel) rfl rfl, ?_⟩
  refine List.forall_mem_cons.mpr ⟨ok_getf C (wi_X11) rfl (by decide) kw_1186 (show decode cX11_whyHoard 1 = .ok (.getfield 33, 3) by decide +kernel) rfl, ?_⟩
  refine List.forall_mem_cons.mpr ⟨ok_bipush C (show decode cX11_whyHoard 4 = .ok (.bipush 124, 2) by decide +kernel) (by decide) rfl, ?_⟩
  refine List.forall_mem_cons.mpr ⟨ok_iload_n C (show decode cX11_whyHoard 6 = .ok (.iload_n 1, 1) by decide +kernel) rfl rfl, ?_⟩
  refine List.forall_mem_cons.mpr ⟨ok_iadd C (show decode cX11_whyHoard 7 = .ok (.iadd, 1) by decide +kernel) rfl, ?_⟩
  refine List.forall_mem_cons.mpr ⟨ok_iaload C (show decode cX11_whyHoard 8 = .ok (.iaload, 1) by decide +kernel) rfl, ?_⟩
  refine List.forall_mem_cons.mpr ⟨ok_iload_n C (show decode cX11_whyHoard 9 = .ok (.iload_n 2, 1) by decide +kernel) rfl rfl, ?_⟩
  refine List.forall_mem_cons.mpr ⟨ok_icmpge C (show decode cX11_whyHoard 10 = .ok (.if_icmp .ge 7, 3) by decide +kernel) (tg := 17) (by decide) rfl rfl, ?_⟩
  refine List.forall_mem_cons.mpr ⟨ok_iconst C (show decode cX11_whyHoard 13 = .ok (.iconst 1, 1) by decide +kernel) (by decide) rfl, ?_⟩
  refine List.forall_mem_cons.mpr ⟨ok_goto C (show decode cX11_whyHoard 14 = .ok (.goto 4, 3) by decide +kernel) (tg := 18) (by decide) rfl, ?_⟩
  refine List.forall_mem_cons.mpr ⟨ok_iconst C (show decode cX11_whyHoard 17 = .ok (.iconst 0, 1) by decide +kernel) (by decide) rfl, ?_⟩
  refine List.forall_mem_cons.mpr ⟨ok_ret C rfl (show decode cX11_whyHoard 18 = .ok (.ireturn, 1) by decide +kernel), ?_⟩
  exact fun _ h => absurd h List.not_mem_nil
def L_X11_whyBare : List (Nat × ab_A) := [
  (0, ab_nx 1 (ab_aload 0)),
  (1, ab_nx 4 (ab_getf 11 6)),
  (4, ab_nx 7 (ab_lit (.int 136))),
  (7, ab_nx 8 (ab_iload 1)),
  (8, ab_nx 9 (ab_bin (fun x y => x + y))),
  (9, ab_nx 10 (ab_ald 1)),
  (10, ab_nx 11 (ab_iload 2)),
  (11, ab_icmp 14 18 (fun x y => decide (y ≤ x))),
  (14, ab_nx 15 (ab_lit (.int 1))),
  (15, ab_goto 40),
  (18, ab_nx 19 (ab_aload 0)),
  (19, ab_nx 22 (ab_getf 11 6)),
  (22, ab_nx 24 (ab_lit (.int 124))),
  (24, ab_nx 25 (ab_iload 1)),
  (25, ab_nx 26 (ab_bin (fun x y => x + y))),
  (26, ab_nx 27 (ab_ald 1)),
  (27, ab_nx 28 (ab_iload 2)),
  (28, ab_nx 29 (ab_bin (fun x y => x + y))),
  (29, ab_nx 32 (ab_lit (.int 999))),
  (32, ab_icmp 35 39 (fun x y => decide (x ≤ y))),
  (35, ab_nx 36 (ab_lit (.int 2))),
  (36, ab_goto 40),
  (39, ab_nx 40 (ab_lit (.int 0))),
  (40, ab_ret 0 0)]
set_option maxRecDepth 100000 in
set_option maxHeartbeats 4000000 in
theorem M_X11_whyBare {l : Launch} {b : ab_B} {D : va_G} {cA : Nat → ClassId} : ab_M l b D ab_cl cA (ab_E0 b) yX11_whyBare (Cond.code yX11_whyBare cX11_whyBare 3 (some .int) :: ab_G) ({ frames := 1, cells := 0, slots := 0, locals := 100 } : Room) (ab_X (ab_T L_X11_whyBare) 3) := by
  refine ab_meth (ret := (some .int)) L_X11_whyBare (by decide) rfl fun p e R s m args below meth c o C => ?_
  unfold L_X11_whyBare
  refine List.forall_mem_cons.mpr ⟨ok_aload_n C (show decode cX11_whyBare 0 = .ok (.aload_n 0, 1) by decide +kernel) rfl rfl, ?_⟩
  refine List.forall_mem_cons.mpr ⟨ok_getf C (wi_X11) rfl (by decide) kw_1186 (show decode cX11_whyBare 1 = .ok (.getfield 33, 3) by decide +kernel) rfl, ?_⟩
  refine List.forall_mem_cons.mpr ⟨ok_sipush C (show decode cX11_whyBare 4 = .ok (.sipush 136, 3) by decide +kernel) (by decide) rfl, ?_⟩
  refine List.forall_mem_cons.mpr ⟨ok_iload_n C (show decode cX11_whyBare 7 = .ok (.iload_n 1, 1) by decide +kernel) rfl rfl, ?_⟩
  refine List.forall_mem_cons.mpr ⟨ok_iadd C (show decode cX11_whyBare 8 = .ok (.iadd, 1) by decide +kernel) rfl, ?_⟩
  refine List.forall_mem_cons.mpr ⟨ok_iaload C (show decode cX11_whyBare 9 = .ok (.iaload, 1) by decide +kernel) rfl, ?_⟩
  refine List.forall_mem_cons.mpr ⟨ok_iload_n C (show decode cX11_whyBare 10 = .ok (.iload_n 2, 1) by decide +kernel) rfl rfl, ?_⟩
  refine List.forall_mem_cons.mpr ⟨ok_icmpge C (show decode cX11_whyBare 11 = .ok (.if_icmp .ge 7, 3) by decide +kernel) (tg := 18) (by decide) rfl rfl, ?_⟩
  refine List.forall_mem_cons.mpr ⟨ok_iconst C (show decode cX11_whyBare 14 = .ok (.iconst 1, 1) by decide +kernel) (by decide) rfl, ?_⟩
  refine List.forall_mem_cons.mpr ⟨ok_goto C (show decode cX11_whyBare 15 = .ok (.goto 25, 3) by decide +kernel) (tg := 40) (by decide) rfl, ?_⟩
  refine List.forall_mem_cons.mpr ⟨ok_aload_n C (show decode cX11_whyBare 18 = .ok (.aload_n 0, 1) by decide +kernel) rfl rfl, ?_⟩
  refine List.forall_mem_cons.mpr ⟨ok_getf C (wi_X11) rfl (by decide) kw_1186 (show decode cX11_whyBare 19 = .ok (.getfield 33, 3) by decide +kernel) rfl, ?_⟩
  refine List.forall_mem_cons.mpr ⟨ok_bipush C (show decode cX11_whyBare 22 = .ok (.bipush 124, 2) by decide +kernel) (by decide) rfl, ?_⟩
  refine List.forall_mem_cons.mpr ⟨ok_iload_n C (show decode cX11_whyBare 24 = .ok (.iload_n 1, 1) by decide +kernel) rfl rfl, ?_⟩
  refine List.forall_mem_cons.mpr ⟨ok_iadd C (show decode cX11_whyBare 25 = .ok (.iadd, 1) by decide +kernel) rfl, ?_⟩
  refine List.forall_mem_cons.mpr ⟨ok_iaload C (show decode cX11_whyBare 26 = .ok (.iaload, 1) by decide +kernel) rfl, ?_⟩
  refine List.forall_mem_cons.mpr ⟨ok_iload_n C (show decode cX11_whyBare 27 = .ok (.iload_n 2, 1) by decide +kernel) rfl rfl, ?_⟩
  refine List.forall_mem_cons.mpr ⟨ok_iadd C (show decode cX11_whyBare 28 = .ok (.iadd, 1) by decide +kernel) rfl, ?_⟩
  refine List.forall_mem_cons.mpr ⟨ok_sipush C (show decode cX11_whyBare 29 = .ok (.sipush 999, 3) by decide +kernel) (by decide) rfl, ?_⟩
  refine List.forall_mem_cons.mpr ⟨ok_icmple C (show decode cX11_whyBare 32 = .ok (.if_icmp .le 7, 3) by decide +kernel) (tg := 39) (by decide) rfl rfl, ?_⟩
  refine List.forall_mem_cons.mpr ⟨ok_iconst C (show decode cX11_whyBare 35 = .ok (.iconst 2, 1) by decide +kernel) (by decide) rfl, ?_⟩
  refine List.forall_mem_cons.mpr ⟨ok_goto C (show decode cX11_whyBare 36 = .ok (.goto 4, 3) by decide +kernel) (tg := 40) (by decide) rfl, ?_⟩
  refine List.forall_mem_cons.mpr ⟨ok_iconst C (show decode cX11_whyBare 39 = .ok (.iconst 0, 1) by decide +kernel) (by decide) rfl, ?_⟩
  refine List.forall_mem_cons.mpr ⟨ok_ret C rfl (show decode cX11_whyBare 40 = .ok (.ireturn, 1) by decide +kernel), ?_⟩
  exact fun _ h => absurd h List.not_mem_nil
def L_X11_hoards : List (Nat × ab_A) := [
  (0, ab_nx 1 (ab_aload 0)),
  (1, ab_nx 4 (ab_getf 11 6)),
  (4, ab_nx 6 (ab_lit (.int 124))),
  (6, ab_nx 7 (ab_iload 1)),
  (7, ab_nx 8 (ab_bin (fun x y => x + y))),
  (8, ab_nx 9 ab_dup2),
  (9, ab_nx 10 (ab_ald 1)),
  (10, ab_nx 11 (ab_iload 2)),
  (11, ab_nx 12 (ab_bin (fun x y => x - y))),
  (12, ab_nx 13 (ab_ast 1)),
  (13, ab_nx 14 (ab_aload 0)),
  (14, ab_nx 17 (ab_getf 11 6)),
  (17, ab_nx 20 (ab_lit (.int 136))),
  (20, ab_nx 21 (ab_iload 1)),
  (21, ab_nx 22 (ab_bin (fun x y => x + y))),
  (22, ab_nx 23 ab_dup2),
  (23, ab_nx 24 (ab_ald 1)),
  (24, ab_nx 25 (ab_iload 2)),
  (25, ab_nx 26 (ab_bin (fun x y => x + y))),
  (26, ab_nx 27 (ab_ast 1)),
  (27, ab_vret 0 0)]
set_option maxRecDepth 100000 in
set_option maxHeartbeats 4000000 in
theorem M_X11_hoards {l : Launch} {b : ab_B} {D : va_G} {cA : Nat → ClassId} : ab_M l b D ab_cl cA (ab_E0 b) yX11_hoards (Cond.code yX11_hoards cX11_hoards 3 none :: ab_G) ({ frames := 1, cells := 0, slots := 0, locals := 100 } : Room) (ab_X (ab_T L_X11_hoards) 3) := by
  refine ab_meth (ret := none) L_X11_hoards (by decide) rfl fun p e R s m args below meth c o C => ?_
  unfold L_X11_hoards
  refine List.forall_mem_cons.mpr ⟨ok_aload_n C (show decode cX11_hoards 0 = .ok (.aload_n 0, 1) by decide +kernel) rfl rfl, ?_⟩
  refine List.forall_mem_cons.mpr ⟨ok_getf C (wi_X11) rfl (by decide) kw_1186 (show decode cX11_hoards 1 = .ok (.getfield 33, 3) by decide +kernel) rfl, ?_⟩
  refine List.forall_mem_cons.mpr ⟨ok_bipush C (show decode cX11_hoards 4 = .ok (.bipush 124, 2) by decide +kernel) (by decide) rfl, ?_⟩
  refine List.forall_mem_cons.mpr ⟨ok_iload_n C (show decode cX11_hoards 6 = .ok (.iload_n 1, 1) by decide +kernel) rfl rfl, ?_⟩
  refine List.forall_mem_cons.mpr ⟨ok_iadd C (show decode cX11_hoards 7 = .ok (.iadd, 1) by decide +kernel) rfl, ?_⟩
  refine List.forall_mem_cons.mpr ⟨ok_dup2 C (show decode cX11_hoards 8 = .ok (.dup2, 1) by decide +kernel) rfl, ?_⟩
  refine List.forall_mem_cons.mpr ⟨ok_iaload C (show decode cX11_hoards 9 = .ok (.iaload, 1) by decide +kernel) rfl, ?_⟩
  refine List.forall_mem_cons.mpr ⟨ok_iload_n C (show decode cX11_hoards 10 = .ok (.iload_n 2, 1) by decide +kernel) rfl rfl, ?_⟩
  refine List.forall_mem_cons.mpr ⟨ok_isub C (show decode cX11_hoards 11 = .ok (.isub, 1) by decide +kernel) rfl, ?_⟩
  refine List.forall_mem_cons.mpr ⟨ok_iastore C (show decode cX11_hoards 12 = .ok (.iastore, 1) by decide +kernel) rfl, ?_⟩
  refine List.forall_mem_cons.mpr ⟨ok_aload_n C (show decode cX11_hoards 13 = .ok (.aload_n 0, 1) by decide +kernel) rfl rfl, ?_⟩
  refine List.forall_mem_cons.mpr ⟨ok_getf C (wi_X11) rfl (by decide) kw_1186 (show decode cX11_hoards 14 = .ok (.getfield 33, 3) by decide +kernel) rfl, ?_⟩
  refine List.forall_mem_cons.mpr ⟨ok_sipush C (show decode cX11_hoards 17 = .ok (.sipush 136, 3) by decide +kernel) (by decide) rfl, ?_⟩
  refine List.forall_mem_cons.mpr ⟨ok_iload_n C (show decode cX11_hoards 20 = .ok (.iload_n 1, 1) by decide +kernel) rfl rfl, ?_⟩
  refine List.forall_mem_cons.mpr ⟨ok_iadd C (show decode cX11_hoards 21 = .ok (.iadd, 1) by decide +kernel) rfl, ?_⟩
  refine List.forall_mem_cons.mpr ⟨ok_dup2 C (show decode cX11_hoards 22 = .ok (.dup2, 1) by decide +kernel) rfl, ?_⟩
  refine List.forall_mem_cons.mpr ⟨ok_iaload C (show decode cX11_hoards 23 = .ok (.iaload, 1) by decide +kernel) rfl, ?_⟩
  refine List.forall_mem_cons.mpr ⟨ok_iload_n C (show decode cX11_hoards 24 = .ok (.iload_n 2, 1) by decide +kernel) rfl rfl, ?_⟩
  refine List.forall_mem_cons.mpr ⟨ok_iadd C (show decode cX11_hoards 25 = .ok (.iadd, 1) by decide +kernel) rfl, ?_⟩
  refine List.forall_mem_cons.mpr ⟨ok_iastore C (show decode cX11_hoards 26 = .ok (.iastore, 1) by decide +kernel) rfl, ?_⟩
  refine List.forall_mem_cons.mpr ⟨ok_vret C rfl (show decode cX11_hoards 27 = .ok (.return_, 1) by decide +kernel), ?_⟩
  exact fun _ h => absurd h List.not_mem_nil
def L_X11_keep : List (Nat × ab_A) := [
  (0, ab_nx 1 (ab_aload 0)),
  (1, ab_nx 4 (ab_getf 11 25)),
  (4, ab_nx 6 (ab_lit (.int 8))),
  (6, ab_icmp 9 46 (fun x y => !decide (x = y))),
  (9, ab_nx 10 (ab_lit (.int 0))),
  (10, ab_nx 11 (ab_istore 1)),
  (11, ab_nx 12 (ab_iload 1)),
  (12, ab_nx 15 (ab_lit (.int 931))),
  (15, ab_icmp 18 40 (fun x y => decide (y ≤ x))),
  (18, ab_nx 19 (ab_aload 0)),
  (19, ab_nx 22 (ab_getf 11 23)),
  (22, ab_nx 23 (ab_iload 1)),
  (23, ab_nx 24 (ab_aload 0)),
  (24, ab_nx 27 (ab_getf 11 23)),
  (27, ab_nx 28 (ab_iload 1)),
  (28, ab_nx 31 (ab_lit (.int 133))),
  (31, ab_nx 32 (ab_bin (fun x y => x + y))),
  (32, ab_nx 33 (ab_ald 1)),
  (33, ab_nx 34 (ab_ast 1)),
  (34, ab_nx 37 (ab_iinc 1 1)),
  (37, ab_goto 11),
  (40, ab_nx 41 (ab_aload 0)),
  (41, ab_nx 43 (ab_lit (.int 7))),
  (43, ab_nx 46 (ab_putf 11 25 0)),
  (46, ab_nx 47 (ab_lit (.int 0))),
  (47, ab_nx 48 (ab_istore 1)),
  (48, ab_nx 49 (ab_iload 1)),
  (49, ab_nx 52 (ab_lit (.int 133))),
  (52, ab_icmp 55 85 (fun x y => decide (y ≤ x))),
  (55, ab_nx 56 (ab_aload 0)),
  (56, ab_nx 59 (ab_getf 11 23)),
  (59, ab_nx 62 (ab_lit (.int 133))),
  (62, ab_nx 63 (ab_aload 0)),
  (63, ab_nx 66 (ab_getf 11 25)),
  (66, ab_nx 67 (ab_bin (fun x y => x * y))),
  (67, ab_nx 68 (ab_iload 1)),
  (68, ab_nx 69 (ab_bin (fun x y => x + y))),
  (69, ab_nx 70 (ab_aload 0)),
  (70, ab_nx 73 (ab_getf 11 6)),
  (73, ab_nx 75 (ab_lit (.int 120))),
  (75, ab_nx 76 (ab_iload 1)),
  (76, ab_nx 77 (ab_bin (fun x y => x + y))),
  (77, ab_nx 78 (ab_ald 1)),
  (78, ab_nx 79 (ab_ast 1)),
  (79, ab_nx 82 (ab_iinc 1 1)),
  (82, ab_goto 48),
  (85, ab_nx 86 (ab_aload 0)),
  (86, ab_nx 87 ab_dup),
  (87, ab_nx 90 (ab_getf 11 25)),
  (90, ab_nx 91 (ab_lit (.int 1))),
  (91, ab_nx 92 (ab_bin (fun x y => x + y))),
  (92, ab_nx 95 (ab_putf 11 25 0)),
  (95, ab_vret 0 0)]
set_option maxRecDepth 100000 in
set_option maxHeartbeats 4000000 in
theorem M_X11_keep {l : Launch} {b : ab_B} {D : va_G} {cA : Nat → ClassId} : ab_M l b D ab_cl cA (ab_E0 b) yX11_keep (Cond.code yX11_keep cX11_keep 2 none :: ab_G) ({ frames := 1, cells := 0, slots := 0, locals := 100 } : Room) (ab_X (ab_T L_X11_keep) 2) := by
  refine ab_meth (ret := none) L_X11_keep (by decide) rfl fun p e R s m args below meth c o C => ?_
  unfold L_X11_keep
  refine List.forall_mem_cons.mpr ⟨ok_aload_n C (show decode cX11_keep 0 = .ok (.aload_n 0, 1) by decide +kernel) rfl rfl, ?_⟩
  refine List.forall_mem_cons.mpr ⟨ok_getf C (wi_X11) rfl (by decide) kw_1205 (show decode cX11_keep 1 = .ok (.getfield 236, 3) by decide +kernel) rfl, ?_⟩
  refine List.forall_mem_cons.mpr ⟨ok_bipush C (show decode cX11_keep 4 = .ok (.bipush 8, 2) by decide +kernel) (by decide) rfl, ?_⟩
  refine List.forall_mem_cons.mpr ⟨ok_icmpne C (show decode cX11_keep 6 = .ok (.if_icmp .ne 40, 3) by decide +kernel) (tg := 46) (by decide) rfl rfl, ?_⟩
  refine List.forall_mem_cons.mpr ⟨ok_iconst C (show decode cX11_keep 9 = .ok (.iconst 0, 1) by decide +kernel) (by decide) rfl, ?_⟩
  refine List.forall_mem_cons.mpr ⟨ok_istore_n C (show decode cX11_keep 10 = .ok (.istore_n 1, 1) by decide +kernel) rfl (by decide) rfl, ?_⟩
  refine List.forall_mem_cons.mpr ⟨ok_iload_n C (show decode cX11_keep 11 = .ok (.iload_n 1, 1) by decide +kernel) rfl rfl, ?_⟩
  refine List.forall_mem_cons.mpr ⟨ok_sipush C (show decode cX11_keep 12 = .ok (.sipush 931, 3) by decide +kernel) (by decide) rfl, ?_⟩
  refine List.forall_mem_cons.mpr ⟨ok_icmpge C (show decode cX11_keep 15 = .ok (.if_icmp .ge 25, 3) by decide +kernel) (tg := 40) (by decide) rfl rfl, ?_⟩
  refine List.forall_mem_cons.mpr ⟨ok_aload_n C (show decode cX11_keep 18 = .ok (.aload_n 0, 1) by decide +kernel) rfl rfl, ?_⟩
  refine List.forall_mem_cons.mpr ⟨ok_getf C (wi_X11) rfl (by decide) kw_1203 (show decode cX11_keep 19 = .ok (.getfield 53, 3) by decide +kernel) rfl, ?_⟩
  refine List.forall_mem_cons.mpr ⟨ok_iload_n C (show decode cX11_keep 22 = .ok (.iload_n 1, 1) by decide +kernel) rfl rfl, ?_⟩
  refine List.forall_mem_cons.mpr ⟨ok_aload_n C (show decode cX11_keep 23 = .ok (.aload_n 0, 1) by decide +kernel) rfl rfl, ?_⟩
  refine List.forall_mem_cons.mpr ⟨ok_getf C (wi_X11) rfl (by decide) kw_1203 (show decode cX11_keep 24 = .ok (.getfield 53, 3) by decide +kernel) rfl, ?_⟩
  refine List.forall_mem_cons.mpr ⟨ok_iload_n C (show decode cX11_keep 27 = .ok (.iload_n 1, 1) by decide +kernel) rfl rfl, ?_⟩
  refine List.forall_mem_cons.mpr ⟨ok_sipush C (show decode cX11_keep 28 = .ok (.sipush 133, 3) by decide +kernel) (by decide) rfl, ?_⟩
  refine List.forall_mem_cons.mpr ⟨ok_iadd C (show decode cX11_keep 31 = .ok (.iadd, 1) by decide +kernel) rfl, ?_⟩
  refine List.forall_mem_cons.mpr ⟨ok_iaload C (show decode cX11_keep 32 = .ok (.iaload, 1) by decide +kernel) rfl, ?_⟩
  refine List.forall_mem_cons.mpr ⟨ok_iastore C (show decode cX11_keep 33 = .ok (.iastore, 1) by decide +kernel) rfl, ?_⟩
  refine List.forall_mem_cons.mpr ⟨ok_iinc C (show decode cX11_keep 34 = .ok (.iinc 1 1, 3) by decide +kernel) (by decide) (by decide) rfl, ?_⟩
  refine List.forall_mem_cons.mpr ⟨ok_goto C (show decode cX11_keep 37 = .ok (.goto (-26), 3) by decide +kernel) (tg := 11) (by decide) rfl, ?_⟩
  refine List.forall_mem_cons.mpr ⟨ok_aload_n C (show decode cX11_keep 40 = .ok (.aload_n 0, 1) by decide +kernel) rfl rfl, ?_⟩
  refine List.forall_mem_cons.mpr ⟨ok_bipush C (show decode cX11_keep 41 = .ok (.bipush 7, 2) by decide +kernel) (by decide) rfl, ?_⟩
  refine List.forall_mem_cons.mpr ⟨ok_putf C (wi_X11) tyX11 tyX11_ok nmX11 rfl (by decide) kw_1205 (Or.inl rfl) (Or.inl ⟨rfl, rfl⟩) (show decode cX11_keep 43 = .ok (.putfield 236, 3) by decide +kernel) rfl, ?_⟩
  refine List.forall_mem_cons.mpr ⟨ok_iconst C (show decode cX11_keep 46 = .ok (.iconst 0, 1) by decide +kernel) (by decide) rfl, ?_⟩
  refine List.forall_mem_cons.mpr ⟨ok_istore_n C (show decode cX11_keep 47 = .ok (.istore_n 1, 1) by decide +kernel) rfl (by decide) rfl, ?_⟩
  refine List.forall_mem_cons.mpr ⟨ok_iload_n C (show decode cX11_keep 48 = .ok (.iload_n 1, 1) by decide +kernel) rfl rfl, ?_⟩
  refine List.forall_mem_cons.mpr ⟨ok_sipush C (show decode cX11_keep 49 = .ok (.sipush 133, 3) by decide +kernel) (by decide) rfl, ?_⟩
  refine List.forall_mem_cons.mpr ⟨ok_icmpge C (show decode cX11_keep 52 = .ok (.if_icmp .ge 33, 3) by decide +kernel) (tg := 85) (by decide) rfl rfl, ?_⟩
  refine List.forall_mem_cons.mpr ⟨ok_aload_n C (show decode cX11_keep 55 = .ok (.aload_n 0, 1) by decide +kernel) rfl rfl, ?_⟩
  refine List.forall_mem_cons.mpr ⟨ok_getf C (wi_X11) rfl (by decide) kw_1203 (show decode cX11_keep 56 = .ok (.getfield 53, 3) by decide +kernel) rfl, ?_⟩
  refine List.forall_mem_cons.mpr ⟨ok_sipush C (show decode cX11_keep 59 = .ok (.sipush 133, 3) by decide +kernel) (by decide) rfl, ?_⟩
  refine List.forall_mem_cons.mpr ⟨ok_aload_n C (show decode cX11_keep 62 = .ok (.aload_n 0, 1) by decide +kernel) rfl rfl, ?_⟩
  refine List.forall_mem_cons.mpr ⟨ok_getf C (wi_X11) rfl (by decide) kw_1205 (show decode cX11_keep 63 = .ok (.getfield 236, 3) by decide +kernel) rfl, ?_⟩
  refine List.forall_mem_cons.mpr ⟨ok_imul C (show decode cX11_keep 66 = .ok (.imul, 1) by decide +kernel) rfl, ?_⟩
  refine List.forall_mem_cons.mpr ⟨ok_iload_n C (show decode cX11_keep 67 = .ok (.iload_n 1, 1) by decide +kernel) rfl rfl, ?_⟩
  refine List.forall_mem_cons.mpr ⟨ok_iadd C (show decode cX11_keep 68 = .ok (.iadd, 1) by decide +kernel) rfl, ?_⟩
  refine List.forall_mem_cons.mpr ⟨ok_aload_n C (show decode cX11_keep 69 = .ok (.aload_n 0, 1) by decide +kernel) rfl rfl, ?_⟩
  refine List.forall_mem_cons.mpr ⟨ok_getf C (wi_X11) rfl (by decide) kw_1186 (show decode cX11_keep 70 = .ok (.getfield 33, 3) by decide +kernel) rfl, ?_⟩
  refine List.forall_mem_cons.mpr ⟨ok_bipush C (show decode cX11_keep 73 = .ok (.bipush 120, 2) by decide +kernel) (by decide) rfl, ?_⟩
  refine List.forall_mem_cons.mpr ⟨ok_iload_n C (show decode cX11_keep 75 = .ok (.iload_n 1, 1) by decide +kernel) rfl rfl, ?_⟩
  refine List.forall_mem_cons.mpr ⟨ok_iadd C (show decode cX11_keep 76 = .ok (.iadd, 1) by decide +kernel) rfl, ?_⟩
  refine List.forall_mem_cons.mpr ⟨ok_iaload C (show decode cX11_keep 77 = .ok (.iaload, 1) by decide +kernel) rfl, ?_⟩
  refine List.forall_mem_cons.mpr ⟨ok_iastore C (show decode cX11_keep 78 = .ok (.iastore, 1) by decide +kernel) rfl, ?_⟩
  refine List.forall_mem_cons.mpr ⟨ok_iinc C (show decode cX11_keep 79 = .ok (.iinc 1 1, 3) by decide +kernel) (by decide) (by decide) rfl, ?_⟩
  refine List.forall_mem_cons.mpr ⟨ok_goto C (show decode cX11_keep 82 = .ok (.goto (-34), 3) by decide +kernel) (tg := 48) (by decide) rfl, ?_⟩
  refine List.forall_mem_cons.mpr ⟨ok_aload_n C (show decode cX11_keep 85 = .ok (.aload_n 0, 1) by decide +kernel) rfl rfl, ?_⟩
  refine List.forall_mem_cons.mpr ⟨ok_dup C (show decode cX11_keep 86 = .ok (.dup, 1) by decide +kernel) rfl, ?_⟩
  refine List.forall_mem_cons.mpr ⟨ok_getf C (wi_X11) rfl (by decide) kw_1205 (show decode cX11_keep 87 = .ok (.getfield 236, 3) by decide +kernel) rfl, ?_⟩
  refine List.forall_mem_cons.mpr ⟨ok_iconst C (show decode cX11_keep 90 = .ok (.iconst 1, 1) by decide +kernel) (by decide) rfl, ?_⟩
  refine List.forall_mem_cons.mpr ⟨ok_iadd C (show decode cX11_keep 91 = .ok (.iadd, 1) by decide +kernel) rfl, ?_⟩
  refine List.forall_mem_cons.mpr ⟨ok_putf C (wi_X11) tyX11 tyX11_ok nmX11 rfl (by decide) kw_1205 (Or.inl rfl) (Or.inl ⟨rfl, rfl⟩) (show decode cX11_keep 92 = .ok (.putfield 236, 3) by decide +kernel) rfl, ?_⟩
  refine List.forall_mem_cons.mpr ⟨ok_vret C rfl (show decode cX11_keep 95 = .ok (.return_, 1) by decide +kernel), ?_⟩
  exact fun _ h => absurd h List.not_mem_nil
def L_X11_hoard (f_X11_isPlace : List Value → ab_H → Option ab_O) (f_X11_isIn : List Value → ab_H → Option ab_O) (f_X11_cell : List Value → ab_H → Option ab_O) (f_X11_whyHoard : List Value → ab_H → Option ab_O) (f_X11_keep : List Value → ab_H → Option ab_O) (f_X11_hoards : List Value → ab_H → Option ab_O) : List (Nat × ab_A) := [
  (0, ab_nx 1 (ab_aload 0)),
  (1, ab_nx 2 (ab_lit (.int 0))),
  (2, ab_nx 5 (ab_putf 11 0 0)),
  (5, ab_nx 6 (ab_aload 0)),
  (6, ab_nx 7 (ab_iload 1)),
  (7, ab_nx 8 (ab_iload 2)),
  (8, ab_nx 11 (ab_callV 3 11 f_X11_isPlace 0 0 0 0)),
  (11, ab_if 14 25 (fun x => decide (x = 0))),
  (14, ab_nx 15 (ab_iload 3)),
  (15, ab_nx 16 (ab_lit (.int 1))),
  (16, ab_nx 19 (ab_lit (.int 250))),
  (19, ab_nx 22 (ab_call 3 f_X11_isIn 0 0 0 0)),
  (22, ab_if 25 27 (fun x => !decide (x = 0))),
  (25, ab_nx 26 (ab_lit (.int (-1)))),
  (26, ab_ret 0 0),
  (27, ab_nx 28 (ab_aload 0)),
  (28, ab_nx 29 (ab_iload 1)),
  (29, ab_nx 30 (ab_iload 2)),
  (30, ab_nx 33 (ab_call 2 f_X11_cell 0 0 0 0)),
  (33, ab_nx 34 (ab_iload 3)),
  (34, ab_nx 37 (ab_callV 3 11 f_X11_whyHoard 0 0 0 0)),
  (37, ab_if 40 42 (fun x => decide (x ≤ 0))),
  (40, ab_nx 41 (ab_lit (.int 1))),
  (41, ab_ret 0 0),
  (42, ab_nx 43 (ab_aload 0)),
  (43, ab_nx 46 (ab_callV 1 11 f_X11_keep 0 0 0 0)),
  (46, ab_nx 47 (ab_aload 0)),
  (47, ab_nx 48 (ab_iload 1)),
  (48, ab_nx 49 (ab_iload 2)),
  (49, ab_nx 52 (ab_call 2 f_X11_cell 0 0 0 0)),
  (52, ab_nx 53 (ab_iload 3)),
  (53, ab_nx 56 (ab_callV 3 11 f_X11_hoards 0 0 0 0)),
  (56, ab_nx 57 (ab_lit (.int 0))),
  (57, ab_ret 0 0)]
set_option maxRecDepth 100000 in
set_option maxHeartbeats 4000000 in
theorem M_X11_hoard {l : Launch} {b : ab_B} {D : va_G} {cA : Nat → ClassId} {f_X11_isPlace : List Value → ab_H → Option ab_O} (h_X11_isPlace : ab_M l b D ab_cl cA (ab_E0 b) yX11_isPlace (Cond.code yX11_isPlace cX11_isPlace 3 (some .boolean) :: ab_G) ({ frames := 3, cells := 0, slots := 0, locals := 300 } : Room) f_X11_isPlace) {f_X11_isIn : List Value → ab_H → Option ab_O} (h_X11_isIn : ab_M l b D ab_cl cA (ab_E0 b) yX11_isIn (Cond.code yX11_isIn cX11_isIn 3 (some .boolean) :: ab_G) ({ frames := 1, cells := 0, slots := 0, locals := 100 } : Room) f_X11_isIn) {f_X11_cell : List Value → ab_H → Option ab_O} (h_X11_cell : ab_M l b D ab_cl cA (ab_E0 b) yX11_cell (Cond.code yX11_cell cX11_cell 2 (some .int) :: ab_G) ({ frames := 1, cells := 0, slots := 0, locals := 100 } : Room) f_X11_cell) {f_X11_whyHoard : List Value → ab_H → Option ab_O} (h_X11_whyHoard : ab_M l b D ab_cl cA (ab_E0 b) yX11_whyHoard (Cond.code yX11_whyHoard cX11_whyHoard 3 (some .int) :: ab_G) ({ frames := 1, cells := 0, slots := 0, locals := 100 } : Room) f_X11_whyHoard) {f_X11_keep : List Value → ab_H → Option ab_O} (h_X11_keep : ab_M l b D ab_cl cA (ab_E0 b) yX11_keep (Cond.code yX11_keep cX11_keep 2 none :: ab_G) ({ frames := 1, cells := 0, slots := 0, locals := 100 } : Room) f_X11_keep) {f_X11_hoards : List Value → ab_H → Option ab_O} (h_X11_hoards : ab_M l b D ab_cl cA (ab_E0 b) yX11_hoards (Cond.code yX11_hoards cX11_hoards 3 none :: ab_G) ({ frames := 1, cells := 0, slots := 0, locals := 100 } : Room) f_X11_hoards) : ab_M l b D ab_cl cA (ab_E0 b) yX11_hoard (Cond.code yX11_hoard cX11_hoard 4 (some .int) :: ab_G) ({ frames := 4, cells := 0, slots := 0, locals := 400 } : Room) (ab_X (ab_T (L_X11_hoard f_X11_isPlace f_X11_isIn f_X11_cell f_X11_whyHoard f_X11_keep f_X11_hoards)) 4) := by
  refine ab_meth (ret := (some .int)) (L_X11_hoard f_X11_isPlace f_X11_isIn f_X11_cell f_X11_whyHoard f_X11_keep f_X11_hoards) (by decide) rfl fun p e R s m args below meth c o C => ?_
  unfold L_X11_hoard
  refine List.forall_mem_cons.mpr ⟨ok_aload_n C (show decode cX11_hoard 0 = .ok (.aload_n 0, 1) by decide +kernel) rfl rfl, ?_⟩
  refine List.forall_mem_cons.mpr ⟨ok_iconst C (show decode cX11_hoard 1 = .ok (.iconst 0, 1) by decide +kernel) (by decide) rfl, ?_⟩
  refine List.forall_mem_cons.mpr ⟨ok_putf C (wi_X11) tyX11 tyX11_ok nmX11 rfl (by decide) kw_1180 (Or.inl rfl) (Or.inl ⟨rfl, rfl⟩) (show decode cX11_hoard 2 = .ok (.putfield 1, 3) by decide +kernel) rfl, ?_⟩
  refine List.forall_mem_cons.mpr ⟨ok_aload_n C (show decode cX11_hoard 5 = .ok (.aload_n 0, 1) by decide +kernel) rfl rfl, ?_⟩
  refine List.forall_mem_cons.mpr ⟨ok_iload_n C (show decode cX11_hoard 6 = .ok (.iload_n 1, 1) by decide +kernel) rfl rfl, ?_⟩
  refine List.forall_mem_cons.mpr ⟨ok_iload_n C (show decode cX11_hoard 7 = .ok (.iload_n 2, 1) by decide +kernel) rfl rfl, ?_⟩
  refine List.forall_mem_cons.mpr ⟨ok_callV C h_X11_isPlace ⟨rfl, rfl⟩ rfl kw_1402 kw_1399 kw_1401 kp_64 kw_11 rfl ds_X11_isPlace ⟨by decide, by decide⟩ (show decode cX11_hoard 8 = .ok (.invokevirtual 251, 3) by decide +kernel) rfl, ?_⟩
  refine List.forall_mem_cons.mpr ⟨ok_ifeq C (show decode cX11_hoard 11 = .ok (.ifCond .eq 14, 3) by decide +kernel) (tg := 25) (by decide) rfl rfl, ?_⟩
  refine List.forall_mem_cons.mpr ⟨ok_iload_n C (show decode cX11_hoard 14 = .ok (.iload_n 3, 1) by decide +kernel) rfl rfl, ?_⟩
  refine List.forall_mem_cons.mpr ⟨ok_iconst C (show decode cX11_hoard 15 = .ok (.iconst 1, 1) by decide +kernel) (by decide) rfl, ?_⟩
  refine List.forall_mem_cons.mpr ⟨ok_sipush C (show decode cX11_hoard 16 = .ok (.sipush 250, 3) by decide +kernel) (by decide) rfl, ?_⟩
  refine List.forall_mem_cons.mpr ⟨ok_callS C h_X11_isIn ⟨rfl, rfl⟩ kw_1355 kw_1353 kw_1354 kw_11 ds_X11_isIn ⟨by decide, by decide⟩ (show decode cX11_hoard 19 = .ok (.invokestatic 179, 3) by decide +kernel) rfl, ?_⟩
  refine List.forall_mem_cons.mpr ⟨ok_ifne C (show decode cX11_hoard 22 = .ok (.ifCond .ne 5, 3) by decide +kernel) (tg := 27) (by decide) rfl rfl, ?_⟩
  refine List.forall_mem_cons.mpr ⟨ok_iconst C (show decode cX11_hoard 25 = .ok (.iconst (-1), 1) by decide +kernel) (by decide) rfl, ?_⟩
  refine List.forall_mem_cons.mpr ⟨ok_ret C rfl (show decode cX11_hoard 26 = .ok (.ireturn, 1) by decide +kernel), ?_⟩
  refine List.forall_mem_cons.mpr ⟨ok_aload_n C (show decode cX11_hoard 27 = .ok (.aload_n 0, 1) by decide +kernel) rfl rfl, ?_⟩
  refine List.forall_mem_cons.mpr ⟨ok_iload_n C (show decode cX11_hoard 28 = .ok (.iload_n 1, 1) by decide +kernel) rfl rfl, ?_⟩
  refine List.forall_mem_cons.mpr ⟨ok_iload_n C (show decode cX11_hoard 29 = .ok (.iload_n 2, 1) by decide +kernel) rfl rfl, ?_⟩
  refine List.forall_mem_cons.mpr ⟨ok_callS C h_X11_cell ⟨rfl, rfl⟩ kw_1413 kw_1411 kw_1412 kw_11 ds_X11_cell ⟨by decide, by decide⟩ (show decode cX11_hoard 30 = .ok (.invokestatic 245, 3) by decide +kernel) rfl, ?_⟩
  refine List.forall_mem_cons.mpr ⟨ok_iload_n C (show decode cX11_hoard 33 = .ok (.iload_n 3, 1) by decide +kernel) rfl rfl, ?_⟩
  refine List.forall_mem_cons.mpr ⟨ok_callV C h_X11_whyHoard ⟨rfl, rfl⟩ rfl kw_1477 kw_1474 kw_1476 kp_77 kw_11 rfl ds_X11_whyHoard ⟨by decide, by decide⟩ (show decode cX11_hoard 34 = .ok (.invokevirtual 301, 3) by decide +kernel) rfl, ?_⟩
  refine List.forall_mem_cons.mpr ⟨ok_ifle C (show decode cX11_hoard 37 = .ok (.ifCond .le 5, 3) by decide +kernel) (tg := 42) (by decide) rfl rfl, ?_⟩
  refine List.forall_mem_cons.mpr ⟨ok_iconst C (show decode cX11_hoard 40 = .ok (.iconst 1, 1) by decide +kernel) (by decide) rfl, ?_⟩
  refine List.forall_mem_cons.mpr ⟨ok_ret C rfl (show decode cX11_hoard 41 = .ok (.ireturn, 1) by decide +kernel), ?_⟩
  refine List.forall_mem_cons.mpr ⟨ok_aload_n C (show decode cX11_hoard 42 = .ok (.aload_n 0, 1) by decide +kernel) rfl rfl, ?_⟩
  refine List.forall_mem_cons.mpr ⟨ok_callV C h_X11_keep ⟨rfl, rfl⟩ rfl kw_1481 kw_1478 kw_1480 kp_78 kw_11 rfl ds_X11_keep ⟨by decide, by decide⟩ (show decode cX11_hoard 43 = .ok (.invokevirtual 304, 3) by decide +kernel) rfl, ?_⟩
  refine List.forall_mem_cons.mpr ⟨ok_aload_n C (show decode cX11_hoard 46 = .ok (.aload_n 0, 1) by decide +kernel) rfl rfl, ?_⟩
  refine List.forall_mem_cons.mpr ⟨ok_iload_n C (show decode cX11_hoard 47 = .ok (.iload_n 1, 1) by decide +kernel) rfl rfl, ?_⟩
  refine List.forall_mem_cons.mpr ⟨ok_iload_n C (show decode cX11_hoard 48 = .ok (.iload_n 2, 1) by decide +kernel) rfl rfl, ?_⟩
  refine List.forall_mem_cons.mpr ⟨ok_callS C h_X11_cell ⟨rfl, rfl⟩ kw_1413 kw_1411 kw_1412 kw_11 ds_X11_cell ⟨by decide, by decide⟩ (show decode cX11_hoard 49 = .ok (.invokestatic 245, 3) by decide +kernel) rfl, ?_⟩
  refine List.forall_mem_cons.mpr ⟨ok_iload_n C (show decode cX11_hoard 52 = .ok (.iload_n 3, 1) by decide +kernel) rfl rfl, ?_⟩
  refine List.forall_mem_cons.mpr ⟨ok_callV C h_X11_hoards ⟨rfl, rfl⟩ rfl kw_1485 kw_1482 kw_1484 kp_79 kw_11 rfl ds_X11_hoards ⟨by decide, by decide⟩ (show decode cX11_hoard 53 = .ok (.invokevirtual 307, 3) by decide +kernel) rfl, ?_⟩
  refine List.forall_mem_cons.mpr ⟨ok_iconst C (show decode cX11_hoard 56 = .ok (.iconst 0, 1) by decide +kernel) (by decide) rfl, ?_⟩
  refine List.forall_mem_cons.mpr ⟨ok_ret C rfl (show decode cX11_hoard 57 = .ok (.ireturn, 1) by decide +kernel), ?_⟩
  exact fun _ h => absurd h List.not_mem_nil
def L_X11_bare (f_X11_isPlace : List Value → ab_H → Option ab_O) (f_X11_isIn : List Value → ab_H → Option ab_O) (f_X11_cell : List Value → ab_H → Option ab_O) (f_X11_whyBare : List Value → ab_H → Option ab_O) (f_X11_keep : List Value → ab_H → Option ab_O) (f_X11_hoards : List Value → ab_H → Option ab_O) : List (Nat × ab_A) := [
  (0, ab_nx 1 (ab_aload 0)),
  (1, ab_nx 2 (ab_lit (.int 0))),
  (2, ab_nx 5 (ab_putf 11 0 0)),
  (5, ab_nx 6 (ab_aload 0)),
  (6, ab_nx 7 (ab_iload 1)),
  (7, ab_nx 8 (ab_iload 2)),
  (8, ab_nx 11 (ab_callV 3 11 f_X11_isPlace 0 0 0 0)),
  (11, ab_if 14 25 (fun x => decide (x = 0))),
  (14, ab_nx 15 (ab_iload 3)),
  (15, ab_nx 16 (ab_lit (.int 1))),
  (16, ab_nx 19 (ab_lit (.int 250))),
  (19, ab_nx 22 (ab_call 3 f_X11_isIn 0 0 0 0)),
  (22, ab_if 25 27 (fun x => !decide (x = 0))),
  (25, ab_nx 26 (ab_lit (.int (-1)))),
  (26, ab_ret 0 0),
  (27, ab_nx 28 (ab_aload 0)),
  (28, ab_nx 29 (ab_iload 1)),
  (29, ab_nx 30 (ab_iload 2)),
  (30, ab_nx 33 (ab_call 2 f_X11_cell 0 0 0 0)),
  (33, ab_nx 34 (ab_iload 3)),
  (34, ab_nx 37 (ab_callV 3 11 f_X11_whyBare 0 0 0 0)),
  (37, ab_nx 39 (ab_istore 4)),
  (39, ab_nx 41 (ab_iload 4)),
  (41, ab_if 44 47 (fun x => decide (x ≤ 0))),
  (44, ab_nx 46 (ab_iload 4)),
  (46, ab_ret 0 0),
  (47, ab_nx 48 (ab_aload 0)),
  (48, ab_nx 51 (ab_callV 1 11 f_X11_keep 0 0 0 0)),
  (51, ab_nx 52 (ab_aload 0)),
  (52, ab_nx 53 (ab_iload 1)),
  (53, ab_nx 54 (ab_iload 2)),
  (54, ab_nx 57 (ab_call 2 f_X11_cell 0 0 0 0)),
  (57, ab_nx 58 (ab_iload 3)),
  (58, ab_nx 59 (ab_un (fun x => -x))),
  (59, ab_nx 62 (ab_callV 3 11 f_X11_hoards 0 0 0 0)),
  (62, ab_nx 63 (ab_lit (.int 0))),
  (63, ab_ret 0 0)]
set_option maxRecDepth 100000 in
set_option maxHeartbeats 4000000 in
theorem M_X11_bare {l : Launch} {b : ab_B} {D : va_G} {cA : Nat → ClassId} {f_X11_isPlace : List Value → ab_H → Option ab_O} (h_X11_isPlace : ab_M l b D ab_cl cA (ab_E0 b) yX11_isPlace (Cond.code yX11_isPlace cX11_isPlace 3 (some .boolean) :: ab_G) ({ frames := 3, cells := 0, slots := 0, locals := 300 } : Room) f_X11_isPlace) {f_X11_isIn : List Value → ab_H → Option ab_O} (h_X11_isIn : ab_M l b D ab_cl cA (ab_E0 b) yX11_isIn (Cond.code yX11_isIn cX11_isIn 3 (some .boolean) :: ab_G) ({ frames := 1, cells := 0, slots := 0, locals := 100 } : Room) f_X11_isIn) {f_X11_cell : List Value → ab_H → Option ab_O} (h_X11_cell : ab_M l b D ab_cl cA (ab_E0 b) yX11_cell (Cond.code yX11_cell cX11_cell 2 (some .int) :: ab_G) ({ frames := 1, cells := 0, slots := 0, locals := 100 } : Room) f_X11_cell) {f_X11_whyBare : List Value → ab_H → Option ab_O} (h_X11_whyBare : ab_M l b D ab_cl cA (ab_E0 b) yX11_whyBare (Cond.code yX11_whyBare cX11_whyBare 3 (some .int) :: ab_G) ({ frames := 1, cells := 0, slots := 0, locals := 100 } : Room) f_X11_whyBare) {f_X11_keep : List Value → ab_H → Option ab_O} (h_X11_keep : ab_M l b D ab_cl cA (ab_E0 b) yX11_keep (Cond.code yX11_keep cX11_keep 2 none :: ab_G) ({ frames := 1, cells := 0, slots := 0, locals := 100 } : Room) f_X11_keep) {f_X11_hoards : List Value → ab_H → Option ab_O} (h_X11_hoards : ab_M l b D ab_cl cA (ab_E0 b) yX11_hoards (Cond.code yX11_hoards cX11_hoards 3 none :: ab_G) ({ frames := 1, cells := 0, slots := 0, locals := 100 } : Room) f_X11_hoards) : ab_M l b D ab_cl cA (ab_E0 b) yX11_bare (Cond.code yX11_bare cX11_bare 5 (some .int) :: ab_G) ({ frames := 4, cells := 0, slots := 0, locals := 400 } : Room) (ab_X (ab_T (L_X11_bare f_X11_isPlace f_X11_isIn f_X11_cell f_X11_whyBare f_X11_keep f_X11_hoards)) 5) := by
  refine ab_meth (ret := (some .int)) (L_X11_bare f_X11_isPlace f_X11_isIn f_X11_cell f_X11_whyBare f_X11_keep f_X11_hoards) (by decide) rfl fun p e R s m args below meth c o C => ?_
  unfold L_X11_bare
  refine List.forall_mem_cons.mpr ⟨ok_aload_n C (show decode cX11_bare 0 = .ok (.aload_n 0, 1) by decide +kernel) rfl rfl, ?_⟩
  refine List.forall_mem_cons.mpr ⟨ok_iconst C (show decode cX11_bare 1 = .ok (.iconst 0, 1) by decide +kernel) (by decide) rfl, ?_⟩
  refine List.forall_mem_cons.mpr ⟨ok_putf C (wi_X11) tyX11 tyX11_ok nmX11 rfl (by decide) kw_1180 (Or.inl rfl) (Or.inl ⟨rfl, rfl⟩) (show decode cX11_bare 2 = .ok (.putfield 1, 3) by decide +kernel) rfl, ?_⟩
  refine List.forall_mem_cons.mpr ⟨ok_aload_n C (show decode cX11_bare 5 = .ok (.aload_n 0, 1) by decide +kernel) rfl rfl, ?_⟩
  refine List.forall_mem_cons.mpr ⟨ok_iload_n C (show decode cX11_bare 6 = .ok (.iload_n 1, 1) by decide +kernel) rfl rfl, ?_⟩
  refine List.forall_mem_cons.mpr ⟨ok_iload_n C (show decode cX11_bare 7 = .ok (.iload_n 2, 1) by decide +kernel) rfl rfl, ?_⟩
  refine List.forall_mem_cons.mpr ⟨ok_callV C h_X11_isPlace ⟨rfl, rfl⟩ rfl kw_1402 kw_1399 kw_1401 kp_64 kw_11 rfl ds_X11_isPlace ⟨by decide, by decide⟩ (show decode cX11_bare 8 = .ok (.invokevirtual 251, 3) by decide +kernel) rfl, ?_⟩
  refine List.forall_mem_cons.mpr ⟨ok_ifeq C (show decode cX11_bare 11 = .ok (.ifCond .eq 14, 3) by decide +kernel) (tg := 25) (by decide) rfl rfl, ?_⟩
  refine List.forall_mem_cons.mpr ⟨ok_iload_n C (show decode cX11_bare 14 = .ok (.iload_n 3, 1) by decide +kernel) rfl rfl, ?_⟩
  refine List.forall_mem_cons.mpr ⟨ok_iconst C (show decode cX11_bare 15 = .ok (.iconst 1, 1) by decide +kernel) (by decide) rfl, ?_⟩
  refine List.forall_mem_cons.mpr ⟨ok_sipush C (show decode cX11_bare 16 = .ok (.sipush 250, 3) by decide +kernel) (by decide) rfl, ?_⟩
  refine List.forall_mem_cons.mpr ⟨ok_callS C h_X11_isIn ⟨rfl, rfl⟩ kw_1355 kw_1353 kw_1354 kw_11 ds_X11_isIn ⟨by decide, by decide⟩ (show decode cX11_bare 19 = .ok (.invokestatic 179, 3) by decide +kernel) rfl, ?_⟩
  refine List.forall_mem_cons.mpr ⟨ok_ifne C (show decode cX11_bare 22 = .ok (.ifCond .ne 5, 3) by decide +kernel) (tg := 27) (by decide) rfl rfl, ?_⟩
  refine List.forall_mem_cons.mpr ⟨ok_iconst C (show decode cX11_bare 25 = .ok (.iconst (-1), 1) by decide +kernel) (by decide) rfl, ?_⟩
  refine List.forall_mem_cons.mpr ⟨ok_ret C rfl (show decode cX11_bare 26 = .ok (.ireturn, 1) by decide +kernel), ?_⟩
  refine List.forall_mem_cons.mpr ⟨ok_aload_n C (show decode cX11_bare 27 = .ok (.aload_n 0, 1) by decide +kernel) rfl rfl, ?_⟩
  refine List.forall_mem_cons.mpr ⟨ok_iload_n C (show decode cX11_bare 28 = .ok (.iload_n 1, 1) by decide +kernel) rfl rfl, ?_⟩
  refine List.forall_mem_cons.mpr ⟨ok_iload_n C (show decode cX11_bare 29 = .ok (.iload_n 2, 1) by decide +kernel) rfl rfl, ?_⟩
  refine List.forall_mem_cons.mpr ⟨ok_callS C h_X11_cell ⟨rfl, rfl⟩ kw_1413 kw_1411 kw_1412 kw_11 ds_X11_cell ⟨by decide, by decide⟩ (show decode cX11_bare 30 = .ok (.invokestatic 245, 3) by decide +kernel) rfl, ?_⟩
  refine List.forall_mem_cons.mpr ⟨ok_iload_n C (show decode cX11_bare 33 = .ok (.iload_n 3, 1) by decide +kernel) rfl rfl, ?_⟩
  refine List.forall_mem_cons.mpr ⟨ok_callV C h_X11_whyBare ⟨rfl, rfl⟩ rfl kw_1493 kw_1490 kw_1492 kp_80 kw_11 rfl ds_X11_whyBare ⟨by decide, by decide⟩ (show decode cX11_bare 34 = .ok (.invokevirtual 311, 3) by decide +kernel) rfl, ?_⟩
  refine List.forall_mem_cons.mpr ⟨ok_istore C (show decode cX11_bare 37 = .ok (.istore 4, 2) by decide +kernel) (by decide) rfl, ?_⟩
  refine List.forall_mem_cons.mpr ⟨ok_iload C (show decode cX11_bare 39 = .ok (.iload 4, 2) by decide +kernel) rfl, ?_⟩
  refine List.forall_mem_cons.mpr ⟨ok_ifle C (show decode cX11_bare 41 = .ok (.ifCond .le 6, 3) by decide +kernel) (tg := 47) (by decide) rfl rfl, ?_⟩
  refine List.forall_mem_cons.mpr ⟨ok_iload C (show decode cX11_bare 44 = .ok (.iload 4, 2) by decide +kernel) rfl, ?_⟩
  refine List.forall_mem_cons.mpr ⟨ok_ret C rfl (show decode cX11_bare 46 = .ok (.ireturn, 1) by decide +kernel), ?_⟩
  refine List.forall_mem_cons.mpr ⟨ok_aload_n C (show decode cX11_bare 47 = .ok (.aload_n 0, 1) by decide +kernel) rfl rfl, ?_⟩
  refine List.forall_mem_cons.mpr ⟨ok_callV C h_X11_keep ⟨rfl, rfl⟩ rfl kw_1481 kw_1478 kw_1480 kp_78 kw_11 rfl ds_X11_keep ⟨by decide, by decide⟩ (show decode cX11_bare 48 = .ok (.invokevirtual 304, 3) by decide +kernel) rfl, ?_⟩
  refine List.forall_mem_cons.mpr ⟨ok_aload_n C (show decode cX11_bare 51 = .ok (.aload_n 0, 1) by decide +kernel) rfl rfl, ?_⟩
  refine List.forall_mem_cons.mpr ⟨ok_iload_n C (show decode cX11_bare 52 = .ok (.iload_n 1, 1) by decide +kernel) rfl rfl, ?_⟩
  refine List.forall_mem_cons.mpr ⟨ok_iload_n C (show decode cX11_bare 53 = .ok (.iload_n 2, 1) by decide +kernel) rfl rfl, ?_⟩
  refine List.forall_mem_cons.mpr ⟨ok_callS C h_X11_cell ⟨rfl, rfl⟩ kw_1413 kw_1411 kw_1412 kw_11 ds_X11_cell ⟨by decide, by decide⟩ (show decode cX11_bare 54 = .ok (.invokestatic 245, 3) by decide +kernel) rfl, ?_⟩
  refine List.forall_mem_cons.mpr ⟨ok_iload_n C (show decode cX11_bare 57 = .ok (.iload_n 3, 1) by decide +kernel) rfl rfl, ?_⟩
  refine List.forall_mem_cons.mpr ⟨ok_ineg C (show decode cX11_bare 58 = .ok (.ineg, 1) by decide +kernel) rfl, ?_⟩
  refine List.forall_mem_cons.mpr ⟨ok_callV C h_X11_hoards ⟨rfl, rfl⟩ rfl kw_1485 kw_1482 kw_1484 kp_79 kw_11 rfl ds_X11_hoards ⟨by decide, by decide⟩ (show decode cX11_bare 59 = .ok (.invokevirtual 307, 3) by decide +kernel) rfl, ?_⟩
  refine List.forall_mem_cons.mpr ⟨ok_iconst C (show decode cX11_bare 62 = .ok (.iconst 0, 1) by decide +kernel) (by decide) rfl, ?_⟩
  refine List.forall_mem_cons.mpr ⟨ok_ret C rfl (show decode cX11_bare 63 = .ok (.ireturn, 1) by decide +kernel), ?_⟩
  exact fun _ h => absurd h List.not_mem_nil
def L_X11_waste (f_X11_isPlace : List Value → ab_H → Option ab_O) (f_X11_isIn : List Value → ab_H → Option ab_O) (f_X11_cell : List Value → ab_H → Option ab_O) (f_X11_whyHoard : List Value → ab_H → Option ab_O) (f_X11_keep : List Value → ab_H → Option ab_O) : List (Nat × ab_A) := [
  (0, ab_nx 1 (ab_aload 0)),
  (1, ab_nx 2 (ab_lit (.int 0))),
  (2, ab_nx 5 (ab_putf 11 0 0)),
  (5, ab_nx 6 (ab_aload 0)),
  (6, ab_nx 7 (ab_iload 1)),
  (7, ab_nx 8 (ab_iload 2)),
  (8, ab_nx 11 (ab_callV 3 11 f_X11_isPlace 0 0 0 0)),
  (11, ab_if 14 25 (fun x => decide (x = 0))),
  (14, ab_nx 15 (ab_iload 3)),
  (15, ab_nx 16 (ab_lit (.int 1))),
  (16, ab_nx 19 (ab_lit (.int 250))),
  (19, ab_nx 22 (ab_call 3 f_X11_isIn 0 0 0 0)),
  (22, ab_if 25 27 (fun x => !decide (x = 0))),
  (25, ab_nx 26 (ab_lit (.int (-1)))),
  (26, ab_ret 0 0),
  (27, ab_nx 28 (ab_aload 0)),
  (28, ab_nx 29 (ab_iload 1)),
  (29, ab_nx 30 (ab_iload 2)),
  (30, ab_nx 33 (ab_call 2 f_X11_cell 0 0 0 0)),
  (33, ab_nx 34 (ab_iload 3)),
  (34, ab_nx 37 (ab_callV 3 11 f_X11_whyHoard 0 0 0 0)),
  (37, ab_if 40 42 (fun x => decide (x ≤ 0))),
  (40, ab_nx 41 (ab_lit (.int 1))),
  (41, ab_ret 0 0),
  (42, ab_nx 43 (ab_aload 0)),
  (43, ab_nx 46 (ab_callV 1 11 f_X11_keep 0 0 0 0)),
  (46, ab_nx 47 (ab_aload 0)),
  (47, ab_nx 50 (ab_getf 11 6)),
  (50, ab_nx 52 (ab_lit (.int 124))),
  (52, ab_nx 53 (ab_iload 1)),
  (53, ab_nx 54 (ab_iload 2)),
  (54, ab_nx 57 (ab_call 2 f_X11_cell 0 0 0 0)),
  (57, ab_nx 58 (ab_bin (fun x y => x + y))),
  (58, ab_nx 59 ab_dup2),
  (59, ab_nx 60 (ab_ald 1)),
  (60, ab_nx 61 (ab_iload 3)),
  (61, ab_nx 62 (ab_bin (fun x y => x - y))),
  (62, ab_nx 63 (ab_ast 1)),
  (63, ab_nx 64 (ab_lit (.int 0))),
  (64, ab_ret 0 0)]
set_option maxRecDepth 100000 in
set_option maxHeartbeats 4000000 in
theorem M_X11_waste {l : Launch} {b : ab_B} {D : va_G} {cA : Nat → ClassId} {f_X11_isPlace : List Value → ab_H → Option ab_O} (h_X11_isPlace : ab_M l b D ab_cl cA (ab_E0 b) yX11_isPlace (Cond.code yX11_isPlace cX11_isPlace 3 (some .boolean) :: ab_G) ({ frames := 3, cells := 0, slots := 0, locals := 300 } : Room) f_X11_isPlace) {f_X11_isIn : List Value → ab_H → Option ab_O} (h_X11_isIn : ab_M l b D ab_cl cA (ab_E0 b) yX11_isIn (Cond.code yX11_isIn cX11_isIn 3 (some .boolean) :: ab_G) ({ frames := 1, cells := 0, slots := 0, locals := 100 } : Room) f_X11_isIn) {f_X11_cell : List Value → ab_H → Option ab_O} (h_X11_cell : ab_M l b D ab_cl cA (ab_E0 b) yX11_cell (Cond.code yX11_cell cX11_cell 2 (some .int) :: ab_G) ({ frames := 1, cells := 0, slots := 0, locals := 100 } : Room) f_X11_cell) {f_X11_whyHoard : List Value → ab_H → Option ab_O} (h_X11_whyHoard : ab_M l b D ab_cl cA (ab_E0 b) yX11_whyHoard (Cond.code yX11_whyHoard cX11_whyHoard 3 (some .int) :: ab_G) ({ frames := 1, cells := 0, slots := 0, locals := 100 } : Room) f_X11_whyHoard) {f_X11_keep : List Value → ab_H → Option ab_O} (h_X11_keep : ab_M l b D ab_cl cA (ab_E0 b) yX11_keep (Cond.code yX11_keep cX11_keep 2 none :: ab_G) ({ frames := 1, cells := 0, slots := 0, locals := 100 } : Room) f_X11_keep) : ab_M l b D ab_cl cA (ab_E0 b) yX11_waste (Cond.code yX11_waste cX11_waste 4 (some .int) :: ab_G) ({ frames := 4, cells := 0, slots := 0, locals := 400 } : Room) (ab_X (ab_T (L_X11_waste f_X11_isPlace f_X11_isIn f_X11_cell f_X11_whyHoard f_X11_keep)) 4) := by
  refine ab_meth (ret := (some .int)) (L_X11_waste f_X11_isPlace f_X11_isIn f_X11_cell f_X11_whyHoard f_X11_keep) (by decide) rfl fun p e R s m args below meth c o C => ?_
  unfold L_X11_waste
  refine List.forall_mem_cons.mpr ⟨ok_aload_n C (show decode cX11_waste 0 = .ok (.aload_n 0, 1) by decide +kernel) rfl rfl, ?_⟩
  refine List.forall_mem_cons.mpr ⟨ok_iconst C (show decode cX11_waste 1 = .ok (.iconst 0, 1) by decide +kernel) (by decide) rfl, ?_⟩
  refine List.forall_mem_cons.mpr ⟨ok_putf C (wi_X11) tyX11 tyX11_ok nmX11 rfl (by decide) kw_1180 (Or.inl rfl) (Or.inl ⟨rfl, rfl⟩) (show decode cX11_waste 2 = .ok (.putfield 1, 3) by decide +kernel) rfl, ?_⟩
  refine List.forall_mem_cons.mpr ⟨ok_aload_n C (show decode cX11_waste 5 = .ok (.aload_n 0, 1) by decide +kernel) rfl rfl, ?_⟩
  refine List.forall_mem_cons.mpr ⟨ok_iload_n C (show decode cX11_waste 6 = .ok (.iload_n 1, 1) by decide +kernel) rfl rfl, ?_⟩
  refine List.forall_mem_cons.mpr ⟨ok_iload_n C (show decode cX11_waste 7 = .ok (.iload_n 2, 1) by decide +kernel) rfl rfl, ?_⟩
  refine List.forall_mem_cons.mpr ⟨ok_callV C h_X11_isPlace ⟨rfl, rfl⟩ rfl kw_1402 kw_1399 kw_1401 kp_64 kw_11 rfl ds_X11_isPlace ⟨by decide, by decide⟩ (show decode cX11_waste 8 = .ok (.invokevirtual 251, 3) by decide +kernel) rfl, ?_⟩
  refine List.forall_mem_cons.mpr ⟨ok_ifeq C (show decode cX11_waste 11 = .ok (.ifCond .eq 14, 3) by decide +kernel) (tg := 25) (by decide) rfl rfl, ?_⟩
  refine List.forall_mem_cons.mpr ⟨ok_iload_n C (show decode cX11_waste 14 = .ok (.iload_n 3, 1) by decide +kernel) rfl rfl, ?_⟩
  refine List.forall_mem_cons.mpr ⟨ok_iconst C (show decode cX11_waste 15 = .ok (.iconst 1, 1) by decide +kernel) (by decide) rfl, ?_⟩
  refine List.forall_mem_cons.mpr ⟨ok_sipush C (show decode cX11_waste 16 = .ok (.sipush 250, 3) by decide +kernel) (by decide) rfl, ?_⟩
  refine List.forall_mem_cons.mpr ⟨ok_callS C h_X11_isIn ⟨rfl, rfl⟩ kw_1355 kw_1353 kw_1354 kw_11 ds_X11_isIn ⟨by decide, by decide⟩ (show decode cX11_waste 19 = .ok (.invokestatic 179, 3) by decide +kernel) rfl, ?_⟩
  refine List.forall_mem_cons.mpr ⟨ok_ifne C (show decode cX11_waste 22 = .ok (.ifCond .ne 5, 3) by decide +kernel) (tg := 27) (by decide) rfl rfl, ?_⟩
  refine List.forall_mem_cons.mpr ⟨ok_iconst C (show decode cX11_waste 25 = .ok (.iconst (-1), 1) by decide +kernel) (by decide) rfl, ?_⟩
  refine List.forall_mem_cons.mpr ⟨ok_ret C rfl (show decode cX11_waste 26 = .ok (.ireturn, 1) by decide +kernel), ?_⟩
  refine List.forall_mem_cons.mpr ⟨ok_aload_n C (show decode cX11_waste 27 = .ok (.aload_n 0, 1) by decide +kernel) rfl rfl, ?_⟩
  refine List.forall_mem_cons.mpr ⟨ok_iload_n C (show decode cX11_waste 28 = .ok (.iload_n 1, 1) by decide +kernel) rfl rfl, ?_⟩
  refine List.forall_mem_cons.mpr ⟨ok_iload_n C (show decode cX11_waste 29 = .ok (.iload_n 2, 1) by decide +kernel) rfl rfl, ?_⟩
  refine List.forall_mem_cons.mpr ⟨ok_callS C h_X11_cell ⟨rfl, rfl⟩ kw_1413 kw_1411 kw_1412 kw_11 ds_X11_cell ⟨by decide, by decide⟩ (show decode cX11_waste 30 = .ok (.invokestatic 245, 3) by decide +kernel) rfl, ?_⟩
  refine List.forall_mem_cons.mpr ⟨ok_iload_n C (show decode cX11_waste 33 = .ok (.iload_n 3, 1) by decide +kernel) rfl rfl, ?_⟩
  refine List.forall_mem_cons.mpr ⟨ok_callV C h_X11_whyHoard ⟨rfl, rfl⟩ rfl kw_1477 kw_1474 kw_1476 kp_77 kw_11 rfl ds_X11_whyHoard ⟨by decide, by decide⟩ (show decode cX11_waste 34 = .ok (.invokevirtual 301, 3) by decide +kernel) rfl, ?_⟩
  refine List.forall_mem_cons.mpr ⟨ok_ifle C (show decode cX11_waste 37 = .ok (.ifCond .le 5, 3) by decide +kernel) (tg := 42) (by decide) rfl rfl, ?_⟩
  refine List.forall_mem_cons.mpr ⟨ok_iconst C (show decode cX11_waste 40 = .ok (.iconst 1, 1) by decide +kernel) (by decide) rfl, ?_⟩
  refine List.forall_mem_cons.mpr ⟨ok_ret C rfl (show decode cX11_waste 41 = .ok (.ireturn, 1) by decide +kernel), ?_⟩
  refine List.forall_mem_cons.mpr ⟨ok_aload_n C (show decode cX11_waste 42 = .ok (.aload_n 0, 1) by decide +kernel) rfl rfl, ?_⟩
  refine List.forall_mem_cons.mpr ⟨ok_callV C h_X11_keep ⟨rfl, rfl⟩ rfl kw_1481 kw_1478 kw_1480 kp_78 kw_11 rfl ds_X11_keep ⟨by decide, by decide⟩ (show decode cX11_waste 43 = .ok (.invokevirtual 304, 3) by decide +kernel) rfl, ?_⟩
  refine List.forall_mem_cons.mpr ⟨ok_aload_n C (show decode cX11_waste 46 = .ok (.aload_n 0, 1) by decide +kernel) rfl rfl, ?_⟩
  refine List.forall_mem_cons.mpr ⟨ok_getf C (wi_X11) rfl (by decide) kw_1186 (show decode cX11_waste 47 = .ok (.getfield 33, 3) by decide +kernel) rfl, ?_⟩
  refine List.forall_mem_cons.mpr ⟨ok_bipush C (show decode cX11_waste 50 = .ok (.bipush 124, 2) by decide +kernel) (by decide) rfl, ?_⟩
  refine List.forall_mem_cons.mpr ⟨ok_iload_n C (show decode cX11_waste 52 = .ok (.iload_n 1, 1) by decide +kernel) rfl rfl, ?_⟩
  refine List.forall_mem_cons.mpr ⟨ok_iload_n C (show decode cX11_waste 53 = .ok (.iload_n 2, 1) by decide +kernel) rfl rfl, ?_⟩
  refine List.forall_mem_cons.mpr ⟨ok_callS C h_X11_cell ⟨rfl, rfl⟩ kw_1413 kw_1411 kw_1412 kw_11 ds_X11_cell ⟨by decide, by decide⟩ (show decode cX11_waste 54 = .ok (.invokestatic 245, 3) by decide +kernel) rfl, ?_⟩
  refine List.forall_mem_cons.mpr ⟨ok_iadd C (show decode cX11_waste 57 = .ok (.iadd, 1) by decide +kernel) rfl, ?_⟩
  refine List.forall_mem_cons.mpr ⟨ok_dup2 C (show decode cX11_waste 58 = .ok (.dup2, 1) by decide +kernel) rfl, ?_⟩
  refine List.forall_mem_cons.mpr ⟨ok_iaload C (show decode cX11_waste 59 = .ok (.iaload, 1) by decide +kernel) rfl, ?_⟩
  refine List.forall_mem_cons.mpr ⟨ok_iload_n C (show decode cX11_waste 60 = .ok (.iload_n 3, 1) by decide +kernel) rfl rfl, ?_⟩
  refine List.forall_mem_cons.mpr ⟨ok_isub C (show decode cX11_waste 61 = .ok (.isub, 1) by decide +kernel) rfl, ?_⟩
  refine List.forall_mem_cons.mpr ⟨ok_iastore C (show decode cX11_waste 62 = .ok (.iastore, 1) by decide +kernel) rfl, ?_⟩
  refine List.forall_mem_cons.mpr ⟨ok_iconst C (show decode cX11_waste 63 = .ok (.iconst 0, 1) by decide +kernel) (by decide) rfl, ?_⟩
  refine List.forall_mem_cons.mpr ⟨ok_ret C rfl (show decode cX11_waste 64 = .ok (.ireturn, 1) by decide +kernel), ?_⟩
  exact fun _ h => absurd h List.not_mem_nil
