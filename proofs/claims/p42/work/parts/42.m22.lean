def L_X11_log (f_X11_isIn : List Value → ab_H → Option ab_O) (f_X11_taken : List Value → ab_H → Option ab_O) (f_X11_next : List Value → ab_H → Option ab_O) (f_X11_logLine : List Value → ab_H → Option ab_O) (f_X11_sign : List Value → ab_H → Option ab_O) (f_X11_tries : List Value → ab_H → Option ab_O) (f_X11_does : List Value → ab_H → Option ab_O) (f_X11_keep : List Value → ab_H → Option ab_O) (f_X11_back : List Value → ab_H → Option ab_O) : List (Nat × ab_A) := [
  (0, ab_nx 1 (ab_aload 0)),
  (1, ab_nx 2 (ab_lit (.int 0))),
  (2, ab_nx 5 (ab_putf 11 0 0)),
  (5, ab_nx 6 (ab_iload 1)),
  (6, ab_nx 7 (ab_lit (.int 0))),
  (7, ab_nx 8 (ab_lit (.int 1))),
  (8, ab_nx 11 (ab_call 3 f_X11_isIn 0 0 0 0)),
  (11, ab_if 14 18 (fun x => !decide (x = 0))),
  (14, ab_nx 17 (ab_lit (.int (-1000)))),
  (17, ab_ret 0 0),
  (18, ab_nx 19 (ab_aload 0)),
  (19, ab_nx 22 (ab_lit (.int 400))),
  (22, ab_nx 25 (ab_callV 2 11 f_X11_taken 0 0 0 0)),
  (25, ab_nx 26 (ab_aload 0)),
  (26, ab_nx 27 (ab_lit (.int 0))),
  (27, ab_nx 30 (ab_putf 11 15 0)),
  (30, ab_nx 31 (ab_aload 0)),
  (31, ab_nx 32 (ab_lit (.int 0))),
  (32, ab_nx 35 (ab_putf 11 30 0)),
  (35, ab_nx 36 (ab_aload 0)),
  (36, ab_nx 39 (ab_callV 1 11 f_X11_next 0 0 0 0)),
  (39, ab_nx 40 (ab_aload 0)),
  (40, ab_nx 43 (ab_getf 11 11)),
  (43, ab_if 46 83 (fun x => decide (x = 0))),
  (46, ab_nx 47 (ab_aload 0)),
  (47, ab_nx 50 (ab_callV 1 11 f_X11_logLine 0 0 0 0)),
  (50, ab_if 53 62 (fun x => decide (x = 0))),
  (53, ab_nx 54 (ab_aload 0)),
  (54, ab_nx 56 (ab_lit (.int 59))),
  (56, ab_nx 59 (ab_callV 2 11 f_X11_sign 0 0 0 0)),
  (59, ab_if 62 70 (fun x => !decide (x = 0))),
  (62, ab_nx 64 (ab_lit (.int (-2)))),
  (64, ab_nx 65 (ab_aload 0)),
  (65, ab_nx 68 (ab_getf 11 16)),
  (68, ab_nx 69 (ab_bin (fun x y => x - y))),
  (69, ab_ret 0 0),
  (70, ab_nx 71 (ab_aload 0)),
  (71, ab_nx 72 ab_dup),
  (72, ab_nx 75 (ab_getf 11 30)),
  (75, ab_nx 76 (ab_lit (.int 1))),
  (76, ab_nx 77 (ab_bin (fun x y => x + y))),
  (77, ab_nx 80 (ab_putf 11 30 0)),
  (80, ab_goto 39),
  (83, ab_nx 84 (ab_aload 0)),
  (84, ab_nx 87 (ab_callV 1 11 f_X11_tries 0 0 0 0)),
  (87, ab_nx 88 (ab_lit (.int 0))),
  (88, ab_nx 89 (ab_istore 2)),
  (89, ab_nx 90 (ab_iload 2)),
  (90, ab_nx 91 (ab_lit (.int 4))),
  (91, ab_icmp 94 107 (fun x y => decide (y ≤ x))),
  (94, ab_nx 95 (ab_aload 0)),
  (95, ab_nx 98 (ab_getf 11 31)),
  (98, ab_nx 99 (ab_iload 2)),
  (99, ab_nx 100 (ab_lit (.int 0))),
  (100, ab_nx 101 (ab_ast 1)),
  (101, ab_nx 104 (ab_iinc 2 1)),
  (104, ab_goto 89),
  (107, ab_nx 108 (ab_aload 0)),
  (108, ab_nx 111 (ab_getf 11 6)),
  (111, ab_nx 113 (ab_lit (.int 123))),
  (113, ab_nx 114 (ab_ald 1)),
  (114, ab_nx 115 (ab_istore 2)),
  (115, ab_nx 116 (ab_lit (.int (-1)))),
  (116, ab_nx 117 (ab_istore 3)),
  (117, ab_nx 118 (ab_lit (.int 0))),
  (118, ab_nx 120 (ab_istore 4)),
  (120, ab_nx 122 (ab_iload 4)),
  (122, ab_nx 123 (ab_aload 0)),
  (123, ab_nx 126 (ab_getf 11 30)),
  (126, ab_icmp 129 216 (fun x y => decide (y ≤ x))),
  (129, ab_nx 130 (ab_iload 3)),
  (130, ab_if 133 216 (fun x => decide (0 ≤ x))),
  (133, ab_nx 134 (ab_aload 0)),
  (134, ab_nx 137 (ab_getf 11 31)),
  (137, ab_nx 138 (ab_lit (.int 0))),
  (138, ab_nx 139 (ab_aload 0)),
  (139, ab_nx 140 (ab_aload 0)),
  (140, ab_nx 143 (ab_getf 11 8)),
  (143, ab_nx 144 (ab_lit (.int 4))),
  (144, ab_nx 146 (ab_iload 4)),
  (146, ab_nx 147 (ab_bin (fun x y => x * y))),
  (147, ab_nx 148 (ab_ald 1)),
  (148, ab_nx 149 (ab_aload 0)),
  (149, ab_nx 152 (ab_getf 11 8)),
  (152, ab_nx 153 (ab_lit (.int 4))),
  (153, ab_nx 155 (ab_iload 4)),
  (155, ab_nx 156 (ab_bin (fun x y => x * y))),
  (156, ab_nx 157 (ab_lit (.int 1))),
  (157, ab_nx 158 (ab_bin (fun x y => x + y))),
  (158, ab_nx 159 (ab_ald 1)),
  (159, ab_nx 160 (ab_aload 0)),
  (160, ab_nx 163 (ab_getf 11 8)),
  (163, ab_nx 164 (ab_lit (.int 4))),
  (164, ab_nx 166 (ab_iload 4)),
  (166, ab_nx 167 (ab_bin (fun x y => x * y))),
  (167, ab_nx 168 (ab_lit (.int 2))),
  (168, ab_nx 169 (ab_bin (fun x y => x + y))),
  (169, ab_nx 170 (ab_ald 1)),
  (170, ab_nx 171 (ab_aload 0)),
  (171, ab_nx 174 (ab_getf 11 8)),
  (174, ab_nx 175 (ab_lit (.int 4))),
  (175, ab_nx 177 (ab_iload 4)),
  (177, ab_nx 178 (ab_bin (fun x y => x * y))),
  (178, ab_nx 179 (ab_lit (.int 3))),
  (179, ab_nx 180 (ab_bin (fun x y => x + y))),
  (180, ab_nx 181 (ab_ald 1)),
  (181, ab_nx 184 (ab_callV 5 11 f_X11_does 0 0 0 0)),
  (184, ab_nx 185 (ab_ast 1)),
  (185, ab_nx 186 (ab_aload 0)),
  (186, ab_nx 189 (ab_getf 11 31)),
  (189, ab_nx 190 (ab_lit (.int 0))),
  (190, ab_nx 191 (ab_ald 1)),
  (191, ab_if 194 200 (fun x => decide (x ≤ 0))),
  (194, ab_nx 196 (ab_iload 4)),
  (196, ab_nx 197 (ab_istore 3)),
  (197, ab_goto 210),
  (200, ab_nx 201 (ab_aload 0)),
  (201, ab_nx 204 (ab_getf 11 31)),
  (204, ab_nx 205 (ab_lit (.int 1))),
  (205, ab_nx 206 ab_dup2),
  (206, ab_nx 207 (ab_ald 1)),
  (207, ab_nx 208 (ab_lit (.int 1))),
  (208, ab_nx 209 (ab_bin (fun x y => x + y))),
  (209, ab_nx 210 (ab_ast 1)),
  (210, ab_nx 213 (ab_iinc 4 1)),
  (213, ab_goto 120),
  (216, ab_nx 217 (ab_aload 0)),
  (217, ab_nx 220 (ab_getf 11 31)),
  (220, ab_nx 221 (ab_lit (.int 2))),
  (221, ab_nx 222 (ab_aload 0)),
  (222, ab_nx 225 (ab_getf 11 6)),
  (225, ab_nx 227 (ab_lit (.int 120))),
  (227, ab_nx 228 (ab_ald 1)),
  (228, ab_nx 229 (ab_ast 1)),
  (229, ab_nx 230 (ab_aload 0)),
  (230, ab_nx 233 (ab_getf 11 31)),
  (233, ab_nx 234 (ab_lit (.int 3))),
  (234, ab_nx 235 (ab_aload 0)),
  (235, ab_nx 238 (ab_getf 11 6)),
  (238, ab_nx 240 (ab_lit (.int 123))),
  (240, ab_nx 241 (ab_ald 1)),
  (241, ab_nx 242 (ab_iload 2)),
  (242, ab_nx 243 (ab_bin (fun x y => x - y))),
  (243, ab_nx 244 (ab_ast 1)),
  (244, ab_nx 245 (ab_aload 0)),
  (245, ab_nx 246 (ab_lit (.int 1))),
  (246, ab_nx 249 (ab_putf 11 32 3)),
  (249, ab_nx 250 (ab_iload 1)),
  (250, ab_nx 251 (ab_lit (.int 1))),
  (251, ab_icmp 254 309 (fun x y => !decide (x = y))),
  (254, ab_nx 255 (ab_aload 0)),
  (255, ab_nx 258 (ab_getf 11 31)),
  (258, ab_nx 259 (ab_lit (.int 1))),
  (259, ab_nx 260 (ab_ald 1)),
  (260, ab_if 263 309 (fun x => decide (x ≤ 0))),
  (263, ab_nx 264 (ab_aload 0)),
  (264, ab_nx 267 (ab_callV 1 11 f_X11_keep 0 0 0 0)),
  (267, ab_nx 268 (ab_lit (.int 0))),
  (268, ab_nx 270 (ab_istore 4)),
  (270, ab_nx 272 (ab_iload 4)),
  (272, ab_nx 275 (ab_lit (.int 133))),
  (275, ab_icmp 278 309 (fun x y => decide (y ≤ x))),
  (278, ab_nx 279 (ab_aload 0)),
  (279, ab_nx 282 (ab_getf 11 23)),
  (282, ab_nx 285 (ab_lit (.int 133))),
  (285, ab_nx 286 (ab_aload 0)),
  (286, ab_nx 289 (ab_getf 11 25)),
  (289, ab_nx 290 (ab_lit (.int 1))),
  (290, ab_nx 291 (ab_bin (fun x y => x - y))),
  (291, ab_nx 292 (ab_bin (fun x y => x * y))),
  (292, ab_nx 294 (ab_iload 4)),
  (294, ab_nx 295 (ab_bin (fun x y => x + y))),
  (295, ab_nx 296 (ab_aload 0)),
  (296, ab_nx 299 (ab_getf 11 24)),
  (299, ab_nx 301 (ab_iload 4)),
  (301, ab_nx 302 (ab_ald 1)),
  (302, ab_nx 303 (ab_ast 1)),
  (303, ab_nx 306 (ab_iinc 4 1)),
  (306, ab_goto 270),
  (309, ab_nx 310 (ab_iload 1)),
  (310, ab_if 313 317 (fun x => !decide (x = 0))),
  (313, ab_nx 314 (ab_aload 0)),
  (314, ab_nx 317 (ab_callV 1 11 f_X11_back 0 0 0 0)),
  (317, ab_nx 318 (ab_iload 3)),
  (318, ab_ret 0 0)]
set_option maxRecDepth 100000 in
set_option maxHeartbeats 4000000 in
theorem M_X11_log {l : Launch} {b : ab_B} {D : va_G} {cA : Nat → ClassId} {f_X11_isIn : List Value → ab_H → Option ab_O} (h_X11_isIn : ab_M l b D ab_cl cA (ab_E0 b) yX11_isIn (Cond.code yX11_isIn cX11_isIn 3 (some .boolean) :: ab_G) ({ frames := 1, cells := 0, slots := 0, locals := 100 } : Room) f_X11_isIn) {f_X11_taken : List Value → ab_H → Option ab_O} (h_X11_taken : ab_M l b D ab_cl cA (ab_E0 b) yX11_taken (Cond.code yX11_taken cX11_taken 2 none :: ab_G) ({ frames := 1, cells := 0, slots := 0, locals := 100 } : Room) f_X11_taken) {f_X11_next : List Value → ab_H → Option ab_O} (h_X11_next : ab_M l b D ab_cl cA (ab_E0 b) yX11_next (Cond.code yX11_next cX11_next 4 none :: ab_G) ({ frames := 2, cells := 0, slots := 0, locals := 200 } : Room) f_X11_next) {f_X11_logLine : List Value → ab_H → Option ab_O} (h_X11_logLine : ab_M l b D ab_cl cA (ab_E0 b) yX11_logLine (Cond.code yX11_logLine cX11_logLine 3 (some .boolean) :: ab_G) ({ frames := 4, cells := 0, slots := 0, locals := 400 } : Room) f_X11_logLine) {f_X11_sign : List Value → ab_H → Option ab_O} (h_X11_sign : ab_M l b D ab_cl cA (ab_E0 b) yX11_sign (Cond.code yX11_sign cX11_sign 2 (some .boolean) :: ab_G) ({ frames := 3, cells := 0, slots := 0, locals := 300 } : Room) f_X11_sign) {f_X11_tries : List Value → ab_H → Option ab_O} (h_X11_tries : ab_M l b D ab_cl cA (ab_E0 b) yX11_tries (Cond.code yX11_tries cX11_tries 2 none :: ab_G) ({ frames := 1, cells := 0, slots := 0, locals := 100 } : Room) f_X11_tries) {f_X11_does : List Value → ab_H → Option ab_O} (h_X11_does : ab_M l b D ab_cl cA (ab_E0 b) yX11_does (Cond.code yX11_does cX11_does 7 (some .int) :: ab_G) ({ frames := 9, cells := 0, slots := 0, locals := 900 } : Room) f_X11_does) {f_X11_keep : List Value → ab_H → Option ab_O} (h_X11_keep : ab_M l b D ab_cl cA (ab_E0 b) yX11_keep (Cond.code yX11_keep cX11_keep 2 none :: ab_G) ({ frames := 1, cells := 0, slots := 0, locals := 100 } : Room) f_X11_keep) {f_X11_back : List Value → ab_H → Option ab_O} (h_X11_back : ab_M l b D ab_cl cA (ab_E0 b) yX11_back (Cond.code yX11_back cX11_back 2 none :: ab_G) ({ frames := 1, cells := 0, slots := 0, locals := 100 } : Room) f_X11_back) : ab_M l b D ab_cl cA (ab_E0 b) yX11_log (Cond.code yX11_log cX11_log 5 (some .int) :: ab_G) ({ frames := 10, cells := 0, slots := 0, locals := 1000 } : Room) (ab_X (ab_T (L_X11_log f_X11_isIn f_X11_taken f_X11_next f_X11_logLine f_X11_sign f_X11_tries f_X11_does f_X11_keep f_X11_back)) 5) := by
  refine ab_meth (ret := (some .int)) (L_X11_log f_X11_isIn f_X11_taken f_X11_next f_X11_logLine f_X11_sign f_X11_tries f_X11_does f_X11_keep f_X11_back) (by decide) rfl fun p e R s m args below meth c o C => ?_
  unfold L_X11_log
  refine List.forall_mem_cons.mpr ⟨ok_aload_n C (show decode cX11_log 0 = .ok (.aload_n 0, 1) by decide +kernel) rfl rfl, ?_⟩
  refine List.forall_mem_cons.mpr ⟨ok_iconst C (show decode cX11_log 1 = .ok (.iconst 0, 1) by decide +kernel) (by decide) rfl, ?_⟩
  refine List.forall_mem_cons.mpr ⟨ok_putf C (wi_X11) tyX11 tyX11_ok nmX11 rfl (by decide) kw_1180 (Or.inl rfl) (Or.inl ⟨rfl, rfl⟩) (show decode cX11_log 2 = .ok (.putfield 1, 3) by decide +kernel) rfl, ?_⟩
  refine List.forall_mem_cons.mpr ⟨ok_iload_n C (show decode cX11_log 5 = .ok (.iload_n 1, 1) by decide +kernel) rfl rfl, ?_⟩
  refine List.forall_mem_cons.mpr ⟨ok_iconst C (show decode cX11_log 6 = .ok (.iconst 0, 1) by decide +kernel) (by decide) rfl, ?_⟩
  refine List.forall_mem_cons.mpr ⟨ok_iconst C (show decode cX11_log 7 = .ok (.iconst 1, 1) by decide +kernel) (by decide) rfl, ?_⟩
  refine List.forall_mem_cons.mpr ⟨ok_callS C h_X11_isIn ⟨rfl, rfl⟩ kw_1355 kw_1353 kw_1354 kw_11 ds_X11_isIn ⟨by decide, by decide⟩ (show decode cX11_log 8 = .ok (.invokestatic 179, 3) by decide +kernel) rfl, ?_⟩
  refine List.forall_mem_cons.mpr ⟨ok_ifne C (show decode cX11_log 11 = .ok (.ifCond .ne 7, 3) by decide +kernel) (tg := 18) (by decide) rfl rfl, ?_⟩
  refine List.forall_mem_cons.mpr ⟨ok_sipush C (show decode cX11_log 14 = .ok (.sipush (-1000), 3) by decide +kernel) (by decide) rfl, ?_⟩
  refine List.forall_mem_cons.mpr ⟨ok_ret C rfl (show decode cX11_log 17 = .ok (.ireturn, 1) by decide +kernel), ?_⟩
  refine List.forall_mem_cons.mpr ⟨ok_aload_n C (show decode cX11_log 18 = .ok (.aload_n 0, 1) by decide +kernel) rfl rfl, ?_⟩
  refine List.forall_mem_cons.mpr ⟨ok_sipush C (show decode cX11_log 19 = .ok (.sipush 400, 3) by decide +kernel) (by decide) rfl, ?_⟩
  refine List.forall_mem_cons.mpr ⟨ok_callV C h_X11_taken ⟨rfl, rfl⟩ rfl kw_1318 kw_1315 kw_1317 kp_48 kw_11 rfl ds_X11_taken ⟨by decide, by decide⟩ (show decode cX11_log 22 = .ok (.invokevirtual 224, 3) by decide +kernel) rfl, ?_⟩
  refine List.forall_mem_cons.mpr ⟨ok_aload_n C (show decode cX11_log 25 = .ok (.aload_n 0, 1) by decide +kernel) rfl rfl, ?_⟩
  refine List.forall_mem_cons.mpr ⟨ok_iconst C (show decode cX11_log 26 = .ok (.iconst 0, 1) by decide +kernel) (by decide) rfl, ?_⟩
  refine List.forall_mem_cons.mpr ⟨ok_putf C (wi_X11) tyX11 tyX11_ok nmX11 rfl (by decide) kw_1195 (Or.inl rfl) (Or.inl ⟨rfl, rfl⟩) (show decode cX11_log 27 = .ok (.putfield 164, 3) by decide +kernel) rfl, ?_⟩
  refine List.forall_mem_cons.mpr ⟨ok_aload_n C (show decode cX11_log 30 = .ok (.aload_n 0, 1) by decide +kernel) rfl rfl, ?_⟩
  refine List.forall_mem_cons.mpr ⟨ok_iconst C (show decode cX11_log 31 = .ok (.iconst 0, 1) by decide +kernel) (by decide) rfl, ?_⟩
  refine List.forall_mem_cons.mpr ⟨ok_putf C (wi_X11) tyX11 tyX11_ok nmX11 rfl (by decide) kw_1210 (Or.inl rfl) (Or.inl ⟨rfl, rfl⟩) (show decode cX11_log 32 = .ok (.putfield 348, 3) by decide +kernel) rfl, ?_⟩
  refine List.forall_mem_cons.mpr ⟨ok_aload_n C (show decode cX11_log 35 = .ok (.aload_n 0, 1) by decide +kernel) rfl rfl, ?_⟩
  refine List.forall_mem_cons.mpr ⟨ok_callV C h_X11_next ⟨rfl, rfl⟩ rfl kw_1322 kw_1319 kw_1321 kp_49 kw_11 rfl ds_X11_next ⟨by decide, by decide⟩ (show decode cX11_log 36 = .ok (.invokevirtual 176, 3) by decide +kernel) rfl, ?_⟩
  refine List.forall_mem_cons.mpr ⟨ok_aload_n C (show decode cX11_log 39 = .ok (.aload_n 0, 1) by decide +kernel) rfl rfl, ?_⟩
  refine List.forall_mem_cons.mpr ⟨ok_getf C (wi_X11) rfl (by decide) kw_1191 (show decode cX11_log 40 = .ok (.getfield 147, 3) by decide +kernel) rfl, ?_⟩
  refine List.forall_mem_cons.mpr ⟨ok_ifeq C (show decode cX11_log 43 = .ok (.ifCond .eq 40, 3) by decide +kernel) (tg := 83) (by decide) rfl rfl, ?_⟩
  refine List.forall_mem_cons.mpr ⟨ok_aload_n C (show decode cX11_log 46 = .ok (.aload_n 0, 1) by decide +kernel) rfl rfl, ?_⟩
  refine List.forall_mem_cons.mpr ⟨ok_callV C h_X11_logLine ⟨rfl, rfl⟩ rfl kw_1652 kw_1649 kw_1651 kp_94 kw_11 rfl ds_X11_logLine ⟨by decide, by decide⟩ (show decode cX11_log 47 = .ok (.invokevirtual 351, 3) by decide +kernel) rfl, ?_⟩
  refine List.forall_mem_cons.mpr ⟨ok_ifeq C (show decode cX11_log 50 = .ok (.ifCond .eq 12, 3) by decide +kernel) (tg := 62) (by decide) rfl rfl, ?_⟩
  refine List.forall_mem_cons.mpr ⟨ok_aload_n C (show decode cX11_log 53 = .ok (.aload_n 0, 1) by decide +kernel) rfl rfl, ?_⟩
  refine List.forall_mem_cons.mpr ⟨ok_bipush C (show decode cX11_log 54 = .ok (.bipush 59, 2) by decide +kernel) (by decide) rfl, ?_⟩
  refine List.forall_mem_cons.mpr ⟨ok_callV C h_X11_sign ⟨rfl, rfl⟩ rfl kw_1386 kw_1383 kw_1385 kp_62 kw_11 rfl ds_X11_sign ⟨by decide, by decide⟩ (show decode cX11_log 56 = .ok (.invokevirtual 233, 3) by decide +kernel) rfl, ?_⟩
  refine List.forall_mem_cons.mpr ⟨ok_ifne C (show decode cX11_log 59 = .ok (.ifCond .ne 11, 3) by decide +kernel) (tg := 70) (by decide) rfl rfl, ?_⟩
  refine List.forall_mem_cons.mpr ⟨ok_bipush C (show decode cX11_log 62 = .ok (.bipush (-2), 2) by decide +kernel) (by decide) rfl, ?_⟩
  refine List.forall_mem_cons.mpr ⟨ok_aload_n C (show decode cX11_log 64 = .ok (.aload_n 0, 1) by decide +kernel) rfl rfl, ?_⟩
  refine List.forall_mem_cons.mpr ⟨ok_getf C (wi_X11) rfl (by decide) kw_1196 (show decode cX11_log 65 = .ok (.getfield 167, 3) by decide +kernel) rfl, ?_⟩
  refine List.forall_mem_cons.mpr ⟨ok_isub C (show decode cX11_log 68 = .ok (.isub, 1) by decide +kernel) rfl, ?_⟩
  refine List.forall_mem_cons.mpr ⟨ok_ret C rfl (show decode cX11_log 69 = .ok (.ireturn, 1) by decide +kernel), ?_⟩
  refine List.forall_mem_cons.mpr ⟨ok_aload_n C (show decode cX11_log 70 = .ok (.aload_n 0, 1) by decide +kernel) rfl rfl, ?_⟩
  refine List.forall_mem_cons.mpr ⟨ok_dup C (show decode cX11_log 71 = .ok (.dup, 1) by decide +kernel) rfl, ?_⟩
  refine List.forall_mem_cons.mpr ⟨ok_getf C (wi_X11) rfl (by decide) kw_1210 (show decode cX11_log 72 = .ok (.getfield 348, 3) by decide +kernel) rfl, ?_⟩
  refine List.forall_mem_cons.mpr ⟨ok_iconst C (show decode cX11_log 75 = .ok (.iconst 1, 1) by decide +kernel) (by decide) rfl, ?_⟩
  refine List.forall_mem_cons.mpr ⟨ok_iadd C (show decode cX11_log 76 = .ok (.iadd, 1) by decide +kernel) rfl, ?_⟩
  refine List.forall_mem_cons.mpr ⟨ok_putf C (wi_X11) tyX11 tyX11_ok nmX11 rfl (by decide) kw_1210 (Or.inl rfl) (Or.inl ⟨rfl, rfl⟩) (show decode cX11_log 77 = .ok (.putfield 348, 3) by decide +kernel) rfl, ?_⟩
  refine List.forall_mem_cons.mpr ⟨ok_goto C (show decode cX11_log 80 = .ok (.goto (-41), 3) by decide +kernel) (tg := 39) (by decide) rfl, ?_⟩
  refine List.forall_mem_cons.mpr ⟨ok_aload_n C (show decode cX11_log 83 = .ok (.aload_n 0, 1) by decide +kernel) rfl rfl, ?_⟩
  refine List.forall_mem_cons.mpr ⟨ok_callV C h_X11_tries ⟨rfl, rfl⟩ rfl kw_1556 kw_1553 kw_1555 kp_86 kw_11 rfl ds_X11_tries ⟨by decide, by decide⟩ (show decode cX11_log 84 = .ok (.invokevirtual 317, 3) by decide +kernel) rfl, ?_⟩
  refine List.forall_mem_cons.mpr ⟨ok_iconst C (show decode cX11_log 87 = .ok (.iconst 0, 1) by decide +kernel) (by decide) rfl, ?_⟩
  refine List.forall_mem_cons.mpr ⟨ok_istore_n C (show decode cX11_log 88 = .ok (.istore_n 2, 1) by decide +kernel) rfl (by decide) rfl, ?_⟩
  refine List.forall_mem_cons.mpr ⟨ok_iload_n C (show decode cX11_log 89 = .ok (.iload_n 2, 1) by decide +kernel) rfl rfl, ?_⟩
  refine List.forall_mem_cons.mpr ⟨ok_iconst C (show decode cX11_log 90 = .ok (.iconst 4, 1) by decide +kernel) (by decide) rfl, ?_⟩
  refine List.forall_mem_cons.mpr ⟨ok_icmpge C (show decode cX11_log 91 = .ok (.if_icmp .ge 16, 3) by decide +kernel) (tg := 107) (by decide) rfl rfl, ?_⟩
  refine List.forall_mem_cons.mpr ⟨ok_aload_n C (show decode cX11_log 94 = .ok (.aload_n 0, 1) by decide +kernel) rfl rfl, ?_⟩
  refine List.forall_mem_cons.mpr ⟨ok_getf C (wi_X11) rfl (by decide) kw_1211 (show decode cX11_log 95 = .ok (.getfield 68, 3) by decide +kernel) rfl, ?_⟩
  refine List.forall_mem_cons.mpr ⟨ok_iload_n C (show decode cX11_log 98 = .ok (.iload_n 2, 1) by decide +kernel) rfl rfl, ?_⟩
  refine List.forall_mem_cons.mpr ⟨ok_iconst C (show decode cX11_log 99 = .ok (.iconst 0, 1) by decide +kernel) (by decide) rfl, ?_⟩
  refine List.forall_mem_cons.mpr ⟨ok_iastore C (show decode cX11_log 100 = .ok (.iastore, 1) by decide +kernel) rfl, ?_⟩
  refine List.forall_mem_cons.mpr ⟨ok_iinc C (show decode cX11_log 101 = .ok (.iinc 2 1, 3) by decide +kernel) (by decide) (by decide) rfl, ?_⟩
  refine List.forall_mem_cons.mpr ⟨ok_goto C (show decode cX11_log 104 = .ok (.goto (-15), 3) by decide +kernel) (tg := 89) (by decide) rfl, ?_⟩
  refine List.forall_mem_cons.mpr ⟨ok_aload_n C (show decode cX11_log 107 = .ok (.aload_n 0, 1) by decide +kernel) rfl rfl, ?_⟩
  refine List.forall_mem_cons.mpr ⟨ok_getf C (wi_X11) rfl (by decide) kw_1186 (show decode cX11_log 108 = .ok (.getfield 33, 3) by decide +kernel) rfl, ?_⟩
  refine List.forall_mem_cons.mpr ⟨ok_bipush C (show decode cX11_log 111 = .ok (.bipush 123, 2) by decide +kernel) (by decide) rfl, ?_⟩
  refine List.forall_mem_cons.mpr ⟨ok_iaload C (show decode cX11_log 113 = .ok (.iaload, 1) by decide +kernel) rfl, ?_⟩
  refine List.forall_mem_cons.mpr ⟨ok_istore_n C (show decode cX11_log 114 = .ok (.istore_n 2, 1) by decide +kernel) rfl (by decide) rfl, ?_⟩
  refine List.forall_mem_cons.mpr ⟨ok_iconst C (show decode cX11_log 115 = .ok (.iconst (-1), 1) by decide +kernel) (by decide) rfl, ?_⟩
  refine List.forall_mem_cons.mpr ⟨ok_istore_n C (show decode cX11_log 116 = .ok (.istore_n 3, 1) by decide +kernel) rfl (by decide) rfl, ?_⟩
  refine List.forall_mem_cons.mpr ⟨ok_iconst C (show decode cX11_log 117 = .ok (.iconst 0, 1) by decide +kernel) (by decide) rfl, ?_⟩
  refine List.forall_mem_cons.mpr ⟨ok_istore C (show decode cX11_log 118 = .ok (.istore 4, 2) by decide +kernel) (by decide) rfl, ?_⟩
  refine List.forall_mem_cons.mpr ⟨ok_iload C (show decode cX11_log 120 = .ok (.iload 4, 2) by decide +kernel) rfl, ?_⟩
  refine List.forall_mem_cons.mpr ⟨ok_aload_n C (show decode cX11_log 122 = .ok (.aload_n 0, 1) by decide +kernel) rfl rfl, ?_⟩
  refine List.forall_mem_cons.mpr ⟨ok_getf C (wi_X11) rfl (by decide) kw_1210 (show decode cX11_log 123 = .ok (.getfield 348, 3) by decide +kernel) rfl, ?_⟩
  refine List.forall_mem_cons.mpr ⟨ok_icmpge C (show decode cX11_log 126 = .ok (.if_icmp .ge 90, 3) by decide +kernel) (tg := 216) (by decide) rfl rfl, ?_⟩
  refine List.forall_mem_cons.mpr ⟨ok_iload_n C (show decode cX11_log 129 = .ok (.iload_n 3, 1) by decide +kernel) rfl rfl, ?_⟩
  refine List.forall_mem_cons.mpr ⟨ok_ifge C (show decode cX11_log 130 = .ok (.ifCond .ge 86, 3) by decide +kernel) (tg := 216) (by decide) rfl rfl, ?_⟩
  refine List.forall_mem_cons.mpr ⟨ok_aload_n C (show decode cX11_log 133 = .ok (.aload_n 0, 1) by decide +kernel) rfl rfl, ?_⟩
  refine List.forall_mem_cons.mpr ⟨ok_getf C (wi_X11) rfl (by decide) kw_1211 (show decode cX11_log 134 = .ok (.getfield 68, 3) by decide +kernel) rfl, ?_⟩
  refine List.forall_mem_cons.mpr ⟨ok_iconst C (show decode cX11_log 137 = .ok (.iconst 0, 1) by decide +kernel) (by decide) rfl, ?_⟩
  refine List.forall_mem_cons.mpr ⟨ok_aload_n C (show decode cX11_log 138 = .ok (.aload_n 0, 1) by decide +kernel) rfl rfl, ?_⟩
  refine List.forall_mem_cons.mpr ⟨ok_aload_n C (show decode cX11_log 139 = .ok (.aload_n 0, 1) by decide +kernel) rfl rfl, ?_⟩
  refine List.forall_mem_cons.mpr ⟨ok_getf C (wi_X11) rfl (by decide) kw_1188 (show decode cX11_log 140 = .ok (.getfield 40, 3) by decide +kernel) rfl, ?_⟩
  refine List.forall_mem_cons.mpr ⟨ok_iconst C (show decode cX11_log 143 = .ok (.iconst 4, 1) by decide +kernel) (by decide) rfl, ?_⟩
  refine List.forall_mem_cons.mpr ⟨ok_iload C (show decode cX11_log 144 = .ok (.iload 4, 2) by decide +kernel) rfl, ?_⟩
  refine List.forall_mem_cons.mpr ⟨ok_imul C (show decode cX11_log 146 = .ok (.imul, 1) by decide +kernel) rfl, ?_⟩
  refine List.forall_mem_cons.mpr ⟨ok_iaload C (show decode cX11_log 147 = .ok (.iaload, 1) by decide +kernel) rfl, ?_⟩
  refine List.forall_mem_cons.mpr ⟨ok_aload_n C (show decode cX11_log 148 = .ok (.aload_n 0, 1) by decide +kernel) rfl rfl, ?_⟩
  refine List.forall_mem_cons.mpr ⟨ok_getf C (wi_X11) rfl (by decide) kw_1188 (show decode cX11_log 149 = .ok (.getfield 40, 3) by decide +kernel) rfl, ?_⟩
  refine List.forall_mem_cons.mpr ⟨ok_iconst C (show decode cX11_log 152 = .ok (.iconst 4, 1) by decide +kernel) (by decide) rfl, ?_⟩
  refine List.forall_mem_cons.mpr ⟨ok_iload C (show decode cX11_log 153 = .ok (.iload 4, 2) by decide +kernel) rfl, ?_⟩
  refine List.forall_mem_cons.mpr ⟨ok_imul C (show decode cX11_log 155 = .ok (.imul, 1) by decide +kernel) rfl, ?_⟩
  refine List.forall_mem_cons.mpr ⟨ok_iconst C (show decode cX11_log 156 = .ok (.iconst 1, 1) by decide +kernel) (by decide) rfl, ?_⟩
  refine List.forall_mem_cons.mpr ⟨ok_iadd C (show decode cX11_log 157 = .ok (.iadd, 1) by decide +kernel) rfl, ?_⟩
  refine List.forall_mem_cons.mpr ⟨ok_iaload C (show decode cX11_log 158 = .ok (.iaload, 1) by decide +kernel) rfl, ?_⟩
  refine List.forall_mem_cons.mpr ⟨ok_aload_n C (show decode cX11_log 159 = .ok (.aload_n 0, 1) by decide +kernel) rfl rfl, ?_⟩
  refine List.forall_mem_cons.mpr ⟨ok_getf C (wi_X11) rfl (by decide) kw_1188 (show decode cX11_log 160 = .ok (.getfield 40, 3) by decide +kernel) rfl, ?_⟩
  refine List.forall_mem_cons.mpr ⟨ok_iconst C (show decode cX11_log 163 = .ok (.iconst 4, 1) by decide +kernel) (by decide) rfl, ?_⟩
  refine List.forall_mem_cons.mpr ⟨ok_iload C (show decode cX11_log 164 = .ok (.iload 4, 2) by decide +kernel) rfl, ?_⟩
  refine List.forall_mem_cons.mpr ⟨ok_imul C (show decode cX11_log 166 = .ok (.imul, 1) by decide +kernel) rfl, ?_⟩
  refine List.forall_mem_cons.mpr ⟨ok_iconst C (show decode cX11_log 167 = .ok (.iconst 2, 1) by decide +kernel) (by decide) rfl, ?_⟩
  refine List.forall_mem_cons.mpr ⟨ok_iadd C (show decode cX11_log 168 = .ok (.iadd, 1) by decide +kernel) rfl, ?_⟩
  refine List.forall_mem_cons.mpr ⟨ok_iaload C (show decode cX11_log 169 = .ok (.iaload, 1) by decide +kernel) rfl, ?_⟩
  refine List.forall_mem_cons.mpr ⟨ok_aload_n C (show decode cX11_log 170 = .ok (.aload_n 0, 1) by decide +kernel) rfl rfl, ?_⟩
  refine List.forall_mem_cons.mpr ⟨ok_getf C (wi_X11) rfl (by decide) kw_1188 (show decode cX11_log 171 = .ok (.getfield 40, 3) by decide +kernel) rfl, ?_⟩
  refine List.forall_mem_cons.mpr ⟨ok_iconst C (show decode cX11_log 174 = .ok (.iconst 4, 1) by decide +kernel) (by decide) rfl, ?_⟩
  refine List.forall_mem_cons.mpr ⟨ok_iload C (show decode cX11_log 175 = .ok (.iload 4, 2) by decide +kernel) rfl, ?_⟩
  refine List.forall_mem_cons.mpr ⟨ok_imul C (show decode cX11_log 177 = .ok (.imul, 1) by decide +kernel) rfl, ?_⟩
  refine List.forall_mem_cons.mpr ⟨ok_iconst C (show decode cX11_log 178 = .ok (.iconst 3, 1) by decide +kernel) (by decide) rfl, ?_⟩
  refine List.forall_mem_cons.mpr ⟨ok_iadd C (show decode cX11_log 179 = .ok (.iadd, 1) by decide +kernel) rfl, ?_⟩
  refine List.forall_mem_cons.mpr ⟨ok_iaload C (show decode cX11_log 180 = .ok (.iaload, 1) by decide +kernel) rfl, ?_⟩
  refine List.forall_mem_cons.mpr ⟨ok_callV C h_X11_does ⟨rfl, rfl⟩ rfl kw_1656 kw_1653 kw_1655 kp_95 kw_11 rfl ds_X11_does ⟨by decide, by decide⟩ (show decode cX11_log 181 = .ok (.invokevirtual 354, 3) by decide +kernel) rfl, ?_⟩
  refine List.forall_mem_cons.mpr ⟨ok_iastore C (show decode cX11_log 184 = .ok (.iastore, 1) by decide +kernel) rfl, ?_⟩
  refine List.forall_mem_cons.mpr ⟨ok_aload_n C (show decode cX11_log 185 = .ok (.aload_n 0, 1) by decide +kernel) rfl rfl, ?_⟩
  refine List.forall_mem_cons.mpr ⟨ok_getf C (wi_X11) rfl (by decide) kw_1211 (show decode cX11_log 186 = .ok (.getfield 68, 3) by decide +kernel) rfl, ?_⟩
  refine List.forall_mem_cons.mpr ⟨ok_iconst C (show decode cX11_log 189 = .ok (.iconst 0, 1) by decide +kernel) (by decide) rfl, ?_⟩
  refine List.forall_mem_cons.mpr ⟨ok_iaload C (show decode cX11_log 190 = .ok (.iaload, 1) by decide +kernel) rfl, ?_⟩
  refine List.forall_mem_cons.mpr ⟨ok_ifle C (show decode cX11_log 191 = .ok (.ifCond .le 9, 3) by decide +kernel) (tg := 200) (by decide) rfl rfl, ?_⟩
  refine List.forall_mem_cons.mpr ⟨ok_iload C (show decode cX11_log 194 = .ok (.iload 4, 2) by decide +kernel) rfl, ?_⟩
  refine List.forall_mem_cons.mpr ⟨ok_istore_n C (show decode cX11_log 196 = .ok (.istore_n 3, 1) by decide +kernel) rfl (by decide) rfl, ?_⟩
  refine List.forall_mem_cons.mpr ⟨ok_goto C (show decode cX11_log 197 = .ok (.goto 13, 3) by decide +kernel) (tg := 210) (by decide) rfl, ?_⟩
  refine List.forall_mem_cons.mpr ⟨ok_aload_n C (show decode cX11_log 200 = .ok (.aload_n 0, 1) by decide +kernel) rfl rfl, ?_⟩
  refine List.forall_mem_cons.mpr ⟨ok_getf C (wi_X11) rfl (by decide) kw_1211 (show decode cX11_log 201 = .ok (.getfield 68, 3) by decide +kernel) rfl, ?_⟩
  refine List.forall_mem_cons.mpr ⟨ok_iconst C (show decode cX11_log 204 = .ok (.iconst 1, 1) by decide +kernel) (by decide) rfl, ?_⟩
  refine List.forall_mem_cons.mpr ⟨ok_dup2 C (show decode cX11_log 205 = .ok (.dup2, 1) by decide +kernel) rfl, ?_⟩
  refine List.forall_mem_cons.mpr ⟨ok_iaload C (show decode cX11_log 206 = .ok (.iaload, 1) by decide +kernel) rfl, ?_⟩
  refine List.forall_mem_cons.mpr ⟨ok_iconst C (show decode cX11_log 207 = .ok (.iconst 1, 1) by decide +kernel) (by decide) rfl, ?_⟩
  refine List.forall_mem_cons.mpr ⟨ok_iadd C (show decode cX11_log 208 = .ok (.iadd, 1) by decide +kernel) rfl, ?_⟩
  refine List.forall_mem_cons.mpr ⟨ok_iastore C (show decode cX11_log 209 = .ok (.iastore, 1) by decide +kernel) rfl, ?_⟩
  refine List.forall_mem_cons.mpr ⟨ok_iinc C (show decode cX11_log 210 = .ok (.iinc 4 1, 3) by decide +kernel) (by decide) (by decide) rfl, ?_⟩
  refine List.forall_mem_cons.mpr ⟨ok_goto C (show decode cX11_log 213 = .ok (.goto (-93), 3) by decide +kernel) (tg := 120) (by decide) rfl, ?_⟩
  refine List.forall_mem_cons.mpr ⟨ok_aload_n C (show decode cX11_log 216 = .ok (.aload_n 0, 1) by decide +kernel) rfl rfl, ?_⟩
  refine List.forall_mem_cons.mpr ⟨ok_getf C (wi_X11) rfl (by decide) kw_1211 (show decode cX11_log 217 = .ok (.getfield 68, 3) by decide +kernel) rfl, ?_⟩
  refine List.forall_mem_cons.mpr ⟨ok_iconst C (show decode cX11_log 220 = .ok (.iconst 2, 1) by decide +kernel) (by decide) rfl, ?_⟩
  refine List.forall_mem_cons.mpr ⟨ok_aload_n C (show decode cX11_log 221 = .ok (.aload_n 0, 1) by decide +kernel) rfl rfl, ?_⟩
  refine List.forall_mem_cons.mpr ⟨ok_getf C (wi_X11) rfl (by decide) kw_1186 (show decode cX11_log 222 = .ok (.getfield 33, 3) by decide +kernel) rfl, ?_⟩
  refine List.forall_mem_cons.mpr ⟨ok_bipush C (show decode cX11_log 225 = .ok (.bipush 120, 2) by decide +kernel) (by decide) rfl, ?_⟩
  refine List.forall_mem_cons.mpr ⟨ok_iaload C (show decode cX11_log 227 = .ok (.iaload, 1) by decide +kernel) rfl, ?_⟩
  refine List.forall_mem_cons.mpr ⟨ok_iastore C (show decode cX11_log 228 = .ok (.iastore, 1) by decide +kernel) rfl, ?_⟩
  refine List.forall_mem_cons.mpr ⟨ok_aload_n C (show decode cX11_log 229 = .ok (.aload_n 0, 1) by decide +kernel) rfl rfl, ?_⟩
  refine List.forall_mem_cons.mpr ⟨ok_getf C (wi_X11) rfl (by decide) kw_1211 (show decode cX11_log 230 = .ok (.getfield 68, 3) by decide +kernel) rfl, ?_⟩
  refine List.forall_mem_cons.mpr ⟨ok_iconst C (show decode cX11_log 233 = .ok (.iconst 3, 1) by decide +kernel) (by decide) rfl, ?_⟩
  refine List.forall_mem_cons.mpr ⟨ok_aload_n C (show decode cX11_log 234 = .ok (.aload_n 0, 1) by decide +kernel) rfl rfl, ?_⟩
  refine List.forall_mem_cons.mpr ⟨ok_getf C (wi_X11) rfl (by decide) kw_1186 (show decode cX11_log 235 = .ok (.getfield 33, 3) by decide +kernel) rfl, ?_⟩
  refine List.forall_mem_cons.mpr ⟨ok_bipush C (show decode cX11_log 238 = .ok (.bipush 123, 2) by decide +kernel) (by decide) rfl, ?_⟩
  refine List.forall_mem_cons.mpr ⟨ok_iaload C (show decode cX11_log 240 = .ok (.iaload, 1) by decide +kernel) rfl, ?_⟩
  refine List.forall_mem_cons.mpr ⟨ok_iload_n C (show decode cX11_log 241 = .ok (.iload_n 2, 1) by decide +kernel) rfl rfl, ?_⟩
  refine List.forall_mem_cons.mpr ⟨ok_isub C (show decode cX11_log 242 = .ok (.isub, 1) by decide +kernel) rfl, ?_⟩
  refine List.forall_mem_cons.mpr ⟨ok_iastore C (show decode cX11_log 243 = .ok (.iastore, 1) by decide +kernel) rfl, ?_⟩
  refine List.forall_mem_cons.mpr ⟨ok_aload_n C (show decode cX11_log 244 = .ok (.aload_n 0, 1) by decide +kernel) rfl rfl, ?_⟩
  refine List.forall_mem_cons.mpr ⟨ok_iconst C (show decode cX11_log 245 = .ok (.iconst 1, 1) by decide +kernel) (by decide) rfl, ?_⟩
  refine List.forall_mem_cons.mpr ⟨ok_putf C (wi_X11) tyX11 tyX11_ok nmX11 rfl (by decide) kw_1212 (Or.inl rfl) (Or.inr (Or.inr (Or.inr ⟨rfl, rfl⟩))) (show decode cX11_log 246 = .ok (.putfield 358, 3) by decide +kernel) rfl, ?_⟩
  refine List.forall_mem_cons.mpr ⟨ok_iload_n C (show decode cX11_log 249 = .ok (.iload_n 1, 1) by decide +kernel) rfl rfl, ?_⟩
  refine List.forall_mem_cons.mpr ⟨ok_iconst C (show decode cX11_log 250 = .ok (.iconst 1, 1) by decide +kernel) (by decide) rfl, ?_⟩
  refine List.forall_mem_cons.mpr ⟨ok_icmpne C (show decode cX11_log 251 = .ok (.if_icmp .ne 58, 3) by decide +kernel) (tg := 309) (by decide) rfl rfl, ?_⟩
  refine List.forall_mem_cons.mpr ⟨ok_aload_n C (show decode cX11_log 254 = .ok (.aload_n 0, 1) by decide +kernel) rfl rfl, ?_⟩
  refine List.forall_mem_cons.mpr ⟨ok_getf C (wi_X11) rfl (by decide) kw_1211 (show decode cX11_log 255 = .ok (.getfield 68, 3) by decide +kernel) rfl, ?_⟩
  refine List.forall_mem_cons.mpr ⟨ok_iconst C (show decode cX11_log 258 = .ok (.iconst 1, 1) by decide +kernel) (by decide) rfl, ?_⟩
  refine List.forall_mem_cons.mpr ⟨ok_iaload C (show decode cX11_log 259 = .ok (.iaload, 1) by decide +kernel) rfl, ?_⟩
  refine List.forall_mem_cons.mpr ⟨ok_ifle C (show decode cX11_log 260 = .ok (.ifCond .le 49, 3) by decide +kernel) (tg := 309) (by decide) rfl rfl, ?_⟩
  refine List.forall_mem_cons.mpr ⟨ok_aload_n C (show decode cX11_log 263 = .ok (.aload_n 0, 1) by decide +kernel) rfl rfl, ?_⟩
  refine List.forall_mem_cons.mpr ⟨ok_callV C h_X11_keep ⟨rfl, rfl⟩ rfl kw_1481 kw_1478 kw_1480 kp_78 kw_11 rfl ds_X11_keep ⟨by decide, by decide⟩ (show decode cX11_log 264 = .ok (.invokevirtual 304, 3) by decide +kernel) rfl, ?_⟩
  refine List.forall_mem_cons.mpr ⟨ok_iconst C (show decode cX11_log 267 = .ok (.iconst 0, 1) by decide +kernel) (by decide) rfl, ?_⟩
  refine List.forall_mem_cons.mpr ⟨ok_istore C (show decode cX11_log 268 = .ok (.istore 4, 2) by decide +kernel) (by decide) rfl, ?_⟩
  refine List.forall_mem_cons.mpr ⟨ok_iload C (show decode cX11_log 270 = .ok (.iload 4, 2) by decide +kernel) rfl, ?_⟩
  refine List.forall_mem_cons.mpr ⟨ok_sipush C (show decode cX11_log 272 = .ok (.sipush 133, 3) by decide +kernel) (by decide) rfl, ?_⟩
  refine List.forall_mem_cons.mpr ⟨ok_icmpge C (show decode cX11_log 275 = .ok (.if_icmp .ge 34, 3) by decide +kernel) (tg := 309) (by decide) rfl rfl, ?_⟩
  refine List.forall_mem_cons.mpr ⟨ok_aload_n C (show decode cX11_log 278 = .ok (.aload_n 0, 1) by decide +kernel) rfl rfl, ?_⟩
  refine List.forall_mem_cons.mpr ⟨ok_getf C (wi_X11) rfl (by decide) kw_1203 (show decode cX11_log 279 = .ok (.getfield 53, 3) by decide +kernel) rfl, ?_⟩
  refine List.forall_mem_cons.mpr ⟨ok_sipush C (show decode cX11_log 282 = .ok (.sipush 133, 3) by decide +kernel) (by decide) rfl, ?_⟩
  refine List.forall_mem_cons.mpr ⟨ok_aload_n C (show decode cX11_log 285 = .ok (.aload_n 0, 1) by decide +kernel) rfl rfl, ?_⟩
  refine List.forall_mem_cons.mpr ⟨ok_getf C (wi_X11) rfl (by decide) kw_1205 (show decode cX11_log 286 = .ok (.getfield 236, 3) by decide +kernel) rfl, ?_⟩
  refine List.forall_mem_cons.mpr ⟨ok_iconst C (show decode cX11_log 289 = .ok (.iconst 1, 1) by decide +kernel) (by decide) rfl, ?_⟩
  refine List.forall_mem_cons.mpr ⟨ok_isub C (show decode cX11_log 290 = .ok (.isub, 1) by decide +kernel) rfl, ?_⟩
  refine List.forall_mem_cons.mpr ⟨ok_imul C (show decode cX11_log 291 = .ok (.imul, 1) by decide +kernel) rfl, ?_⟩
  refine List.forall_mem_cons.mpr ⟨ok_iload C (show decode cX11_log 292 = .ok (.iload 4, 2) by decide +kernel) rfl, ?_⟩
  refine List.forall_mem_cons.mpr ⟨ok_iadd C (show decode cX11_log 294 = .ok (.iadd, 1) by decide +kernel) rfl, ?_⟩
  refine List.forall_mem_cons.mpr ⟨ok_aload_n C (show decode cX11_log 295 = .ok (.aload_n 0, 1) by decide +kernel) rfl rfl, ?_⟩
  refine List.forall_mem_cons.mpr ⟨ok_getf C (wi_X11) rfl (by decide) kw_1204 (show decode cX11_log 296 = .ok (.getfield 56, 3) by decide +kernel) rfl, ?_⟩
  refine List.forall_mem_cons.mpr ⟨ok_iload C (show decode cX11_log 299 = .ok (.iload 4, 2) by decide +kernel) rfl, ?_⟩
  refine List.forall_mem_cons.mpr ⟨ok_iaload C (show decode cX11_log 301 = .ok (.iaload, 1) by decide +kernel) rfl, ?_⟩
  refine List.forall_mem_cons.mpr ⟨ok_iastore C (show decode cX11_log 302 = .ok (.iastore, 1) by decide +kernel) rfl, ?_⟩
  refine List.forall_mem_cons.mpr ⟨ok_iinc C (show decode cX11_log 303 = .ok (.iinc 4 1, 3) by decide +kernel) (by decide) (by decide) rfl, ?_⟩
  refine List.forall_mem_cons.mpr ⟨ok_goto C (show decode cX11_log 306 = .ok (.goto (-36), 3) by decide +kernel) (tg := 270) (by decide) rfl, ?_⟩
  refine List.forall_mem_cons.mpr ⟨ok_iload_n C (show decode cX11_log 309 = .ok (.iload_n 1, 1) by decide +kernel) rfl rfl, ?_⟩
  refine List.forall_mem_cons.mpr ⟨ok_ifne C (show decode cX11_log 310 = .ok (.ifCond .ne 7, 3) by decide +kernel) (tg := 317) (by decide) rfl rfl, ?_⟩
  refine List.forall_mem_cons.mpr ⟨ok_aload_n C (show decode cX11_log 313 = .ok (.aload_n 0, 1) by decide +kernel) rfl rfl, ?_⟩
  refine List.forall_mem_cons.mpr ⟨ok_callV C h_X11_back ⟨rfl, rfl⟩ rfl kw_1560 kw_1557 kw_1559 kp_87 kw_11 rfl ds_X11_back ⟨by decide, by decide⟩ (show decode cX11_log 314 = .ok (.invokevirtual 320, 3) by decide +kernel) rfl, ?_⟩
  refine List.forall_mem_cons.mpr ⟨ok_iload_n C (show decode cX11_log 317 = .ok (.iload_n 3, 1) by decide +kernel) rfl rfl, ?_⟩
  refine List.forall_mem_cons.mpr ⟨ok_ret C rfl (show decode cX11_log 318 = .ok (.ireturn, 1) by decide +kernel), ?_⟩
  exact fun _ h => absurd h List.not_mem_nil
def L_X11_logged (f_X11_isIn : List Value → ab_H → Option ab_O) : List (Nat × ab_A) := [
  (0, ab_nx 1 (ab_aload 0)),
  (1, ab_nx 2 (ab_lit (.int 0))),
  (2, ab_nx 5 (ab_putf 11 0 0)),
  (5, ab_nx 6 (ab_aload 0)),
  (6, ab_nx 9 (ab_getf 11 32)),
  (9, ab_if 12 30 (fun x => decide (x = 0))),
  (12, ab_nx 13 (ab_iload 1)),
  (13, ab_nx 14 (ab_lit (.int 0))),
  (14, ab_nx 15 (ab_lit (.int 3))),
  (15, ab_nx 18 (ab_call 3 f_X11_isIn 0 0 0 0)),
  (18, ab_if 21 30 (fun x => decide (x = 0))),
  (21, ab_nx 22 (ab_aload 0)),
  (22, ab_nx 25 (ab_getf 11 31)),
  (25, ab_nx 26 (ab_iload 1)),
  (26, ab_nx 27 (ab_ald 1)),
  (27, ab_goto 31),
  (30, ab_nx 31 (ab_lit (.int (-1)))),
  (31, ab_ret 0 0)]
set_option maxRecDepth 100000 in
set_option maxHeartbeats 4000000 in
theorem M_X11_logged {l : Launch} {b : ab_B} {D : va_G} {cA : Nat → ClassId} {f_X11_isIn : List Value → ab_H → Option ab_O} (h_X11_isIn : ab_M l b D ab_cl cA (ab_E0 b) yX11_isIn (Cond.code yX11_isIn cX11_isIn 3 (some .boolean) :: ab_G) ({ frames := 1, cells := 0, slots := 0, locals := 100 } : Room) f_X11_isIn) : ab_M l b D ab_cl cA (ab_E0 b) yX11_logged (Cond.code yX11_logged cX11_logged 2 (some .int) :: ab_G) ({ frames := 2, cells := 0, slots := 0, locals := 200 } : Room) (ab_X (ab_T (L_X11_logged f_X11_isIn)) 2) := by
  refine ab_meth (ret := (some .int)) (L_X11_logged f_X11_isIn) (by decide) rfl fun p e R s m args below meth c o C => ?_
  unfold L_X11_logged
  refine List.forall_mem_cons.mpr ⟨ok_aload_n C (show decode cX11_logged 0 = .ok (.aload_n 0, 1) by decide +kernel) rfl rfl, ?_⟩
  refine List.forall_mem_cons.mpr ⟨ok_iconst C (show decode cX11_logged 1 = .ok (.iconst 0, 1) by decide +kernel) (by decide) rfl, ?_⟩
  refine List.forall_mem_cons.mpr ⟨ok_putf C (wi_X11) tyX11 tyX11_ok nmX11 rfl (by decide) kw_1180 (Or.inl rfl) (Or.inl ⟨rfl, rfl⟩) (show decode cX11_logged 2 = .ok (.putfield 1, 3) by decide +kernel) rfl, ?_⟩
  refine List.forall_mem_cons.mpr ⟨ok_aload_n C (show decode cX11_logged 5 = .ok (.aload_n 0, 1) by decide +kernel) rfl rfl, ?_⟩
  refine List.forall_mem_cons.mpr ⟨ok_getf C (wi_X11) rfl (by decide) kw_1212 (show decode cX11_logged 6 = .ok (.getfield 358, 3) by decide +kernel) rfl, ?_⟩
  refine List.forall_mem_cons.mpr ⟨ok_ifeq C (show decode cX11_logged 9 = .ok (.ifCond .eq 21, 3) by decide +kernel) (tg := 30) (by decide) rfl rfl, ?_⟩
  refine List.forall_mem_cons.mpr ⟨ok_iload_n C (show decode cX11_logged 12 = .ok (.iload_n 1, 1) by decide +kernel) rfl rfl, ?_⟩
  refine List.forall_mem_cons.mpr ⟨ok_iconst C (show decode cX11_logged 13 = .ok (.iconst 0, 1) by decide +kernel) (by decide) rfl, ?_⟩
  refine List.forall_mem_cons.mpr ⟨ok_iconst C (show decode cX11_logged 14 = .ok (.iconst 3, 1) by decide +kernel) (by decide) rfl, ?_⟩
  refine List.forall_mem_cons.mpr ⟨ok_callS C h_X11_isIn ⟨rfl, rfl⟩ kw_1355 kw_1353 kw_1354 kw_11 ds_X11_isIn ⟨by decide, by decide⟩ (show decode cX11_logged 15 = .ok (.invokestatic 179, 3) by decide +kernel) rfl, ?_⟩
  refine List.forall_mem_cons.mpr ⟨ok_ifeq C (show decode cX11_logged 18 = .ok (.ifCond .eq 12, 3) by decide +kernel) (tg := 30) (by decide) rfl rfl, ?_⟩
  refine List.forall_mem_cons.mpr ⟨ok_aload_n C (show decode cX11_logged 21 = .ok (.aload_n 0, 1) by decide +kernel) rfl rfl, ?_⟩
  refine List.forall_mem_cons.mpr ⟨ok_getf C (wi_X11) rfl (by decide) kw_1211 (show decode cX11_logged 22 = .ok (.getfield 68, 3) by decide +kernel) rfl, ?_⟩
  refine List.forall_mem_cons.mpr ⟨ok_iload_n C (show decode cX11_logged 25 = .ok (.iload_n 1, 1) by decide +kernel) rfl rfl, ?_⟩
  refine List.forall_mem_cons.mpr ⟨ok_iaload C (show decode cX11_logged 26 = .ok (.iaload, 1) by decide +kernel) rfl, ?_⟩
  refine List.forall_mem_cons.mpr ⟨ok_goto C (show decode cX11_logged 27 = .ok (.goto 4, 3) by decide +kernel) (tg := 31) (by decide) rfl, ?_⟩
  refine List.forall_mem_cons.mpr ⟨ok_iconst C (show decode cX11_logged 30 = .ok (.iconst (-1), 1) by decide +kernel) (by decide) rfl, ?_⟩
  refine List.forall_mem_cons.mpr ⟨ok_ret C rfl (show decode cX11_logged 31 = .ok (.ireturn, 1) by decide +kernel), ?_⟩
  exact fun _ h => absurd h List.not_mem_nil
def L_X11_code : List (Nat × ab_A) := [
  (0, ab_nx 1 (ab_aload 0)),
  (1, ab_nx 4 (ab_getf 11 8)),
  (4, ab_nx 5 (ab_lit (.int 3))),
  (5, ab_nx 6 (ab_aload 0)),
  (6, ab_nx 9 (ab_getf 11 34)),
  (9, ab_nx 10 (ab_bin (fun x y => x * y))),
  (10, ab_nx 11 (ab_iload 1)),
  (11, ab_nx 12 (ab_ast 1)),
  (12, ab_nx 13 (ab_aload 0)),
  (13, ab_nx 16 (ab_getf 11 8)),
  (16, ab_nx 17 (ab_lit (.int 3))),
  (17, ab_nx 18 (ab_aload 0)),
  (18, ab_nx 21 (ab_getf 11 34)),
  (21, ab_nx 22 (ab_bin (fun x y => x * y))),
  (22, ab_nx 23 (ab_lit (.int 1))),
  (23, ab_nx 24 (ab_bin (fun x y => x + y))),
  (24, ab_nx 25 (ab_iload 2)),
  (25, ab_nx 26 (ab_ast 1)),
  (26, ab_nx 27 (ab_aload 0)),
  (27, ab_nx 30 (ab_getf 11 8)),
  (30, ab_nx 31 (ab_lit (.int 3))),
  (31, ab_nx 32 (ab_aload 0)),
  (32, ab_nx 35 (ab_getf 11 34)),
  (35, ab_nx 36 (ab_bin (fun x y => x * y))),
  (36, ab_nx 37 (ab_lit (.int 2))),
  (37, ab_nx 38 (ab_bin (fun x y => x + y))),
  (38, ab_nx 39 (ab_iload 3)),
  (39, ab_nx 40 (ab_ast 1)),
  (40, ab_nx 41 (ab_aload 0)),
  (41, ab_nx 42 ab_dup),
  (42, ab_nx 45 (ab_getf 11 34)),
  (45, ab_nx 46 (ab_lit (.int 1))),
  (46, ab_nx 47 (ab_bin (fun x y => x + y))),
  (47, ab_nx 50 (ab_putf 11 34 0)),
  (50, ab_vret 0 0)]
set_option maxRecDepth 100000 in
set_option maxHeartbeats 4000000 in
theorem M_X11_code {l : Launch} {b : ab_B} {D : va_G} {cA : Nat → ClassId} : ab_M l b D ab_cl cA (ab_E0 b) yX11_code (Cond.code yX11_code cX11_code 4 none :: ab_G) ({ frames := 1, cells := 0, slots := 0, locals := 100 } : Room) (ab_X (ab_T L_X11_code) 4) := by
  refine ab_meth (ret := none) L_X11_code (by decide) rfl fun p e R s m args below meth c o C => ?_
  unfold L_X11_code
  refine List.forall_mem_cons.mpr ⟨ok_aload_n C (show decode cX11_code 0 = .ok (.aload_n 0, 1) by decide +kernel) rfl rfl, ?_⟩
  refine List.forall_mem_cons.mpr ⟨ok_getf C (wi_X11) rfl (by decide) kw_1188 (show decode cX11_code 1 = .ok (.getfield 40, 3) by decide +kernel) rfl, ?_⟩
  refine List.forall_mem_cons.mpr ⟨ok_iconst C (show decode cX11_code 4 = .ok (.iconst 3, 1) by decide +kernel) (by decide) rfl, ?_⟩
  refine List.forall_mem_cons.mpr ⟨ok_aload_n C (show decode cX11_code 5 = .ok (.aload_n 0, 1) by decide +kernel) rfl rfl, ?_⟩
  refine List.forall_mem_cons.mpr ⟨ok_getf C (wi_X11) rfl (by decide) kw_1214 (show decode cX11_code 6 = .ok (.getfield 361, 3) by decide +kernel) rfl, ?_⟩
  refine List.forall_mem_cons.mpr ⟨ok_imul C (show decode cX11_code 9 = .ok (.imul, 1) by decide +kernel) rfl, ?_⟩
  refine List.forall_mem_cons.mpr ⟨ok_iload_n C (show decode cX11_code 10 = .ok (.iload_n 1, 1) by decide +kernel) rfl rfl, ?_⟩
  refine List.forall_mem_cons.mpr ⟨ok_iastore C (show decode cX11_code 11 = .ok (.iastore, 1) by decide +kernel) rfl, ?_⟩
  refine List.forall_mem_cons.mpr ⟨ok_aload_n C (show decode cX11_code 12 = .ok (.aload_n 0, 1) by decide +kernel) rfl rfl, ?_⟩
  refine List.forall_mem_cons.mpr ⟨ok_getf C (wi_X11) rfl (by decide) kw_1188 (show decode cX11_code 13 = .ok (.getfield 40, 3) by decide +kernel) rfl, ?_⟩
  refine List.forall_mem_cons.mpr ⟨ok_iconst C (show decode cX11_code 16 = .ok (.iconst 3, 1) by decide +kernel) (by decide) rfl, ?_⟩
  refine List.forall_mem_cons.mpr ⟨ok_aload_n C (show decode cX11_code 17 = .ok (.aload_n 0, 1) by decide +kernel) rfl rfl, ?_⟩
  refine List.forall_mem_cons.mpr ⟨ok_getf C (wi_X11) rfl (by decide) kw_1214 (show decode cX11_code 18 = .ok (.getfield 361, 3) by decide +kernel) rfl, ?_⟩
  refine List.forall_mem_cons.mpr ⟨ok_imul C (show decode cX11_code 21 = .ok (.imul, 1) by decide +kernel) rfl, ?_⟩
  refine List.forall_mem_cons.mpr ⟨ok_iconst C (show decode cX11_code 22 = .ok (.iconst 1, 1) by decide +kernel) (by decide) rfl, ?_⟩
  refine List.forall_mem_cons.mpr ⟨ok_iadd C (show decode cX11_code 23 = .ok (.iadd, 1) by decide +kernel) rfl, ?_⟩
  refine List.forall_mem_cons.mpr ⟨ok_iload_n C (show decode cX11_code 24 = .ok (.iload_n 2, 1) by decide +kernel) rfl rfl, ?_⟩
  refine List.forall_mem_cons.mpr ⟨ok_iastore C (show decode cX11_code 25 = .ok (.iastore, 1) by decide +kernel) rfl, ?_⟩
  refine List.forall_mem_cons.mpr ⟨ok_aload_n C (show decode cX11_code 26 = .ok (.aload_n 0, 1) by decide +kernel) rfl rfl, ?_⟩
  refine List.forall_mem_cons.mpr ⟨ok_getf C (wi_X11) rfl (by decide) kw_1188 (show decode cX11_code 27 = .ok (.getfield 40, 3) by decide +kernel) rfl, ?_⟩
  refine List.forall_mem_cons.mpr ⟨ok_iconst C (show decode cX11_code 30 = .ok (.iconst 3, 1) by decide +kernel) (by decide) rfl, ?_⟩
  refine List.forall_mem_cons.mpr ⟨ok_aload_n C (show decode cX11_code 31 = .ok (.aload_n 0, 1) by decide +kernel) rfl rfl, ?_⟩
  refine List.forall_mem_cons.mpr ⟨ok_getf C (wi_X11) rfl (by decide) kw_1214 (show decode cX11_code 32 = .ok (.getfield 361, 3) by decide +kernel) rfl, ?_⟩
  refine List.forall_mem_cons.mpr ⟨ok_imul C (show decode cX11_code 35 = .ok (.imul, 1) by decide +kernel) rfl, ?_⟩
  refine List.forall_mem_cons.mpr ⟨ok_iconst C (show decode cX11_code 36 = .ok (.iconst 2, 1) by decide +kernel) (by decide) rfl, ?_⟩
  refine List.forall_mem_cons.mpr ⟨ok_iadd C (show decode cX11_code 37 = .ok (.iadd, 1) by decide +kernel) rfl, ?_⟩
  refine List.forall_mem_cons.mpr ⟨ok_iload_n C (show decode cX11_code 38 = .ok (.iload_n 3, 1) by decide +kernel) rfl rfl, ?_⟩
  refine List.forall_mem_cons.mpr ⟨ok_iastore C (show decode cX11_code 39 = .ok (.iastore, 1) by decide +kernel) rfl, ?_⟩
  refine List.forall_mem_cons.mpr ⟨ok_aload_n C (show decode cX11_code 40 = .ok (.aload_n 0, 1) by decide +kernel) rfl rfl, ?_⟩
  refine List.forall_mem_cons.mpr ⟨ok_dup C (show decode cX11_code 41 = .ok (.dup, 1) by decide +kernel) rfl, ?_⟩
  refine List.forall_mem_cons.mpr ⟨ok_getf C (wi_X11) rfl (by decide) kw_1214 (show decode cX11_code 42 = .ok (.getfield 361, 3) by decide +kernel) rfl, ?_⟩
  refine List.forall_mem_cons.mpr ⟨ok_iconst C (show decode cX11_code 45 = .ok (.iconst 1, 1) by decide +kernel) (by decide) rfl, ?_⟩
  refine List.forall_mem_cons.mpr ⟨ok_iadd C (show decode cX11_code 46 = .ok (.iadd, 1) by decide +kernel) rfl, ?_⟩
  refine List.forall_mem_cons.mpr ⟨ok_putf C (wi_X11) tyX11 tyX11_ok nmX11 rfl (by decide) kw_1214 (Or.inl rfl) (Or.inl ⟨rfl, rfl⟩) (show decode cX11_code 47 = .ok (.putfield 361, 3) by decide +kernel) rfl, ?_⟩
  refine List.forall_mem_cons.mpr ⟨ok_vret C rfl (show decode cX11_code 50 = .ok (.return_, 1) by decide +kernel), ?_⟩
  exact fun _ h => absurd h List.not_mem_nil
def L_X11_joins (f_X11_code : List Value → ab_H → Option ab_O) : List (Nat × ab_A) := [
  (0, ab_nx 1 (ab_aload 0)),
  (1, ab_nx 4 (ab_getf 11 36)),
  (4, ab_if 7 73 (fun x => decide (x ≤ 0))),
  (7, ab_nx 8 (ab_aload 0)),
  (8, ab_nx 11 (ab_getf 11 33)),
  (11, ab_nx 12 (ab_aload 0)),
  (12, ab_nx 15 (ab_getf 11 36)),
  (15, ab_nx 16 (ab_lit (.int 1))),
  (16, ab_nx 17 (ab_bin (fun x y => x - y))),
  (17, ab_nx 18 (ab_ald 1)),
  (18, ab_nx 20 (ab_lit (.int 21))),
  (20, ab_icmp 23 45 (fun x y => decide (x = y))),
  (23, ab_nx 24 (ab_aload 0)),
  (24, ab_nx 27 (ab_getf 11 33)),
  (27, ab_nx 28 (ab_aload 0)),
  (28, ab_nx 31 (ab_getf 11 36)),
  (31, ab_nx 32 (ab_lit (.int 1))),
  (32, ab_nx 33 (ab_bin (fun x y => x - y))),
  (33, ab_nx 34 (ab_ald 1)),
  (34, ab_nx 36 (ab_lit (.int 22))),
  (36, ab_icmp 39 73 (fun x y => !decide (x = y))),
  (39, ab_nx 40 (ab_iload 1)),
  (40, ab_nx 42 (ab_lit (.int 22))),
  (42, ab_icmp 45 73 (fun x y => !decide (x = y))),
  (45, ab_nx 46 (ab_aload 0)),
  (46, ab_nx 47 ab_dup),
  (47, ab_nx 50 (ab_getf 11 36)),
  (50, ab_nx 51 (ab_lit (.int 1))),
  (51, ab_nx 52 (ab_bin (fun x y => x - y))),
  (52, ab_nx 55 (ab_putf 11 36 0)),
  (55, ab_nx 56 (ab_aload 0)),
  (56, ab_nx 57 (ab_aload 0)),
  (57, ab_nx 60 (ab_getf 11 33)),
  (60, ab_nx 61 (ab_aload 0)),
  (61, ab_nx 64 (ab_getf 11 36)),
  (64, ab_nx 65 (ab_ald 1)),
  (65, ab_nx 66 (ab_lit (.int 0))),
  (66, ab_nx 67 (ab_lit (.int 0))),
  (67, ab_nx 70 (ab_callV 4 11 f_X11_code 0 0 0 0)),
  (70, ab_goto 0),
  (73, ab_vret 0 0)]
set_option maxRecDepth 100000 in
set_option maxHeartbeats 4000000 in
theorem M_X11_joins {l : Launch} {b : ab_B} {D : va_G} {cA : Nat → ClassId} {f_X11_code : List Value → ab_H → Option ab_O} (h_X11_code : ab_M l b D ab_cl cA (ab_E0 b) yX11_code (Cond.code yX11_code cX11_code 4 none :: ab_G) ({ frames := 1, cells := 0, slots := 0, locals := 100 } : Room) f_X11_code) : ab_M l b D ab_cl cA (ab_E0 b) yX11_joins (Cond.code yX11_joins cX11_joins 2 none :: ab_G) ({ frames := 2, cells := 0, slots := 0, locals := 200 } : Room) (ab_X (ab_T (L_X11_joins f_X11_code)) 2) := by
  refine ab_meth (ret := none) (L_X11_joins f_X11_code) (by decide) rfl fun p e R s m args below meth c o C => ?_
  unfold L_X11_joins
  refine List.forall_mem_cons.mpr ⟨ok_aload_n C (show decode cX11_joins 0 = .ok (.aload_n 0, 1) by decide +kernel) rfl rfl, ?_⟩
  refine List.forall_mem_cons.mpr ⟨ok_getf C (wi_X11) rfl (by decide) kw_1216 (show decode cX11_joins 1 = .ok (.getfield 364, 3) by decide +kernel) rfl, ?_⟩
  refine List.forall_mem_cons.mpr ⟨ok_ifle C (show decode cX11_joins 4 = .ok (.ifCond .le 69, 3) by decide +kernel) (tg := 73) (by decide) rfl rfl, ?_⟩
  refine List.forall_mem_cons.mpr ⟨ok_aload_n C (show decode cX11_joins 7 = .ok (.aload_n 0, 1) by decide +kernel) rfl rfl, ?_⟩
  refine List.forall_mem_cons.mpr ⟨ok_getf C (wi_X11) rfl (by decide) kw_1213 (show decode cX11_joins 8 = .ok (.getfield 71, 3) by decide +kernel) rfl, ?_⟩
  refine List.forall_mem_cons.mpr ⟨ok_aload_n C (show decode cX11_joins 11 = .ok (.aload_n 0, 1) by decide +kernel) rfl rfl, ?_⟩
  refine List.forall_mem_cons.mpr ⟨ok_getf C (wi_X11) rfl (by decide) kw_1216 (show decode cX11_joins 12 = .ok (.getfield 364, 3) by decide +kernel) rfl, ?_⟩
  refine List.forall_mem_cons.mpr ⟨ok_iconst C (show decode cX11_joins 15 = .ok (.iconst 1, 1) by decide +kernel) (by decide) rfl, ?_⟩
  refine List.forall_mem_cons.mpr ⟨ok_isub C (show decode cX11_joins 16 = .ok (.isub, 1) by decide +kernel) rfl, ?_⟩
  refine List.forall_mem_cons.mpr ⟨ok_iaload C (show decode cX11_joins 17 = .ok (.iaload, 1) by decide +kernel) rfl, ?_⟩
  refine List.forall_mem_cons.mpr ⟨ok_bipush C (show decode cX11_joins 18 = .ok (.bipush 21, 2) by decide +kernel) (by decide) rfl, ?_⟩
  refine List.forall_mem_cons.mpr ⟨ok_icmpeq C (show decode cX11_joins 20 = .ok (.if_icmp .eq 25, 3) by decide +kernel) (tg := 45) (by decide) rfl rfl, ?_⟩
  refine List.forall_mem_cons.mpr ⟨ok_aload_n C (show decode cX11_joins 23 = .ok (.aload_n 0, 1) by decide +kernel) rfl rfl, ?_⟩
  refine List.forall_mem_cons.mpr ⟨ok_getf C (wi_X11) rfl (by decide) kw_1213 (show decode cX11_joins 24 = .ok (.getfield 71, 3) by decide +kernel) rfl, ?_⟩
  refine List.forall_mem_cons.mpr ⟨ok_aload_n C (show decode cX11_joins 27 = .ok (.aload_n 0, 1) by decide +kernel) rfl rfl, ?_⟩
  refine List.forall_mem_cons.mpr ⟨ok_getf C (wi_X11) rfl (by decide) kw_1216 (show decode cX11_joins 28 = .ok (.getfield 364, 3) by decide +kernel) rfl, ?_⟩
  refine List.forall_mem_cons.mpr ⟨ok_iconst C (show decode cX11_joins 31 = .ok (.iconst 1, 1) by decide +kernel) (by decide) rfl, ?_⟩
  refine List.forall_mem_cons.mpr ⟨ok_isub C (show decode cX11_joins 32 = .ok (.isub, 1) by decide +kernel) rfl, ?_⟩
  refine List.forall_mem_cons.mpr ⟨ok_iaload C (show decode cX11_joins 33 = .ok (.iaload, 1) by decide +kernel) rfl, ?_⟩
  refine List.forall_mem_cons.mpr ⟨ok_bipush C (show decode cX11_joins 34 = .ok (.bipush 22, 2) by decide +kernel) (by decide) rfl, ?_⟩
  refine List.forall_mem_cons.mpr ⟨ok_icmpne C (show decode cX11_joins 36 = .ok (.if_icmp .ne 37, 3) by decide +kernel) (tg := 73) (by decide) rfl rfl, ?_⟩
  refine List.forall_mem_cons.mpr ⟨ok_iload_n C (show decode cX11_joins 39 = .ok (.iload_n 1, 1) by decide +kernel) rfl rfl, ?_⟩
  refine List.forall_mem_cons.mpr ⟨ok_bipush C (show decode cX11_joins 40 = .ok (.bipush 22, 2) by decide +kernel) (by decide) rfl, ?_⟩
  refine List.forall_mem_cons.mpr ⟨ok_icmpne C (show decode cX11_joins 42 = .ok (.if_icmp .ne 31, 3) by decide +kernel) (tg := 73) (by decide) rfl rfl, ?_⟩
  refine List.forall_mem_cons.mpr ⟨ok_aload_n C (show decode cX11_joins 45 = .ok (.aload_n 0, 1) by decide +kernel) rfl rfl, ?_⟩
  refine List.forall_mem_cons.mpr ⟨ok_dup C (show decode cX11_joins 46 = .ok (.dup, 1) by decide +kernel) rfl, ?_⟩
  refine List.forall_mem_cons.mpr ⟨ok_getf C (wi_X11) rfl (by decide) kw_1216 (show decode cX11_joins 47 = .ok (.getfield 364, 3) by decide +kernel) rfl, ?_⟩
  refine List.forall_mem_cons.mpr ⟨ok_iconst C (show decode cX11_joins 50 = .ok (.iconst 1, 1) by decide +kernel) (by decide) rfl, ?_⟩
  refine List.forall_mem_cons.mpr ⟨ok_isub C (show decode cX11_joins 51 = .ok (.isub, 1) by decide +kernel) rfl, ?_⟩
  refine List.forall_mem_cons.mpr ⟨ok_putf C (wi_X11) tyX11 tyX11_ok nmX11 rfl (by decide) kw_1216 (Or.inl rfl) (Or.inl ⟨rfl, rfl⟩) (show decode cX11_joins 52 = .ok (.putfield 364, 3) by decide +kernel) rfl, ?_⟩
  refine List.forall_mem_cons.mpr ⟨ok_aload_n C (show decode cX11_joins 55 = .ok (.aload_n 0, 1) by decide +kernel) rfl rfl, ?_⟩
  refine List.forall_mem_cons.mpr ⟨ok_aload_n C (show decode cX11_joins 56 = .ok (.aload_n 0, 1) by decide +kernel) rfl rfl, ?_⟩
  refine List.forall_mem_cons.mpr ⟨ok_getf C (wi_X11) rfl (by decide) kw_1213 (show decode cX11_joins 57 = .ok (.getfield 71, 3) by decide +kernel) rfl, ?_⟩
  refine List.forall_mem_cons.mpr ⟨ok_aload_n C (show decode cX11_joins 60 = .ok (.aload_n 0, 1) by decide +kernel) rfl rfl, ?_⟩
  refine List.forall_mem_cons.mpr ⟨ok_getf C (wi_X11) rfl (by decide) kw_1216 (show decode cX11_joins 61 = .ok (.getfield 364, 3) by decide +kernel) rfl, ?_⟩
  refine List.forall_mem_cons.mpr ⟨ok_iaload C (show decode cX11_joins 64 = .ok (.iaload, 1) by decide +kernel) rfl, ?_⟩
  refine List.forall_mem_cons.mpr ⟨ok_iconst C (show decode cX11_joins 65 = .ok (.iconst 0, 1) by decide +kernel) (by decide) rfl, ?_⟩
  refine List.forall_mem_cons.mpr ⟨ok_iconst C (show decode cX11_joins 66 = .ok (.iconst 0, 1) by decide +kernel) (by decide) rfl, ?_⟩
  refine List.forall_mem_cons.mpr ⟨ok_callV C h_X11_code ⟨rfl, rfl⟩ rfl kw_1672 kw_1669 kw_1671 kp_97 kw_11 rfl ds_X11_code ⟨by decide, by decide⟩ (show decode cX11_joins 67 = .ok (.invokevirtual 367, 3) by decide +kernel) rfl, ?_⟩
  refine List.forall_mem_cons.mpr ⟨ok_goto C (show decode cX11_joins 70 = .ok (.goto (-70), 3) by decide +kernel) (tg := 0) (by decide) rfl, ?_⟩
  refine List.forall_mem_cons.mpr ⟨ok_vret C rfl (show decode cX11_joins 73 = .ok (.return_, 1) by decide +kernel), ?_⟩
  exact fun _ h => absurd h List.not_mem_nil
def L_X11_nots (f_X11_code : List Value → ab_H → Option ab_O) : List (Nat × ab_A) := [
  (0, ab_nx 1 (ab_aload 0)),
  (1, ab_nx 4 (ab_getf 11 36)),
  (4, ab_if 7 54 (fun x => decide (x ≤ 0))),
  (7, ab_nx 8 (ab_aload 0)),
  (8, ab_nx 11 (ab_getf 11 33)),
  (11, ab_nx 12 (ab_aload 0)),
  (12, ab_nx 15 (ab_getf 11 36)),
  (15, ab_nx 16 (ab_lit (.int 1))),
  (16, ab_nx 17 (ab_bin (fun x y => x - y))),
  (17, ab_nx 18 (ab_ald 1)),
  (18, ab_nx 20 (ab_lit (.int 20))),
  (20, ab_icmp 23 54 (fun x y => !decide (x = y))),
  (23, ab_nx 24 (ab_aload 0)),
  (24, ab_nx 25 ab_dup),
  (25, ab_nx 28 (ab_getf 11 36)),
  (28, ab_nx 29 (ab_lit (.int 1))),
  (29, ab_nx 30 (ab_bin (fun x y => x - y))),
  (30, ab_nx 33 (ab_putf 11 36 0)),
  (33, ab_nx 34 (ab_aload 0)),
  (34, ab_nx 35 ab_dup),
  (35, ab_nx 38 (ab_getf 11 37)),
  (38, ab_nx 39 (ab_lit (.int 1))),
  (39, ab_nx 40 (ab_bin (fun x y => x - y))),
  (40, ab_nx 43 (ab_putf 11 37 0)),
  (43, ab_nx 44 (ab_aload 0)),
  (44, ab_nx 46 (ab_lit (.int 20))),
  (46, ab_nx 47 (ab_lit (.int 0))),
  (47, ab_nx 48 (ab_lit (.int 0))),
  (48, ab_nx 51 (ab_callV 4 11 f_X11_code 0 0 0 0)),
  (51, ab_goto 0),
  (54, ab_vret 0 0)]
set_option maxRecDepth 100000 in
set_option maxHeartbeats 4000000 in
theorem M_X11_nots {l : Launch} {b : ab_B} {D : va_G} {cA : Nat → ClassId} {f_X11_code : List Value → ab_H → Option ab_O} (h_X11_code : ab_M l b D ab_cl cA (ab_E0 b) yX11_code (Cond.code yX11_code cX11_code 4 none :: ab_G) ({ frames := 1, cells := 0, slots := 0, locals := 100 } : Room) f_X11_code) : ab_M l b D ab_cl cA (ab_E0 b) yX11_nots (Cond.code yX11_nots cX11_nots 1 none :: ab_G) ({ frames := 2, cells := 0, slots := 0, locals := 200 } : Room) (ab_X (ab_T (L_X11_nots f_X11_code)) 1) := by
  refine ab_meth (ret := none) (L_X11_nots f_X11_code) (by decide) rfl fun p e R s m args below meth c o C => ?_
  unfold L_X11_nots
  refine List.forall_mem_cons.mpr ⟨ok_aload_n C (show decode cX11_nots 0 = .ok (.aload_n 0, 1) by decide +kernel) rfl rfl, ?_⟩
  refine List.forall_mem_cons.mpr ⟨ok_getf C (wi_X11) rfl (by decide) kw_1216 (show decode cX11_nots 1 = .ok (.getfield 364, 3) by decide +kernel) rfl, ?_⟩
  refine List.forall_mem_cons.mpr ⟨ok_ifle C (show decode cX11_nots 4 = .ok (.ifCond .le 50, 3) by decide +kernel) (tg := 54) (by decide) rfl rfl, ?_⟩
  refine List.forall_mem_cons.mpr ⟨ok_aload_n C (show decode cX11_nots 7 = .ok (.aload_n 0, 1) by decide +kernel) rfl rfl, ?_⟩
  refine List.forall_mem_cons.mpr ⟨ok_getf C (wi_X11) rfl (by decide) kw_1213 (show decode cX11_nots 8 = .ok (.getfield 71, 3) by decide +kernel) rfl, ?_⟩
  refine List.forall_mem_cons.mpr ⟨ok_aload_n C (show decode cX11_nots 11 = .ok (.aload_n 0, 1) by decide +kernel) rfl rfl, ?_⟩
  refine List.forall_mem_cons.mpr ⟨ok_getf C (wi_X11) rfl (by decide) kw_1216 (show decode cX11_nots 12 = .ok (.getfield 364, 3) by decide +kernel) rfl, ?_⟩
  refine List.forall_mem_cons.mpr ⟨ok_iconst C (show decode cX11_nots 15 = .ok (.iconst 1, 1) by decide +kernel) (by decide) rfl, ?_⟩
  refine List.forall_mem_cons.mpr ⟨ok_isub C (show decode cX11_nots 16 = .ok (.isub, 1) by decide +kernel) rfl, ?_⟩
  refine List.forall_mem_cons.mpr ⟨ok_iaload C (show decode cX11_nots 17 = .ok (.iaload, 1) by decide +kernel) rfl, ?_⟩
  refine List.forall_mem_cons.mpr ⟨ok_bipush C (show decode cX11_nots 18 = .ok (.bipush 20, 2) by decide +kernel) (by decide) rfl, ?_⟩
  refine List.forall_mem_cons.mpr ⟨ok_icmpne C (show decode cX11_nots 20 = .ok (.if_icmp .ne 34, 3) by decide +kernel) (tg := 54) (by decide) rfl rfl, ?_⟩
  refine List.forall_mem_cons.mpr ⟨ok_aload_n C (show decode cX11_nots 23 = .ok (.aload_n 0, 1) by decide +kernel) rfl rfl, ?_⟩
  refine List.forall_mem_cons.mpr ⟨ok_dup C (show decode cX11_nots 24 = .ok (.dup, 1) by decide +kernel) rfl, ?_⟩
  refine List.forall_mem_cons.mpr ⟨ok_getf C (wi_X11) rfl (by decide) kw_1216 (show decode cX11_nots 25 = .ok (.getfield 364, 3) by decide +kernel) rfl, ?_⟩
  refine List.forall_mem_cons.mpr ⟨ok_iconst C (show decode cX11_nots 28 = .ok (.iconst 1, 1) by decide +kernel) (by decide) rfl, ?_⟩
  refine List.forall_mem_cons.mpr ⟨ok_isub C (show decode cX11_nots 29 = .ok (.isub, 1) by decide +kernel) rfl, ?_⟩
  refine List.forall_mem_cons.mpr ⟨ok_putf C (wi_X11) tyX11 tyX11_ok nmX11 rfl (by decide) kw_1216 (Or.inl rfl) (Or.inl ⟨rfl, rfl⟩) (show decode cX11_nots 30 = .ok (.putfield 364, 3) by decide +kernel) rfl, ?_⟩
  refine List.forall_mem_cons.mpr ⟨ok_aload_n C (show decode cX11_nots 33 = .ok (.aload_n 0, 1) by decide +kernel) rfl rfl, ?_⟩
  refine List.forall_mem_cons.mpr ⟨ok_dup C (show decode cX11_nots 34 = .ok (.dup, 1) by decide +kernel) rfl, ?_⟩
  refine List.forall_mem_cons.mpr ⟨ok_getf C (wi_X11) rfl (by decide) kw_1217 (show decode cX11_nots 35 = .ok (.getfield 371, 3) by decide +kernel) rfl, ?_⟩
  refine List.forall_mem_cons.mpr ⟨ok_iconst C (show decode cX11_nots 38 = .ok (.iconst 1, 1) by decide +kernel) (by decide) rfl, ?_⟩
  refine List.forall_mem_cons.mpr ⟨ok_isub C (show decode cX11_nots 39 = .ok (.isub, 1) by decide +kernel) rfl, ?_⟩
  refine List.forall_mem_cons.mpr ⟨ok_putf C (wi_X11) tyX11 tyX11_ok nmX11 rfl (by decide) kw_1217 (Or.inl rfl) (Or.inl ⟨rfl, rfl⟩) (show decode cX11_nots 40 = .ok (.putfield 371, 3) by decide +kernel) rfl, ?_⟩
  refine List.forall_mem_cons.mpr ⟨ok_aload_n C (show decode cX11_nots 43 = .ok (.aload_n 0, 1) by decide +kernel) rfl rfl, ?_⟩
  refine List.forall_mem_cons.mpr ⟨ok_bipush C (show decode cX11_nots 44 = .ok (.bipush 20, 2) by decide +kernel) (by decide) rfl, ?_⟩
  refine List.forall_mem_cons.mpr ⟨ok_iconst C (show decode cX11_nots 46 = .ok (.iconst 0, 1) by decide +kernel) (by decide) rfl, ?_⟩
  refine List.forall_mem_cons.mpr ⟨ok_iconst C (show decode cX11_nots 47 = .ok (.iconst 0, 1) by decide +kernel) (by decide) rfl, ?_⟩
  refine List.forall_mem_cons.mpr ⟨ok_callV C h_X11_code ⟨rfl, rfl⟩ rfl kw_1672 kw_1669 kw_1671 kp_97 kw_11 rfl ds_X11_code ⟨by decide, by decide⟩ (show decode cX11_nots 48 = .ok (.invokevirtual 367, 3) by decide +kernel) rfl, ?_⟩
  refine List.forall_mem_cons.mpr ⟨ok_goto C (show decode cX11_nots 51 = .ok (.goto (-51), 3) by decide +kernel) (tg := 0) (by decide) rfl, ?_⟩
  refine List.forall_mem_cons.mpr ⟨ok_vret C rfl (show decode cX11_nots 54 = .ok (.return_, 1) by decide +kernel), ?_⟩
  exact fun _ h => absurd h List.not_mem_nil
def L_X11_leafOf (f_X11_isWord : List Value → ab_H → Option ab_O) : List (Nat × ab_A) := [
  (0, ab_nx 1 (ab_aload 0)),
  (1, ab_nx 4 (ab_lit (.long 119165535610212))),
  (4, ab_nx 7 (ab_callV 2 11 f_X11_isWord 0 0 0 0)),
  (7, ab_if 10 14 (fun x => decide (x = 0))),
  (10, ab_nx 11 (ab_lit (.int 0))),
  (11, ab_goto 130),
  (14, ab_nx 15 (ab_aload 0)),
  (15, ab_nx 18 (ab_lit (.long 29395861899601252))),
  (18, ab_nx 21 (ab_callV 2 11 f_X11_isWord 0 0 0 0)),
  (21, ab_if 24 28 (fun x => decide (x = 0))),
  (24, ab_nx 25 (ab_lit (.int 1))),
  (25, ab_goto 130),
  (28, ab_nx 29 (ab_aload 0)),
  (29, ab_nx 32 (ab_lit (.long 1835099237))),
  (32, ab_nx 35 (ab_callV 2 11 f_X11_isWord 0 0 0 0)),
  (35, ab_if 38 42 (fun x => decide (x = 0))),
  (38, ab_nx 39 (ab_lit (.int 2))),
  (39, ab_goto 130),
  (42, ab_nx 43 (ab_aload 0)),
  (43, ab_nx 46 (ab_lit (.long 435426714990))),
  (46, ab_nx 49 (ab_callV 2 11 f_X11_isWord 0 0 0 0)),
  (49, ab_if 52 56 (fun x => decide (x = 0))),
  (52, ab_nx 53 (ab_lit (.int 3))),
  (53, ab_goto 130),
  (56, ab_nx 57 (ab_aload 0)),
  (57, ab_nx 60 (ab_lit (.long 439721161573))),
  (60, ab_nx 63 (ab_callV 2 11 f_X11_isWord 0 0 0 0)),
  (63, ab_if 66 70 (fun x => decide (x = 0))),
  (66, ab_nx 67 (ab_lit (.int 4))),
  (67, ab_goto 130),
  (70, ab_nx 71 (ab_aload 0)),
  (71, ab_nx 74 (ab_lit (.long 1852137842))),
  (74, ab_nx 77 (ab_callV 2 11 f_X11_isWord 0 0 0 0)),
  (77, ab_if 80 84 (fun x => decide (x = 0))),
  (80, ab_nx 81 (ab_lit (.int 5))),
  (81, ab_goto 130),
  (84, ab_nx 85 (ab_aload 0)),
  (85, ab_nx 88 (ab_lit (.long 6709618))),
  (88, ab_nx 91 (ab_callV 2 11 f_X11_isWord 0 0 0 0)),
  (91, ab_if 94 99 (fun x => decide (x = 0))),
  (94, ab_nx 96 (ab_lit (.int 6))),
  (96, ab_goto 130),
  (99, ab_nx 100 (ab_aload 0)),
  (100, ab_nx 103 (ab_lit (.long 27991845698233700))),
  (103, ab_nx 106 (ab_callV 2 11 f_X11_isWord 0 0 0 0)),
  (106, ab_if 109 114 (fun x => decide (x = 0))),
  (109, ab_nx 111 (ab_lit (.int 7))),
  (111, ab_goto 130),
  (114, ab_nx 115 (ab_aload 0)),
  (115, ab_nx 118 (ab_lit (.long 121450625394034))),
  (118, ab_nx 121 (ab_callV 2 11 f_X11_isWord 0 0 0 0)),
  (121, ab_if 124 129 (fun x => decide (x = 0))),
  (124, ab_nx 126 (ab_lit (.int 8))),
  (126, ab_goto 130),
  (129, ab_nx 130 (ab_lit (.int (-1)))),
  (130, ab_ret 0 0)]
set_option maxRecDepth 100000 in
set_option maxHeartbeats 4000000 in
theorem M_X11_leafOf {l : Launch} {b : ab_B} {D : va_G} {cA : Nat → ClassId} {f_X11_isWord : List Value → ab_H → Option ab_O} (h_X11_isWord : ab_M l b D ab_cl cA (ab_E0 b) yX11_isWord (Cond.code yX11_isWord cX11_isWord 3 (some .boolean) :: ab_G) ({ frames := 1, cells := 0, slots := 0, locals := 100 } : Room) f_X11_isWord) : ab_M l b D ab_cl cA (ab_E0 b) yX11_leafOf (Cond.code yX11_leafOf cX11_leafOf 1 (some .int) :: ab_G) ({ frames := 2, cells := 0, slots := 0, locals := 200 } : Room) (ab_X (ab_T (L_X11_leafOf f_X11_isWord)) 1) := by
  refine ab_meth (ret := (some .int)) (L_X11_leafOf f_X11_isWord) (by decide) rfl fun p e R s m args below meth c o C => ?_
  unfold L_X11_leafOf
  refine List.forall_mem_cons.mpr ⟨ok_aload_n C (show decode cX11_leafOf 0 = .ok (.aload_n 0, 1) by decide +kernel) rfl rfl, ?_⟩
  refine List.forall_mem_cons.mpr ⟨ok_ldc2 C (show decode cX11_leafOf 1 = .ok (.ldc2_w 119, 3) by decide +kernel) (gm kw_1171) rfl, ?_⟩
  refine List.forall_mem_cons.mpr ⟨ok_callV C h_X11_isWord ⟨rfl, rfl⟩ rfl kw_1340 kw_1337 kw_1339 kp_52 kw_11 rfl ds_X11_isWord ⟨by decide, by decide⟩ (show decode cX11_leafOf 4 = .ok (.invokevirtual 201, 3) by decide +kernel) rfl, ?_⟩
  refine List.forall_mem_cons.mpr ⟨ok_ifeq C (show decode cX11_leafOf 7 = .ok (.ifCond .eq 7, 3) by decide +kernel) (tg := 14) (by decide) rfl rfl, ?_⟩
  refine List.forall_mem_cons.mpr ⟨ok_iconst C (show decode cX11_leafOf 10 = .ok (.iconst 0, 1) by decide +kernel) (by decide) rfl, ?_⟩
  refine List.forall_mem_cons.mpr ⟨ok_goto C (show decode cX11_leafOf 11 = .ok (.goto 119, 3) by decide +kernel) (tg := 130) (by decide) rfl, ?_⟩
  refine List.forall_mem_cons.mpr ⟨ok_aload_n C (show decode cX11_leafOf 14 = .ok (.aload_n 0, 1) by decide +kernel) rfl rfl, ?_⟩
  refine List.forall_mem_cons.mpr ⟨ok_ldc2 C (show decode cX11_leafOf 15 = .ok (.ldc2_w 121, 3) by decide +kernel) (gm kw_1172) rfl, ?_⟩
  refine List.forall_mem_cons.mpr ⟨ok_callV C h_X11_isWord ⟨rfl, rfl⟩ rfl kw_1340 kw_1337 kw_1339 kp_52 kw_11 rfl ds_X11_isWord ⟨by decide, by decide⟩ (show decode cX11_leafOf 18 = .ok (.invokevirtual 201, 3) by decide +kernel) rfl, ?_⟩
  refine List.forall_mem_cons.mpr ⟨ok_ifeq C (show decode cX11_leafOf 21 = .ok (.ifCond .eq 7, 3) by decide +kernel) (tg := 28) (by decide) rfl rfl, ?_⟩
  refine List.forall_mem_cons.mpr ⟨ok_iconst C (show decode cX11_leafOf 24 = .ok (.iconst 1, 1) by decide +kernel) (by decide) rfl, ?_⟩
  refine List.forall_mem_cons.mpr ⟨ok_goto C (show decode cX11_leafOf 25 = .ok (.goto 105, 3) by decide +kernel) (tg := 130) (by decide) rfl, ?_⟩
  refine List.forall_mem_cons.mpr ⟨ok_aload_n C (show decode cX11_leafOf 28 = .ok (.aload_n 0, 1) by decide +kernel) rfl rfl, ?_⟩
  refine List.forall_mem_cons.mpr ⟨ok_ldc2 C (show decode cX11_leafOf 29 = .ok (.ldc2_w 123, 3) by decide +kernel) (gm kw_1173) rfl, ?_⟩
  refine List.forall_mem_cons.mpr ⟨ok_callV C h_X11_isWord ⟨rfl, rfl⟩ rfl kw_1340 kw_1337 kw_1339 kp_52 kw_11 rfl ds_X11_isWord ⟨by decide, by decide⟩ (show decode cX11_leafOf 32 = .ok (.invokevirtual 201, 3) by decide +kernel) rfl, ?_⟩
  refine List.forall_mem_cons.mpr ⟨ok_ifeq C (show decode cX11_leafOf 35 = .ok (.ifCond .eq 7, 3) by decide +kernel) (tg := 42) (by decide) rfl rfl, ?_⟩
  refine List.forall_mem_cons.mpr ⟨ok_iconst C (show decode cX11_leafOf 38 = .ok (.iconst 2, 1) by decide +kernel) (by decide) rfl, ?_⟩
  refine List.forall_mem_cons.mpr ⟨ok_goto C (show decode cX11_leafOf 39 = .ok (.goto 91, 3) by decide +kernel) (tg := 130) (by decide) rfl, ?_⟩
  refine List.forall_mem_cons.mpr ⟨ok_aload_n C (show decode cX11_leafOf 42 = .ok (.aload_n 0, 1) by decide +kernel) rfl rfl, ?_⟩
  refine List.forall_mem_cons.mpr ⟨ok_ldc2 C (show decode cX11_leafOf 43 = .ok (.ldc2_w 125, 3) by decide +kernel) (gm kw_1174) rfl, ?_⟩
  refine List.forall_mem_cons.mpr ⟨ok_callV C h_X11_isWord ⟨rfl, rfl⟩ rfl kw_1340 kw_1337 kw_1339 kp_52 kw_11 rfl ds_X11_isWord ⟨by decide, by decide⟩ (show decode cX11_leafOf 46 = .ok (.invokevirtual 201, 3) by decide +kernel) rfl, ?_⟩
  refine List.forall_mem_cons.mpr ⟨ok_ifeq C (show decode cX11_leafOf 49 = .ok (.ifCond .eq 7, 3) by decide +kernel) (tg := 56) (by decide) rfl rfl, ?_⟩
  refine List.forall_mem_cons.mpr ⟨ok_iconst C (show decode cX11_leafOf 52 = .ok (.iconst 3, 1) by decide +kernel) (by decide) rfl, ?_⟩
  refine List.forall_mem_cons.mpr ⟨ok_goto C (show decode cX11_leafOf 53 = .ok (.goto 77, 3) by decide +kernel) (tg := 130) (by decide) rfl, ?_⟩
  refine List.forall_mem_cons.mpr ⟨ok_aload_n C (show decode cX11_leafOf 56 = .ok (.aload_n 0, 1) by decide +kernel) rfl rfl, ?_⟩
  refine List.forall_mem_cons.mpr ⟨ok_ldc2 C (show decode cX11_leafOf 57 = .ok (.ldc2_w 127, 3) by decide +kernel) (gm kw_1175) rfl, ?_⟩
  refine List.forall_mem_cons.mpr ⟨ok_callV C h_X11_isWord ⟨rfl, rfl⟩ rfl kw_1340 kw_1337 kw_1339 kp_52 kw_11 rfl ds_X11_isWord ⟨by decide, by decide⟩ (show decode cX11_leafOf 60 = .ok (.invokevirtual 201, 3) by decide +kernel) rfl, ?_⟩
  refine List.forall_mem_cons.mpr ⟨ok_ifeq C (show decode cX11_leafOf 63 = .ok (.ifCond .eq 7, 3) by decide +kernel) (tg := 70) (by decide) rfl rfl, ?_⟩
  refine List.forall_mem_cons.mpr ⟨ok_iconst C (show decode cX11_leafOf 66 = .ok (.iconst 4, 1) by decide +kernel) (by decide) rfl, ?_⟩
  refine List.forall_mem_cons.mpr ⟨ok_goto C (show decode cX11_leafOf 67 = .ok (.goto 63, 3) by decide +kernel) (tg := 130) (by decide) rfl, ?_⟩
  refine List.forall_mem_cons.mpr ⟨ok_aload_n C (show decode cX11_leafOf 70 = .ok (.aload_n 0, 1) by decide +kernel) rfl rfl, ?_⟩
  refine List.forall_mem_cons.mpr ⟨ok_ldc2 C (show decode cX11_leafOf 71 = .ok (.ldc2_w 129, 3) by decide +kernel) (gm kw_1176) rfl, ?_⟩
  refine List.forall_mem_cons.mpr ⟨ok_callV C h_X11_isWord ⟨rfl, rfl⟩ rfl kw_1340 kw_1337 kw_1339 kp_52 kw_11 rfl ds_X11_isWord ⟨by decide, by decide⟩ (show decode cX11_leafOf 74 = .ok (.invokevirtual 201, 3) by decide +kernel) rfl, ?_⟩
  refine List.forall_mem_cons.mpr ⟨ok_ifeq C (show decode cX11_leafOf 77 = .ok (.ifCond .eq 7, 3) by decide +kernel) (tg := 84) (by decide) rfl rfl, ?_⟩
  refine List.forall_mem_cons.mpr ⟨ok_iconst C (show decode cX11_leafOf 80 = .ok (.iconst 5, 1) by decide +kernel) (by decide) rfl, ?_⟩
  refine List.forall_mem_cons.mpr ⟨ok_goto C (show decode cX11_leafOf 81 = .ok (.goto 49, 3) by decide +kernel) (tg := 130) (by decide) rfl, ?_⟩
  refine List.forall_mem_cons.mpr ⟨ok_aload_n C (show decode cX11_leafOf 84 = .ok (.aload_n 0, 1) by decide +kernel) rfl rfl, ?_⟩
  refine List.forall_mem_cons.mpr ⟨ok_ldc2 C (show decode cX11_leafOf 85 = .ok (.ldc2_w 131, 3) by decide +kernel) (gm kw_1177) rfl, ?_⟩
  refine List.forall_mem_cons.mpr ⟨ok_callV C h_X11_isWord ⟨rfl, rfl⟩ rfl kw_1340 kw_1337 kw_1339 kp_52 kw_11 rfl ds_X11_isWord ⟨by decide, by decide⟩ (show decode cX11_leafOf 88 = .ok (.invokevirtual 201, 3) by decide +kernel) rfl, ?_⟩
  refine List.forall_mem_cons.mpr ⟨ok_ifeq C (show decode cX11_leafOf 91 = .ok (.ifCond .eq 8, 3) by decide +kernel) (tg := 99) (by decide) rfl rfl, ?_⟩
  refine List.forall_mem_cons.mpr ⟨ok_bipush C (show decode cX11_leafOf 94 = .ok (.bipush 6, 2) by decide +kernel) (by decide) rfl, ?_⟩
  refine List.forall_mem_cons.mpr ⟨ok_goto C (show decode cX11_leafOf 96 = .ok (.goto 34, 3) by decide +kernel) (tg := 130) (by decide) rfl, ?_⟩
  refine List.forall_mem_cons.mpr ⟨ok_aload_n C (show decode cX11_leafOf 99 = .ok (.aload_n 0, 1) by decide +kernel) rfl rfl, ?_⟩
  refine List.forall_mem_cons.mpr ⟨ok_ldc2 C (show decode cX11_leafOf 100 = .ok (.ldc2_w 133, 3) by decide +kernel) (gm kw_1178) rfl, ?_⟩
  refine List.forall_mem_cons.mpr ⟨ok_callV C h_X11_isWord ⟨rfl, rfl⟩ rfl kw_1340 kw_1337 kw_1339 kp_52 kw_11 rfl ds_X11_isWord ⟨by decide, by decide⟩ (show decode cX11_leafOf 103 = .ok (.invokevirtual 201, 3) by decide +kernel) rfl, ?_⟩
  refine List.forall_mem_cons.mpr ⟨ok_ifeq C (show decode cX11_leafOf 106 = .ok (.ifCond .eq 8, 3) by decide +kernel) (tg := 114) (by decide) rfl rfl, ?_⟩
  refine List.forall_mem_cons.mpr ⟨ok_bipush C (show decode cX11_leafOf 109 = .ok (.bipush 7, 2) by decide +kernel) (by decide) rfl, ?_⟩
  refine List.forall_mem_cons.mpr ⟨ok_goto C (show decode cX11_leafOf 111 = .ok (.goto 19, 3) by decide +kernel) (tg := 130) (by decide) rfl, ?_⟩
  refine List.forall_mem_cons.mpr ⟨ok_aload_n C (show decode cX11_leafOf 114 = .ok (.aload_n 0, 1) by decide +kernel) rfl rfl, ?_⟩
  refine List.forall_mem_cons.mpr ⟨ok_ldc2 C (show decode cX11_leafOf 115 = .ok (.ldc2_w 135, 3) by decide +kernel) (gm kw_1179) rfl, ?_⟩
  refine List.forall_mem_cons.mpr ⟨ok_callV C h_X11_isWord ⟨rfl, rfl⟩ rfl kw_1340 kw_1337 kw_1339 kp_52 kw_11 rfl ds_X11_isWord ⟨by decide, by decide⟩ (show decode cX11_leafOf 118 = .ok (.invokevirtual 201, 3) by decide +kernel) rfl, ?_⟩
  refine List.forall_mem_cons.mpr ⟨ok_ifeq C (show decode cX11_leafOf 121 = .ok (.ifCond .eq 8, 3) by decide +kernel) (tg := 129) (by decide) rfl rfl, ?_⟩
  refine List.forall_mem_cons.mpr ⟨ok_bipush C (show decode cX11_leafOf 124 = .ok (.bipush 8, 2) by decide +kernel) (by decide) rfl, ?_⟩
  refine List.forall_mem_cons.mpr ⟨ok_goto C (show decode cX11_leafOf 126 = .ok (.goto 4, 3) by decide +kernel) (tg := 130) (by decide) rfl, ?_⟩
  refine List.forall_mem_cons.mpr ⟨ok_iconst C (show decode cX11_leafOf 129 = .ok (.iconst (-1), 1) by decide +kernel) (by decide) rfl, ?_⟩
  refine List.forall_mem_cons.mpr ⟨ok_ret C rfl (show decode cX11_leafOf 130 = .ok (.ireturn, 1) by decide +kernel), ?_⟩
  exact fun _ h => absurd h List.not_mem_nil
