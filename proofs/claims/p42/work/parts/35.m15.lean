def L_X11_strait (f_X11_taken : List Value → ab_H → Option ab_O) (f_X11_next : List Value → ab_H → Option ab_O) (f_X11_line : List Value → ab_H → Option ab_O) (f_X11_sign : List Value → ab_H → Option ab_O) : List (Nat × ab_A) := [
  (0, ab_nx 1 (ab_aload 0)),
  (1, ab_nx 2 (ab_lit (.int 0))),
  (2, ab_nx 5 (ab_putf 11 0 0)),
  (5, ab_nx 6 (ab_aload 0)),
  (6, ab_nx 9 (ab_lit (.int 900))),
  (9, ab_nx 12 (ab_callV 2 11 f_X11_taken 0 0 0 0)),
  (12, ab_nx 13 (ab_aload 0)),
  (13, ab_nx 14 (ab_lit (.int 0))),
  (14, ab_nx 17 (ab_putf 11 15 0)),
  (17, ab_nx 18 (ab_aload 0)),
  (18, ab_nx 19 (ab_lit (.int 0))),
  (19, ab_nx 22 (ab_putf 11 19 0)),
  (22, ab_nx 23 (ab_aload 0)),
  (23, ab_nx 24 (ab_lit (.int 0))),
  (24, ab_nx 27 (ab_putf 11 20 3)),
  (27, ab_nx 28 (ab_lit (.int 0))),
  (28, ab_nx 29 (ab_istore 1)),
  (29, ab_nx 30 (ab_iload 1)),
  (30, ab_nx 31 (ab_lit (.int 4))),
  (31, ab_icmp 34 47 (fun x y => decide (y ≤ x))),
  (34, ab_nx 35 (ab_aload 0)),
  (35, ab_nx 38 (ab_getf 11 21)),
  (38, ab_nx 39 (ab_iload 1)),
  (39, ab_nx 40 (ab_lit (.int 0))),
  (40, ab_nx 41 (ab_ast 1)),
  (41, ab_nx 44 (ab_iinc 1 1)),
  (44, ab_goto 29),
  (47, ab_nx 48 (ab_lit (.int 0))),
  (48, ab_nx 49 (ab_istore 1)),
  (49, ab_nx 50 (ab_iload 1)),
  (50, ab_nx 52 (ab_lit (.int 120))),
  (52, ab_icmp 55 68 (fun x y => decide (y ≤ x))),
  (55, ab_nx 56 (ab_aload 0)),
  (56, ab_nx 59 (ab_getf 11 7)),
  (59, ab_nx 60 (ab_iload 1)),
  (60, ab_nx 61 (ab_lit (.int 0))),
  (61, ab_nx 62 (ab_ast 1)),
  (62, ab_nx 65 (ab_iinc 1 1)),
  (65, ab_goto 49),
  (68, ab_nx 69 (ab_aload 0)),
  (69, ab_nx 72 (ab_getf 11 7)),
  (72, ab_nx 73 (ab_lit (.int 2))),
  (73, ab_nx 75 (ab_lit (.int 10))),
  (75, ab_nx 76 (ab_ast 1)),
  (76, ab_nx 77 (ab_aload 0)),
  (77, ab_nx 80 (ab_callV 1 11 f_X11_next 0 0 0 0)),
  (80, ab_nx 81 (ab_aload 0)),
  (81, ab_nx 84 (ab_getf 11 11)),
  (84, ab_if 87 123 (fun x => decide (x = 0))),
  (87, ab_nx 88 (ab_aload 0)),
  (88, ab_nx 91 (ab_callV 1 11 f_X11_line 0 0 0 0)),
  (91, ab_if 94 103 (fun x => decide (x = 0))),
  (94, ab_nx 95 (ab_aload 0)),
  (95, ab_nx 97 (ab_lit (.int 59))),
  (97, ab_nx 100 (ab_callV 2 11 f_X11_sign 0 0 0 0)),
  (100, ab_if 103 110 (fun x => !decide (x = 0))),
  (103, ab_nx 104 (ab_lit (.int (-1)))),
  (104, ab_nx 105 (ab_aload 0)),
  (105, ab_nx 108 (ab_getf 11 16)),
  (108, ab_nx 109 (ab_bin (fun x y => x - y))),
  (109, ab_ret 0 0),
  (110, ab_nx 111 (ab_aload 0)),
  (111, ab_nx 112 ab_dup),
  (112, ab_nx 115 (ab_getf 11 19)),
  (115, ab_nx 116 (ab_lit (.int 1))),
  (116, ab_nx 117 (ab_bin (fun x y => x + y))),
  (117, ab_nx 120 (ab_putf 11 19 0)),
  (120, ab_goto 80),
  (123, ab_nx 124 (ab_lit (.int 0))),
  (124, ab_nx 125 (ab_istore 1)),
  (125, ab_nx 126 (ab_iload 1)),
  (126, ab_nx 129 (ab_lit (.int 434))),
  (129, ab_icmp 132 160 (fun x y => decide (y ≤ x))),
  (132, ab_nx 133 (ab_aload 0)),
  (133, ab_nx 136 (ab_getf 11 6)),
  (136, ab_nx 137 (ab_iload 1)),
  (137, ab_nx 138 (ab_iload 1)),
  (138, ab_nx 140 (ab_lit (.int 120))),
  (140, ab_icmp 143 152 (fun x y => decide (y ≤ x))),
  (143, ab_nx 144 (ab_aload 0)),
  (144, ab_nx 147 (ab_getf 11 7)),
  (147, ab_nx 148 (ab_iload 1)),
  (148, ab_nx 149 (ab_ald 1)),
  (149, ab_goto 153),
  (152, ab_nx 153 (ab_lit (.int 0))),
  (153, ab_nx 154 (ab_ast 1)),
  (154, ab_nx 157 (ab_iinc 1 1)),
  (157, ab_goto 125),
  (160, ab_nx 161 (ab_lit (.int 0))),
  (161, ab_nx 162 (ab_istore 1)),
  (162, ab_nx 163 (ab_iload 1)),
  (163, ab_nx 165 (ab_lit (.int 14))),
  (165, ab_icmp 168 189 (fun x y => decide (y ≤ x))),
  (168, ab_nx 169 (ab_aload 0)),
  (169, ab_nx 172 (ab_getf 11 9)),
  (172, ab_nx 173 (ab_iload 1)),
  (173, ab_nx 174 (ab_aload 0)),
  (174, ab_nx 177 (ab_getf 11 9)),
  (177, ab_nx 179 (ab_lit (.int 14))),
  (179, ab_nx 180 (ab_iload 1)),
  (180, ab_nx 181 (ab_bin (fun x y => x + y))),
  (181, ab_nx 182 ab_lald),
  (182, ab_nx 183 ab_last),
  (183, ab_nx 186 (ab_iinc 1 1)),
  (186, ab_goto 162),
  (189, ab_nx 190 (ab_lit (.int 0))),
  (190, ab_nx 191 (ab_istore 1)),
  (191, ab_nx 192 (ab_iload 1)),
  (192, ab_nx 194 (ab_lit (.int 12))),
  (194, ab_icmp 197 220 (fun x y => decide (y ≤ x))),
  (197, ab_nx 198 (ab_aload 0)),
  (198, ab_nx 201 (ab_getf 11 6)),
  (201, ab_nx 203 (ab_lit (.int 124))),
  (203, ab_nx 204 (ab_iload 1)),
  (204, ab_nx 205 (ab_bin (fun x y => x + y))),
  (205, ab_nx 206 (ab_aload 0)),
  (206, ab_nx 209 (ab_getf 11 6)),
  (209, ab_nx 210 (ab_lit (.int 4))),
  (210, ab_nx 211 (ab_iload 1)),
  (211, ab_nx 212 (ab_bin (fun x y => x + y))),
  (212, ab_nx 213 (ab_ald 1)),
  (213, ab_nx 214 (ab_ast 1)),
  (214, ab_nx 217 (ab_iinc 1 1)),
  (217, ab_goto 191),
  (220, ab_nx 221 (ab_lit (.int 0))),
  (221, ab_nx 222 (ab_istore 1)),
  (222, ab_nx 223 (ab_iload 1)),
  (223, ab_nx 225 (ab_lit (.int 8))),
  (225, ab_icmp 228 253 (fun x y => decide (y ≤ x))),
  (228, ab_nx 229 (ab_aload 0)),
  (229, ab_nx 232 (ab_getf 11 6)),
  (232, ab_nx 235 (ab_lit (.int 172))),
  (235, ab_nx 236 (ab_iload 1)),
  (236, ab_nx 237 (ab_bin (fun x y => x + y))),
  (237, ab_nx 238 (ab_aload 0)),
  (238, ab_nx 241 (ab_getf 11 6)),
  (241, ab_nx 243 (ab_lit (.int 52))),
  (243, ab_nx 244 (ab_iload 1)),
  (244, ab_nx 245 (ab_bin (fun x y => x + y))),
  (245, ab_nx 246 (ab_ald 1)),
  (246, ab_nx 247 (ab_ast 1)),
  (247, ab_nx 250 (ab_iinc 1 1)),
  (250, ab_goto 222),
  (253, ab_nx 254 (ab_aload 0)),
  (254, ab_nx 255 (ab_lit (.int 0))),
  (255, ab_nx 258 (ab_putf 11 25 0)),
  (258, ab_nx 259 (ab_aload 0)),
  (259, ab_nx 262 (ab_getf 11 19)),
  (262, ab_ret 0 0)]
set_option maxRecDepth 100000 in
set_option maxHeartbeats 4000000 in
theorem M_X11_strait {l : Launch} {b : ab_B} {D : va_G} {cA : Nat → ClassId} {f_X11_taken : List Value → ab_H → Option ab_O} (h_X11_taken : ab_M l b D ab_cl cA (ab_E0 b) yX11_taken (Cond.code yX11_taken cX11_taken 2 none :: ab_G) ({ frames := 1, cells := 0, slots := 0, locals := 100 } : Room) f_X11_taken) {f_X11_next : List Value → ab_H → Option ab_O} (h_X11_next : ab_M l b D ab_cl cA (ab_E0 b) yX11_next (Cond.code yX11_next cX11_next 4 none :: ab_G) ({ frames := 2, cells := 0, slots := 0, locals := 200 } : Room) f_X11_next) {f_X11_line : List Value → ab_H → Option ab_O} (h_X11_line : ab_M l b D ab_cl cA (ab_E0 b) yX11_line (Cond.code yX11_line cX11_line 4 (some .boolean) :: ab_G) ({ frames := 6, cells := 0, slots := 0, locals := 600 } : Room) f_X11_line) {f_X11_sign : List Value → ab_H → Option ab_O} (h_X11_sign : ab_M l b D ab_cl cA (ab_E0 b) yX11_sign (Cond.code yX11_sign cX11_sign 2 (some .boolean) :: ab_G) ({ frames := 3, cells := 0, slots := 0, locals := 300 } : Room) f_X11_sign) : ab_M l b D ab_cl cA (ab_E0 b) yX11_strait (Cond.code yX11_strait cX11_strait 2 (some .int) :: ab_G) ({ frames := 7, cells := 0, slots := 0, locals := 700 } : Room) (ab_X (ab_T (L_X11_strait f_X11_taken f_X11_next f_X11_line f_X11_sign)) 2) := by
  refine ab_meth (ret := (some .int)) (L_X11_strait f_X11_taken f_X11_next f_X11_line f_X11_sign) (by decide) rfl fun p e R s m args below meth c o C => ?_
  unfold L_X11_strait
  refine List.forall_mem_cons.mpr ⟨ok_aload_n C (show decode cX11_strait 0 = .ok (.aload_n 0, 1) by decide +kernel) rfl rfl, ?_⟩
  refine List.forall_mem_cons.mpr ⟨ok_iconst C (show decode cX11_strait 1 = .ok (.iconst 0, 1) by decide +kernel) (by decide) rfl, ?_⟩
  refine List.forall_mem_cons.mpr ⟨ok_putf C (wi_X11) tyX11 tyX11_ok nmX11 rfl (by decide) kw_1180 (Or.inl rfl) (Or.inl ⟨rfl, rfl⟩) (show decode cX11_strait 2 = .ok (.putfield 1, 3) by decide +kernel) rfl, ?_⟩
  refine List.forall_mem_cons.mpr ⟨ok_aload_n C (show decode cX11_strait 5 = .ok (.aload_n 0, 1) by decide +kernel) rfl rfl, ?_⟩
  refine List.forall_mem_cons.mpr ⟨ok_sipush C (show decode cX11_strait 6 = .ok (.sipush 900, 3) by decide +kernel) (by decide) rfl, ?_⟩
  refine List.forall_mem_cons.mpr ⟨ok_callV C h_X11_taken ⟨rfl, rfl⟩ rfl kw_1318 kw_1315 kw_1317 kp_48 kw_11 rfl ds_X11_taken ⟨by decide, by decide⟩ (show decode cX11_strait 9 = .ok (.invokevirtual 224, 3) by decide +kernel) rfl, ?_⟩
  refine List.forall_mem_cons.mpr ⟨ok_aload_n C (show decode cX11_strait 12 = .ok (.aload_n 0, 1) by decide +kernel) rfl rfl, ?_⟩
  refine List.forall_mem_cons.mpr ⟨ok_iconst C (show decode cX11_strait 13 = .ok (.iconst 0, 1) by decide +kernel) (by decide) rfl, ?_⟩
  refine List.forall_mem_cons.mpr ⟨ok_putf C (wi_X11) tyX11 tyX11_ok nmX11 rfl (by decide) kw_1195 (Or.inl rfl) (Or.inl ⟨rfl, rfl⟩) (show decode cX11_strait 14 = .ok (.putfield 164, 3) by decide +kernel) rfl, ?_⟩
  refine List.forall_mem_cons.mpr ⟨ok_aload_n C (show decode cX11_strait 17 = .ok (.aload_n 0, 1) by decide +kernel) rfl rfl, ?_⟩
  refine List.forall_mem_cons.mpr ⟨ok_iconst C (show decode cX11_strait 18 = .ok (.iconst 0, 1) by decide +kernel) (by decide) rfl, ?_⟩
  refine List.forall_mem_cons.mpr ⟨ok_putf C (wi_X11) tyX11 tyX11_ok nmX11 rfl (by decide) kw_1199 (Or.inl rfl) (Or.inl ⟨rfl, rfl⟩) (show decode cX11_strait 19 = .ok (.putfield 227, 3) by decide +kernel) rfl, ?_⟩
  refine List.forall_mem_cons.mpr ⟨ok_aload_n C (show decode cX11_strait 22 = .ok (.aload_n 0, 1) by decide +kernel) rfl rfl, ?_⟩
  refine List.forall_mem_cons.mpr ⟨ok_iconst C (show decode cX11_strait 23 = .ok (.iconst 0, 1) by decide +kernel) (by decide) rfl, ?_⟩
  refine List.forall_mem_cons.mpr ⟨ok_putf C (wi_X11) tyX11 tyX11_ok nmX11 rfl (by decide) kw_1200 (Or.inl rfl) (Or.inr (Or.inr (Or.inr ⟨rfl, rfl⟩))) (show decode cX11_strait 24 = .ok (.putfield 205, 3) by decide +kernel) rfl, ?_⟩
  refine List.forall_mem_cons.mpr ⟨ok_iconst C (show decode cX11_strait 27 = .ok (.iconst 0, 1) by decide +kernel) (by decide) rfl, ?_⟩
  refine List.forall_mem_cons.mpr ⟨ok_istore_n C (show decode cX11_strait 28 = .ok (.istore_n 1, 1) by decide +kernel) rfl (by decide) rfl, ?_⟩
  refine List.forall_mem_cons.mpr ⟨ok_iload_n C (show decode cX11_strait 29 = .ok (.iload_n 1, 1) by decide +kernel) rfl rfl, ?_⟩
  refine List.forall_mem_cons.mpr ⟨ok_iconst C (show decode cX11_strait 30 = .ok (.iconst 4, 1) by decide +kernel) (by decide) rfl, ?_⟩
  refine List.forall_mem_cons.mpr ⟨ok_icmpge C (show decode cX11_strait 31 = .ok (.if_icmp .ge 16, 3) by decide +kernel) (tg := 47) (by decide) rfl rfl, ?_⟩
  refine List.forall_mem_cons.mpr ⟨ok_aload_n C (show decode cX11_strait 34 = .ok (.aload_n 0, 1) by decide +kernel) rfl rfl, ?_⟩
  refine List.forall_mem_cons.mpr ⟨ok_getf C (wi_X11) rfl (by decide) kw_1201 (show decode cX11_strait 35 = .ok (.getfield 50, 3) by decide +kernel) rfl, ?_⟩
  refine List.forall_mem_cons.mpr ⟨ok_iload_n C (show decode cX11_strait 38 = .ok (.iload_n 1, 1) by decide +kernel) rfl rfl, ?_⟩
  refine List.forall_mem_cons.mpr ⟨ok_iconst C (show decode cX11_strait 39 = .ok (.iconst 0, 1) by decide +kernel) (by decide) rfl, ?_⟩
  refine List.forall_mem_cons.mpr ⟨ok_iastore C (show decode cX11_strait 40 = .ok (.iastore, 1) by decide +kernel) rfl, ?_⟩
  refine List.forall_mem_cons.mpr ⟨ok_iinc C (show decode cX11_strait 41 = .ok (.iinc 1 1, 3) by decide +kernel) (by decide) (by decide) rfl, ?_⟩
  refine List.forall_mem_cons.mpr ⟨ok_goto C (show decode cX11_strait 44 = .ok (.goto (-15), 3) by decide +kernel) (tg := 29) (by decide) rfl, ?_⟩
  refine List.forall_mem_cons.mpr ⟨ok_iconst C (show decode cX11_strait 47 = .ok (.iconst 0, 1) by decide +kernel) (by decide) rfl, ?_⟩
  refine List.forall_mem_cons.mpr ⟨ok_istore_n C (show decode cX11_strait 48 = .ok (.istore_n 1, 1) by decide +kernel) rfl (by decide) rfl, ?_⟩
  refine List.forall_mem_cons.mpr ⟨ok_iload_n C (show decode cX11_strait 49 = .ok (.iload_n 1, 1) by decide +kernel) rfl rfl, ?_⟩
  refine List.forall_mem_cons.mpr ⟨ok_bipush C (show decode cX11_strait 50 = .ok (.bipush 120, 2) by decide +kernel) (by decide) rfl, ?_⟩
  refine List.forall_mem_cons.mpr ⟨ok_icmpge C (show decode cX11_strait 52 = .ok (.if_icmp .ge 16, 3) by decide +kernel) (tg := 68) (by decide) rfl rfl, ?_⟩
  refine List.forall_mem_cons.mpr ⟨ok_aload_n C (show decode cX11_strait 55 = .ok (.aload_n 0, 1) by decide +kernel) rfl rfl, ?_⟩
  refine List.forall_mem_cons.mpr ⟨ok_getf C (wi_X11) rfl (by decide) kw_1187 (show decode cX11_strait 56 = .ok (.getfield 37, 3) by decide +kernel) rfl, ?_⟩
  refine List.forall_mem_cons.mpr ⟨ok_iload_n C (show decode cX11_strait 59 = .ok (.iload_n 1, 1) by decide +kernel) rfl rfl, ?_⟩
  refine List.forall_mem_cons.mpr ⟨ok_iconst C (show decode cX11_strait 60 = .ok (.iconst 0, 1) by decide +kernel) (by decide) rfl, ?_⟩
  refine List.forall_mem_cons.mpr ⟨ok_iastore C (show decode cX11_strait 61 = .ok (.iastore, 1) by decide +kernel) rfl, ?_⟩
  refine List.forall_mem_cons.mpr ⟨ok_iinc C (show decode cX11_strait 62 = .ok (.iinc 1 1, 3) by decide +kernel) (by decide) (by decide) rfl, ?_⟩
  refine List.forall_mem_cons.mpr ⟨ok_goto C (show decode cX11_strait 65 = .ok (.goto (-16), 3) by decide +kernel) (tg := 49) (by decide) rfl, ?_⟩
  refine List.forall_mem_cons.mpr ⟨ok_aload_n C (show decode cX11_strait 68 = .ok (.aload_n 0, 1) by decide +kernel) rfl rfl, ?_⟩
  refine List.forall_mem_cons.mpr ⟨ok_getf C (wi_X11) rfl (by decide) kw_1187 (show decode cX11_strait 69 = .ok (.getfield 37, 3) by decide +kernel) rfl, ?_⟩
  refine List.forall_mem_cons.mpr ⟨ok_iconst C (show decode cX11_strait 72 = .ok (.iconst 2, 1) by decide +kernel) (by decide) rfl, ?_⟩
  refine List.forall_mem_cons.mpr ⟨ok_bipush C (show decode cX11_strait 73 = .ok (.bipush 10, 2) by decide +kernel) (by decide) rfl, ?_⟩
  refine List.forall_mem_cons.mpr ⟨ok_iastore C (show decode cX11_strait 75 = .ok (.iastore, 1) by decide +kernel) rfl, ?_⟩
  refine List.forall_mem_cons.mpr ⟨ok_aload_n C (show decode cX11_strait 76 = .ok (.aload_n 0, 1) by decide +kernel) rfl rfl, ?_⟩
  refine List.forall_mem_cons.mpr ⟨ok_callV C h_X11_next ⟨rfl, rfl⟩ rfl kw_1322 kw_1319 kw_1321 kp_49 kw_11 rfl ds_X11_next ⟨by decide, by decide⟩ (show decode cX11_strait 77 = .ok (.invokevirtual 176, 3) by decide +kernel) rfl, ?_⟩
  refine List.forall_mem_cons.mpr ⟨ok_aload_n C (show decode cX11_strait 80 = .ok (.aload_n 0, 1) by decide +kernel) rfl rfl, ?_⟩
  refine List.forall_mem_cons.mpr ⟨ok_getf C (wi_X11) rfl (by decide) kw_1191 (show decode cX11_strait 81 = .ok (.getfield 147, 3) by decide +kernel) rfl, ?_⟩
  refine List.forall_mem_cons.mpr ⟨ok_ifeq C (show decode cX11_strait 84 = .ok (.ifCond .eq 39, 3) by decide +kernel) (tg := 123) (by decide) rfl rfl, ?_⟩
  refine List.forall_mem_cons.mpr ⟨ok_aload_n C (show decode cX11_strait 87 = .ok (.aload_n 0, 1) by decide +kernel) rfl rfl, ?_⟩
  refine List.forall_mem_cons.mpr ⟨ok_callV C h_X11_line ⟨rfl, rfl⟩ rfl kw_1336 kw_1333 kw_1335 kp_51 kw_11 rfl ds_X11_line ⟨by decide, by decide⟩ (show decode cX11_strait 88 = .ok (.invokevirtual 230, 3) by decide +kernel) rfl, ?_⟩
  refine List.forall_mem_cons.mpr ⟨ok_ifeq C (show decode cX11_strait 91 = .ok (.ifCond .eq 12, 3) by decide +kernel) (tg := 103) (by decide) rfl rfl, ?_⟩
  refine List.forall_mem_cons.mpr ⟨ok_aload_n C (show decode cX11_strait 94 = .ok (.aload_n 0, 1) by decide +kernel) rfl rfl, ?_⟩
  refine List.forall_mem_cons.mpr ⟨ok_bipush C (show decode cX11_strait 95 = .ok (.bipush 59, 2) by decide +kernel) (by decide) rfl, ?_⟩
  refine List.forall_mem_cons.mpr ⟨ok_callV C h_X11_sign ⟨rfl, rfl⟩ rfl kw_1386 kw_1383 kw_1385 kp_62 kw_11 rfl ds_X11_sign ⟨by decide, by decide⟩ (show decode cX11_strait 97 = .ok (.invokevirtual 233, 3) by decide +kernel) rfl, ?_⟩
  refine List.forall_mem_cons.mpr ⟨ok_ifne C (show decode cX11_strait 100 = .ok (.ifCond .ne 10, 3) by decide +kernel) (tg := 110) (by decide) rfl rfl, ?_⟩
  refine List.forall_mem_cons.mpr ⟨ok_iconst C (show decode cX11_strait 103 = .ok (.iconst (-1), 1) by decide +kernel) (by decide) rfl, ?_⟩
  refine List.forall_mem_cons.mpr ⟨ok_aload_n C (show decode cX11_strait 104 = .ok (.aload_n 0, 1) by decide +kernel) rfl rfl, ?_⟩
  refine List.forall_mem_cons.mpr ⟨ok_getf C (wi_X11) rfl (by decide) kw_1196 (show decode cX11_strait 105 = .ok (.getfield 167, 3) by decide +kernel) rfl, ?_⟩
  refine List.forall_mem_cons.mpr ⟨ok_isub C (show decode cX11_strait 108 = .ok (.isub, 1) by decide +kernel) rfl, ?_⟩
  refine List.forall_mem_cons.mpr ⟨ok_ret C rfl (show decode cX11_strait 109 = .ok (.ireturn, 1) by decide +kernel), ?_⟩
  refine List.forall_mem_cons.mpr ⟨ok_aload_n C (show decode cX11_strait 110 = .ok (.aload_n 0, 1) by decide +kernel) rfl rfl, ?_⟩
  refine List.forall_mem_cons.mpr ⟨ok_dup C (show decode cX11_strait 111 = .ok (.dup, 1) by decide +kernel) rfl, ?_⟩
  refine List.forall_mem_cons.mpr ⟨ok_getf C (wi_X11) rfl (by decide) kw_1199 (show decode cX11_strait 112 = .ok (.getfield 227, 3) by decide +kernel) rfl, ?_⟩
  refine List.forall_mem_cons.mpr ⟨ok_iconst C (show decode cX11_strait 115 = .ok (.iconst 1, 1) by decide +kernel) (by decide) rfl, ?_⟩
  refine List.forall_mem_cons.mpr ⟨ok_iadd C (show decode cX11_strait 116 = .ok (.iadd, 1) by decide +kernel) rfl, ?_⟩
  refine List.forall_mem_cons.mpr ⟨ok_putf C (wi_X11) tyX11 tyX11_ok nmX11 rfl (by decide) kw_1199 (Or.inl rfl) (Or.inl ⟨rfl, rfl⟩) (show decode cX11_strait 117 = .ok (.putfield 227, 3) by decide +kernel) rfl, ?_⟩
  refine List.forall_mem_cons.mpr ⟨ok_goto C (show decode cX11_strait 120 = .ok (.goto (-40), 3) by decide +kernel) (tg := 80) (by decide) rfl, ?_⟩
  refine List.forall_mem_cons.mpr ⟨ok_iconst C (show decode cX11_strait 123 = .ok (.iconst 0, 1) by decide +kernel) (by decide) rfl, ?_⟩
  refine List.forall_mem_cons.mpr ⟨ok_istore_n C (show decode cX11_strait 124 = .ok (.istore_n 1, 1) by decide +kernel) rfl (by decide) rfl, ?_⟩
  refine List.forall_mem_cons.mpr ⟨ok_iload_n C (show decode cX11_strait 125 = .ok (.iload_n 1, 1) by decide +kernel) rfl rfl, ?_⟩
  refine List.forall_mem_cons.mpr ⟨ok_sipush C (show decode cX11_strait 126 = .ok (.sipush 434, 3) by decide +kernel) (by decide) rfl, ?_⟩
  refine List.forall_mem_cons.mpr ⟨ok_icmpge C (show decode cX11_strait 129 = .ok (.if_icmp .ge 31, 3) by decide +kernel) (tg := 160) (by decide) rfl rfl, ?_⟩
  refine List.forall_mem_cons.mpr ⟨ok_aload_n C (show decode cX11_strait 132 = .ok (.aload_n 0, 1) by decide +kernel) rfl rfl, ?_⟩
  refine List.forall_mem_cons.mpr ⟨ok_getf C (wi_X11) rfl (by decide) kw_1186 (show decode cX11_strait 133 = .ok (.getfield 33, 3) by decide +kernel) rfl, ?_⟩
  refine List.forall_mem_cons.mpr ⟨ok_iload_n C (show decode cX11_strait 136 = .ok (.iload_n 1, 1) by decide +kernel) rfl rfl, ?_⟩
  refine List.forall_mem_cons.mpr ⟨ok_iload_n C (show decode cX11_strait 137 = .ok (.iload_n 1, 1) by decide +kernel) rfl rfl, ?_⟩
  refine List.forall_mem_cons.mpr ⟨ok_bipush C (show decode cX11_strait 138 = .ok (.bipush 120, 2) by decide +kernel) (by decide) rfl, ?_⟩
  refine List.forall_mem_cons.mpr ⟨ok_icmpge C (show decode cX11_strait 140 = .ok (.if_icmp .ge 12, 3) by decide +kernel) (tg := 152) (by decide) rfl rfl, ?_⟩
  refine List.forall_mem_cons.mpr ⟨ok_aload_n C (show decode cX11_strait 143 = .ok (.aload_n 0, 1) by decide +kernel) rfl rfl, ?_⟩
  refine List.forall_mem_cons.mpr ⟨ok_getf C (wi_X11) rfl (by decide) kw_1187 (show decode cX11_strait 144 = .ok (.getfield 37, 3) by decide +kernel) rfl, ?_⟩
  refine List.forall_mem_cons.mpr ⟨ok_iload_n C (show decode cX11_strait 147 = .ok (.iload_n 1, 1) by decide +kernel) rfl rfl, ?_⟩
  refine List.forall_mem_cons.mpr ⟨ok_iaload C (show decode cX11_strait 148 = .ok (.iaload, 1) by decide +kernel) rfl, ?_⟩
  refine List.forall_mem_cons.mpr ⟨ok_goto C (show decode cX11_strait 149 = .ok (.goto 4, 3) by decide +kernel) (tg := 153) (by decide) rfl, ?_⟩
  refine List.forall_mem_cons.mpr ⟨ok_iconst C (show decode cX11_strait 152 = .ok (.iconst 0, 1) by decide +kernel) (by decide) rfl, ?_⟩
  refine List.forall_mem_cons.mpr ⟨ok_iastore C (show decode cX11_strait 153 = .ok (.iastore, 1) by decide +kernel) rfl, ?_⟩
  refine List.forall_mem_cons.mpr ⟨ok_iinc C (show decode cX11_strait 154 = .ok (.iinc 1 1, 3) by decide +kernel) (by decide) (by decide) rfl, ?_⟩
  refine List.forall_mem_cons.mpr ⟨ok_goto C (show decode cX11_strait 157 = .ok (.goto (-32), 3) by decide +kernel) (tg := 125) (by decide) rfl, ?_⟩
  refine List.forall_mem_cons.mpr ⟨ok_iconst C (show decode cX11_strait 160 = .ok (.iconst 0, 1) by decide +kernel) (by decide) rfl, ?_⟩
  refine List.forall_mem_cons.mpr ⟨ok_istore_n C (show decode cX11_strait 161 = .ok (.istore_n 1, 1) by decide +kernel) rfl (by decide) rfl, ?_⟩
  refine List.forall_mem_cons.mpr ⟨ok_iload_n C (show decode cX11_strait 162 = .ok (.iload_n 1, 1) by decide +kernel) rfl rfl, ?_⟩
  refine List.forall_mem_cons.mpr ⟨ok_bipush C (show decode cX11_strait 163 = .ok (.bipush 14, 2) by decide +kernel) (by decide) rfl, ?_⟩
  refine List.forall_mem_cons.mpr ⟨ok_icmpge C (show decode cX11_strait 165 = .ok (.if_icmp .ge 24, 3) by decide +kernel) (tg := 189) (by decide) rfl rfl, ?_⟩
  refine List.forall_mem_cons.mpr ⟨ok_aload_n C (show decode cX11_strait 168 = .ok (.aload_n 0, 1) by decide +kernel) rfl rfl, ?_⟩
  refine List.forall_mem_cons.mpr ⟨ok_getf C (wi_X11) rfl (by decide) kw_1189 (show decode cX11_strait 169 = .ok (.getfield 43, 3) by decide +kernel) rfl, ?_⟩
  refine List.forall_mem_cons.mpr ⟨ok_iload_n C (show decode cX11_strait 172 = .ok (.iload_n 1, 1) by decide +kernel) rfl rfl, ?_⟩
  refine List.forall_mem_cons.mpr ⟨ok_aload_n C (show decode cX11_strait 173 = .ok (.aload_n 0, 1) by decide +kernel) rfl rfl, ?_⟩
  refine List.forall_mem_cons.mpr ⟨ok_getf C (wi_X11) rfl (by decide) kw_1189 (show decode cX11_strait 174 = .ok (.getfield 43, 3) by decide +kernel) rfl, ?_⟩
  refine List.forall_mem_cons.mpr ⟨ok_bipush C (show decode cX11_strait 177 = .ok (.bipush 14, 2) by decide +kernel) (by decide) rfl, ?_⟩
  refine List.forall_mem_cons.mpr ⟨ok_iload_n C (show decode cX11_strait 179 = .ok (.iload_n 1, 1) by decide +kernel) rfl rfl, ?_⟩
  refine List.forall_mem_cons.mpr ⟨ok_iadd C (show decode cX11_strait 180 = .ok (.iadd, 1) by decide +kernel) rfl, ?_⟩
  refine List.forall_mem_cons.mpr ⟨ok_laload C (show decode cX11_strait 181 = .ok (.laload, 1) by decide +kernel) rfl, ?_⟩
  refine List.forall_mem_cons.mpr ⟨ok_lastore C (show decode cX11_strait 182 = .ok (.lastore, 1) by decide +kernel) rfl, ?_⟩
  refine List.forall_mem_cons.mpr ⟨ok_iinc C (show decode cX11_strait 183 = .ok (.iinc 1 1, 3) by decide +kernel) (by decide) (by decide) rfl, ?_⟩
  refine List.forall_mem_cons.mpr ⟨ok_goto C (show decode cX11_strait 186 = .ok (.goto (-24), 3) by decide +kernel) (tg := 162) (by decide) rfl, ?_⟩
  refine List.forall_mem_cons.mpr ⟨ok_iconst C (show decode cX11_strait 189 = .ok (.iconst 0, 1) by decide +kernel) (by decide) rfl, ?_⟩
  refine List.forall_mem_cons.mpr ⟨ok_istore_n C (show decode cX11_strait 190 = .ok (.istore_n 1, 1) by decide +kernel) rfl (by decide) rfl, ?_⟩
  refine List.forall_mem_cons.mpr ⟨ok_iload_n C (show decode cX11_strait 191 = .ok (.iload_n 1, 1) by decide +kernel) rfl rfl, ?_⟩
  refine List.forall_mem_cons.mpr ⟨ok_bipush C (show decode cX11_strait 192 = .ok (.bipush 12, 2) by decide +kernel) (by decide) rfl, ?_⟩
  refine List.forall_mem_cons.mpr ⟨ok_icmpge C (show decode cX11_strait 194 = .ok (.if_icmp .ge 26, 3) by decide +kernel) (tg := 220) (by decide) rfl rfl, ?_⟩
  refine List.forall_mem_cons.mpr ⟨ok_aload_n C (show decode cX11_strait 197 = .ok (.aload_n 0, 1) by decide +kernel) rfl rfl, ?_⟩
  refine List.forall_mem_cons.mpr ⟨ok_getf C (wi_X11) rfl (by decide) kw_1186 (show decode cX11_strait 198 = .ok (.getfield 33, 3) by decide +kernel) rfl, ?_⟩
  refine List.forall_mem_cons.mpr ⟨ok_bipush C (show decode cX11_strait 201 = .ok (.bipush 124, 2) by decide +kernel) (by decide) rfl, ?_⟩
  refine List.forall_mem_cons.mpr ⟨ok_iload_n C (show decode cX11_strait 203 = .ok (.iload_n 1, 1) by decide +kernel) rfl rfl, ?_⟩
  refine List.forall_mem_cons.mpr ⟨ok_iadd C (show decode cX11_strait 204 = .ok (.iadd, 1) by decide +kernel) rfl, ?_⟩
  refine List.forall_mem_cons.mpr ⟨ok_aload_n C (show decode cX11_strait 205 = .ok (.aload_n 0, 1) by decide +kernel) rfl rfl, ?_⟩
  refine List.forall_mem_cons.mpr ⟨ok_getf C (wi_X11) rfl (by decide) kw_1186 (show decode cX11_strait 206 = .ok (.getfield 33, 3) by decide +kernel) rfl, ?_⟩
  refine List.forall_mem_cons.mpr ⟨ok_iconst C (show decode cX11_strait 209 = .ok (.iconst 4, 1) by decide +kernel) (by decide) rfl, ?_⟩
  refine List.forall_mem_cons.mpr ⟨ok_iload_n C (show decode cX11_strait 210 = .ok (.iload_n 1, 1) by decide +kernel) rfl rfl, ?_⟩
  refine List.forall_mem_cons.mpr ⟨ok_iadd C (show decode cX11_strait 211 = .ok (.iadd, 1) by decide +kernel) rfl, ?_⟩
  refine List.forall_mem_cons.mpr ⟨ok_iaload C (show decode cX11_strait 212 = .ok (.iaload, 1) by decide +kernel) rfl, ?_⟩
  refine List.forall_mem_cons.mpr ⟨ok_iastore C (show decode cX11_strait 213 = .ok (.iastore, 1) by decide +kernel) rfl, ?_⟩
  refine List.forall_mem_cons.mpr ⟨ok_iinc C (show decode cX11_strait 214 = .ok (.iinc 1 1, 3) by decide +kernel) (by decide) (by decide) rfl, ?_⟩
  refine List.forall_mem_cons.mpr ⟨ok_goto C (show decode cX11_strait 217 = .ok (.goto (-26), 3) by decide +kernel) (tg := 191) (by decide) rfl, ?_⟩
  refine List.forall_mem_cons.mpr ⟨ok_iconst C (show decode cX11_strait 220 = .ok (.iconst 0, 1) by decide +kernel) (by decide) rfl, ?_⟩
  refine List.forall_mem_cons.mpr ⟨ok_istore_n C (show decode cX11_strait 221 = .ok (.istore_n 1, 1) by decide +kernel) rfl (by decide) rfl, ?_⟩
  refine List.forall_mem_cons.mpr ⟨ok_iload_n C (show decode cX11_strait 222 = .ok (.iload_n 1, 1) by decide +kernel) rfl rfl, ?_⟩
  refine List.forall_mem_cons.mpr ⟨ok_bipush C (show decode cX11_strait 223 = .ok (.bipush 8, 2) by decide +kernel) (by decide) rfl, ?_⟩
  refine List.forall_mem_cons.mpr ⟨ok_icmpge C (show decode cX11_strait 225 = .ok (.if_icmp .ge 28, 3) by decide +kernel) (tg := 253) (by decide) rfl rfl, ?_⟩
  refine List.forall_mem_cons.mpr ⟨ok_aload_n C (show decode cX11_strait 228 = .ok (.aload_n 0, 1) by decide +kernel) rfl rfl, ?_⟩
  refine List.forall_mem_cons.mpr ⟨ok_getf C (wi_X11) rfl (by decide) kw_1186 (show decode cX11_strait 229 = .ok (.getfield 33, 3) by decide +kernel) rfl, ?_⟩
  refine List.forall_mem_cons.mpr ⟨ok_sipush C (show decode cX11_strait 232 = .ok (.sipush 172, 3) by decide +kernel) (by decide) rfl, ?_⟩
  refine List.forall_mem_cons.mpr ⟨ok_iload_n C (show decode cX11_strait 235 = .ok (.iload_n 1, 1) by decide +kernel) rfl rfl, ?_⟩
  refine List.forall_mem_cons.mpr ⟨ok_iadd C (show decode cX11_strait 236 = .ok (.iadd, 1) by decide +kernel) rfl, ?_⟩
  refine List.forall_mem_cons.mpr ⟨ok_aload_n C (show decode cX11_strait 237 = .ok (.aload_n 0, 1) by decide +kernel) rfl rfl, ?_⟩
  refine List.forall_mem_cons.mpr ⟨ok_getf C (wi_X11) rfl (by decide) kw_1186 (show decode cX11_strait 238 = .ok (.getfield 33, 3) by decide +kernel) rfl, ?_⟩
  refine List.forall_mem_cons.mpr ⟨ok_bipush C (show decode cX11_strait 241 = .ok (.bipush 52, 2) by decide +kernel) (by decide) rfl, ?_⟩
  refine List.forall_mem_cons.mpr ⟨ok_iload_n C (show decode cX11_strait 243 = .ok (.iload_n 1, 1) by decide +kernel) rfl rfl, ?_⟩
  refine List.forall_mem_cons.mpr ⟨ok_iadd C (show decode cX11_strait 244 = .ok (.iadd, 1) by decide +kernel) rfl, ?_⟩
  refine List.forall_mem_cons.mpr ⟨ok_iaload C (show decode cX11_strait 245 = .ok (.iaload, 1) by decide +kernel) rfl, ?_⟩
  refine List.forall_mem_cons.mpr ⟨ok_iastore C (show decode cX11_strait 246 = .ok (.iastore, 1) by decide +kernel) rfl, ?_⟩
  refine List.forall_mem_cons.mpr ⟨ok_iinc C (show decode cX11_strait 247 = .ok (.iinc 1 1, 3) by decide +kernel) (by decide) (by decide) rfl, ?_⟩
  refine List.forall_mem_cons.mpr ⟨ok_goto C (show decode cX11_strait 250 = .ok (.goto (-28), 3) by decide +kernel) (tg := 222) (by decide) rfl, ?_⟩
  refine List.forall_mem_cons.mpr ⟨ok_aload_n C (show decode cX11_strait 253 = .ok (.aload_n 0, 1) by decide +kernel) rfl rfl, ?_⟩
  refine List.forall_mem_cons.mpr ⟨ok_iconst C (show decode cX11_strait 254 = .ok (.iconst 0, 1) by decide +kernel) (by decide) rfl, ?_⟩
  refine List.forall_mem_cons.mpr ⟨ok_putf C (wi_X11) tyX11 tyX11_ok nmX11 rfl (by decide) kw_1205 (Or.inl rfl) (Or.inl ⟨rfl, rfl⟩) (show decode cX11_strait 255 = .ok (.putfield 236, 3) by decide +kernel) rfl, ?_⟩
  refine List.forall_mem_cons.mpr ⟨ok_aload_n C (show decode cX11_strait 258 = .ok (.aload_n 0, 1) by decide +kernel) rfl rfl, ?_⟩
  refine List.forall_mem_cons.mpr ⟨ok_getf C (wi_X11) rfl (by decide) kw_1199 (show decode cX11_strait 259 = .ok (.getfield 227, 3) by decide +kernel) rfl, ?_⟩
  refine List.forall_mem_cons.mpr ⟨ok_ret C rfl (show decode cX11_strait 262 = .ok (.ireturn, 1) by decide +kernel), ?_⟩
  exact fun _ h => absurd h List.not_mem_nil
def L_X11_fault : List (Nat × ab_A) := [
  (0, ab_nx 1 (ab_aload 0)),
  (1, ab_nx 2 (ab_lit (.int 0))),
  (2, ab_nx 5 (ab_putf 11 0 0)),
  (5, ab_nx 6 (ab_aload 0)),
  (6, ab_nx 9 (ab_getf 11 15)),
  (9, ab_ret 0 0)]
set_option maxRecDepth 100000 in
set_option maxHeartbeats 4000000 in
theorem M_X11_fault {l : Launch} {b : ab_B} {D : va_G} {cA : Nat → ClassId} : ab_M l b D ab_cl cA (ab_E0 b) yX11_fault (Cond.code yX11_fault cX11_fault 1 (some .int) :: ab_G) ({ frames := 1, cells := 0, slots := 0, locals := 100 } : Room) (ab_X (ab_T L_X11_fault) 1) := by
  refine ab_meth (ret := (some .int)) L_X11_fault (by decide) rfl fun p e R s m args below meth c o C => ?_
  unfold L_X11_fault
  refine List.forall_mem_cons.mpr ⟨ok_aload_n C (show decode cX11_fault 0 = .ok (.aload_n 0, 1) by decide +kernel) rfl rfl, ?_⟩
  refine List.forall_mem_cons.mpr ⟨ok_iconst C (show decode cX11_fault 1 = .ok (.iconst 0, 1) by decide +kernel) (by decide) rfl, ?_⟩
  refine List.forall_mem_cons.mpr ⟨ok_putf C (wi_X11) tyX11 tyX11_ok nmX11 rfl (by decide) kw_1180 (Or.inl rfl) (Or.inl ⟨rfl, rfl⟩) (show decode cX11_fault 2 = .ok (.putfield 1, 3) by decide +kernel) rfl, ?_⟩
  refine List.forall_mem_cons.mpr ⟨ok_aload_n C (show decode cX11_fault 5 = .ok (.aload_n 0, 1) by decide +kernel) rfl rfl, ?_⟩
  refine List.forall_mem_cons.mpr ⟨ok_getf C (wi_X11) rfl (by decide) kw_1195 (show decode cX11_fault 6 = .ok (.getfield 164, 3) by decide +kernel) rfl, ?_⟩
  refine List.forall_mem_cons.mpr ⟨ok_ret C rfl (show decode cX11_fault 9 = .ok (.ireturn, 1) by decide +kernel), ?_⟩
  exact fun _ h => absurd h List.not_mem_nil
def L_X11_isGood (f_X11_isIn : List Value → ab_H → Option ab_O) : List (Nat × ab_A) := [
  (0, ab_nx 1 (ab_iload 1)),
  (1, ab_nx 2 (ab_lit (.int 0))),
  (2, ab_nx 3 (ab_aload 0)),
  (3, ab_nx 6 (ab_getf 11 6)),
  (6, ab_nx 7 (ab_lit (.int 0))),
  (7, ab_nx 8 (ab_ald 1)),
  (8, ab_nx 9 (ab_lit (.int 1))),
  (9, ab_nx 10 (ab_bin (fun x y => x - y))),
  (10, ab_nx 13 (ab_call 3 f_X11_isIn 0 0 0 0)),
  (13, ab_zret 0 0)]
set_option maxRecDepth 100000 in
set_option maxHeartbeats 4000000 in
theorem M_X11_isGood {l : Launch} {b : ab_B} {D : va_G} {cA : Nat → ClassId} {f_X11_isIn : List Value → ab_H → Option ab_O} (h_X11_isIn : ab_M l b D ab_cl cA (ab_E0 b) yX11_isIn (Cond.code yX11_isIn cX11_isIn 3 (some .boolean) :: ab_G) ({ frames := 1, cells := 0, slots := 0, locals := 100 } : Room) f_X11_isIn) : ab_M l b D ab_cl cA (ab_E0 b) yX11_isGood (Cond.code yX11_isGood cX11_isGood 2 (some .boolean) :: ab_G) ({ frames := 2, cells := 0, slots := 0, locals := 200 } : Room) (ab_X (ab_T (L_X11_isGood f_X11_isIn)) 2) := by
  refine ab_meth (ret := (some .boolean)) (L_X11_isGood f_X11_isIn) (by decide) rfl fun p e R s m args below meth c o C => ?_
  unfold L_X11_isGood
  refine List.forall_mem_cons.mpr ⟨ok_iload_n C (show decode cX11_isGood 0 = .ok (.iload_n 1, 1) by decide +kernel) rfl rfl, ?_⟩
  refine List.forall_mem_cons.mpr ⟨ok_iconst C (show decode cX11_isGood 1 = .ok (.iconst 0, 1) by decide +kernel) (by decide) rfl, ?_⟩
  refine List.forall_mem_cons.mpr ⟨ok_aload_n C (show decode cX11_isGood 2 = .ok (.aload_n 0, 1) by decide +kernel) rfl rfl, ?_⟩
  refine List.forall_mem_cons.mpr ⟨ok_getf C (wi_X11) rfl (by decide) kw_1186 (show decode cX11_isGood 3 = .ok (.getfield 33, 3) by decide +kernel) rfl, ?_⟩
  refine List.forall_mem_cons.mpr ⟨ok_iconst C (show decode cX11_isGood 6 = .ok (.iconst 0, 1) by decide +kernel) (by decide) rfl, ?_⟩
  refine List.forall_mem_cons.mpr ⟨ok_iaload C (show decode cX11_isGood 7 = .ok (.iaload, 1) by decide +kernel) rfl, ?_⟩
  refine List.forall_mem_cons.mpr ⟨ok_iconst C (show decode cX11_isGood 8 = .ok (.iconst 1, 1) by decide +kernel) (by decide) rfl, ?_⟩
  refine List.forall_mem_cons.mpr ⟨ok_isub C (show decode cX11_isGood 9 = .ok (.isub, 1) by decide +kernel) rfl, ?_⟩
  refine List.forall_mem_cons.mpr ⟨ok_callS C h_X11_isIn ⟨rfl, rfl⟩ kw_1355 kw_1353 kw_1354 kw_11 ds_X11_isIn ⟨by decide, by decide⟩ (show decode cX11_isGood 10 = .ok (.invokestatic 179, 3) by decide +kernel) rfl, ?_⟩
  refine List.forall_mem_cons.mpr ⟨ok_zret C rfl (show decode cX11_isGood 13 = .ok (.ireturn, 1) by decide +kernel), ?_⟩
  exact fun _ h => absurd h List.not_mem_nil
def L_X11_isShore (f_X11_isIn : List Value → ab_H → Option ab_O) : List (Nat × ab_A) := [
  (0, ab_nx 1 (ab_iload 1)),
  (1, ab_nx 2 (ab_lit (.int 0))),
  (2, ab_nx 3 (ab_lit (.int 1))),
  (3, ab_nx 6 (ab_call 3 f_X11_isIn 0 0 0 0)),
  (6, ab_zret 0 0)]
set_option maxRecDepth 100000 in
set_option maxHeartbeats 4000000 in
theorem M_X11_isShore {l : Launch} {b : ab_B} {D : va_G} {cA : Nat → ClassId} {f_X11_isIn : List Value → ab_H → Option ab_O} (h_X11_isIn : ab_M l b D ab_cl cA (ab_E0 b) yX11_isIn (Cond.code yX11_isIn cX11_isIn 3 (some .boolean) :: ab_G) ({ frames := 1, cells := 0, slots := 0, locals := 100 } : Room) f_X11_isIn) : ab_M l b D ab_cl cA (ab_E0 b) yX11_isShore (Cond.code yX11_isShore cX11_isShore 2 (some .boolean) :: ab_G) ({ frames := 2, cells := 0, slots := 0, locals := 200 } : Room) (ab_X (ab_T (L_X11_isShore f_X11_isIn)) 2) := by
  refine ab_meth (ret := (some .boolean)) (L_X11_isShore f_X11_isIn) (by decide) rfl fun p e R s m args below meth c o C => ?_
  unfold L_X11_isShore
  refine List.forall_mem_cons.mpr ⟨ok_iload_n C (show decode cX11_isShore 0 = .ok (.iload_n 1, 1) by decide +kernel) rfl rfl, ?_⟩
  refine List.forall_mem_cons.mpr ⟨ok_iconst C (show decode cX11_isShore 1 = .ok (.iconst 0, 1) by decide +kernel) (by decide) rfl, ?_⟩
  refine List.forall_mem_cons.mpr ⟨ok_iconst C (show decode cX11_isShore 2 = .ok (.iconst 1, 1) by decide +kernel) (by decide) rfl, ?_⟩
  refine List.forall_mem_cons.mpr ⟨ok_callS C h_X11_isIn ⟨rfl, rfl⟩ kw_1355 kw_1353 kw_1354 kw_11 ds_X11_isIn ⟨by decide, by decide⟩ (show decode cX11_isShore 3 = .ok (.invokestatic 179, 3) by decide +kernel) rfl, ?_⟩
  refine List.forall_mem_cons.mpr ⟨ok_zret C rfl (show decode cX11_isShore 6 = .ok (.ireturn, 1) by decide +kernel), ?_⟩
  exact fun _ h => absurd h List.not_mem_nil
def L_X11_isPlace (f_X11_isGood : List Value → ab_H → Option ab_O) (f_X11_isShore : List Value → ab_H → Option ab_O) : List (Nat × ab_A) := [
  (0, ab_nx 1 (ab_aload 0)),
  (1, ab_nx 2 (ab_iload 1)),
  (2, ab_nx 5 (ab_callV 2 11 f_X11_isGood 0 0 0 0)),
  (5, ab_if 8 20 (fun x => decide (x = 0))),
  (8, ab_nx 9 (ab_aload 0)),
  (9, ab_nx 10 (ab_iload 2)),
  (10, ab_nx 13 (ab_callV 2 11 f_X11_isShore 0 0 0 0)),
  (13, ab_if 16 20 (fun x => decide (x = 0))),
  (16, ab_nx 17 (ab_lit (.int 1))),
  (17, ab_goto 21),
  (20, ab_nx 21 (ab_lit (.int 0))),
  (21, ab_zret 0 0)]
set_option maxRecDepth 100000 in
set_option maxHeartbeats 4000000 in
theorem M_X11_isPlace {l : Launch} {b : ab_B} {D : va_G} {cA : Nat → ClassId} {f_X11_isGood : List Value → ab_H → Option ab_O} (h_X11_isGood : ab_M l b D ab_cl cA (ab_E0 b) yX11_isGood (Cond.code yX11_isGood cX11_isGood 2 (some .boolean) :: ab_G) ({ frames := 2, cells := 0, slots := 0, locals := 200 } : Room) f_X11_isGood) {f_X11_isShore : List Value → ab_H → Option ab_O} (h_X11_isShore : ab_M l b D ab_cl cA (ab_E0 b) yX11_isShore (Cond.code yX11_isShore cX11_isShore 2 (some .boolean) :: ab_G) ({ frames := 2, cells := 0, slots := 0, locals := 200 } : Room) f_X11_isShore) : ab_M l b D ab_cl cA (ab_E0 b) yX11_isPlace (Cond.code yX11_isPlace cX11_isPlace 3 (some .boolean) :: ab_G) ({ frames := 3, cells := 0, slots := 0, locals := 300 } : Room) (ab_X (ab_T (L_X11_isPlace f_X11_isGood f_X11_isShore)) 3) := by
  refine ab_meth (ret := (some .boolean)) (L_X11_isPlace f_X11_isGood f_X11_isShore) (by decide) rfl fun p e R s m args below meth c o C => ?_
  unfold L_X11_isPlace
  refine List.forall_mem_cons.mpr ⟨ok_aload_n C (show decode cX11_isPlace 0 = .ok (.aload_n 0, 1) by decide +kernel) rfl rfl, ?_⟩
  refine List.forall_mem_cons.mpr ⟨ok_iload_n C (show decode cX11_isPlace 1 = .ok (.iload_n 1, 1) by decide +kernel) rfl rfl, ?_⟩
  refine List.forall_mem_cons.mpr ⟨ok_callV C h_X11_isGood ⟨rfl, rfl⟩ rfl kw_1406 kw_1403 kw_1405 kp_65 kw_11 rfl ds_X11_isGood ⟨by decide, by decide⟩ (show decode cX11_isPlace 2 = .ok (.invokevirtual 239, 3) by decide +kernel) rfl, ?_⟩
  refine List.forall_mem_cons.mpr ⟨ok_ifeq C (show decode cX11_isPlace 5 = .ok (.ifCond .eq 15, 3) by decide +kernel) (tg := 20) (by decide) rfl rfl, ?_⟩
  refine List.forall_mem_cons.mpr ⟨ok_aload_n C (show decode cX11_isPlace 8 = .ok (.aload_n 0, 1) by decide +kernel) rfl rfl, ?_⟩
  refine List.forall_mem_cons.mpr ⟨ok_iload_n C (show decode cX11_isPlace 9 = .ok (.iload_n 2, 1) by decide +kernel) rfl rfl, ?_⟩
  refine List.forall_mem_cons.mpr ⟨ok_callV C h_X11_isShore ⟨rfl, rfl⟩ rfl kw_1410 kw_1407 kw_1409 kp_66 kw_11 rfl ds_X11_isShore ⟨by decide, by decide⟩ (show decode cX11_isPlace 10 = .ok (.invokevirtual 242, 3) by decide +kernel) rfl, ?_⟩
  refine List.forall_mem_cons.mpr ⟨ok_ifeq C (show decode cX11_isPlace 13 = .ok (.ifCond .eq 7, 3) by decide +kernel) (tg := 20) (by decide) rfl rfl, ?_⟩
  refine List.forall_mem_cons.mpr ⟨ok_iconst C (show decode cX11_isPlace 16 = .ok (.iconst 1, 1) by decide +kernel) (by decide) rfl, ?_⟩
  refine List.forall_mem_cons.mpr ⟨ok_goto C (show decode cX11_isPlace 17 = .ok (.goto 4, 3) by decide +kernel) (tg := 21) (by decide) rfl, ?_⟩
  refine List.forall_mem_cons.mpr ⟨ok_iconst C (show decode cX11_isPlace 20 = .ok (.iconst 0, 1) by decide +kernel) (by decide) rfl, ?_⟩
  refine List.forall_mem_cons.mpr ⟨ok_zret C rfl (show decode cX11_isPlace 21 = .ok (.ireturn, 1) by decide +kernel), ?_⟩
  exact fun _ h => absurd h List.not_mem_nil
def L_X11_isMan (f_X11_isIn : List Value → ab_H → Option ab_O) : List (Nat × ab_A) := [
  (0, ab_nx 1 (ab_iload 1)),
  (1, ab_nx 2 (ab_lit (.int 0))),
  (2, ab_nx 3 (ab_aload 0)),
  (3, ab_nx 6 (ab_getf 11 6)),
  (6, ab_nx 7 (ab_lit (.int 1))),
  (7, ab_nx 8 (ab_ald 1)),
  (8, ab_nx 9 (ab_lit (.int 1))),
  (9, ab_nx 10 (ab_bin (fun x y => x - y))),
  (10, ab_nx 13 (ab_call 3 f_X11_isIn 0 0 0 0)),
  (13, ab_zret 0 0)]
set_option maxRecDepth 100000 in
set_option maxHeartbeats 4000000 in
theorem M_X11_isMan {l : Launch} {b : ab_B} {D : va_G} {cA : Nat → ClassId} {f_X11_isIn : List Value → ab_H → Option ab_O} (h_X11_isIn : ab_M l b D ab_cl cA (ab_E0 b) yX11_isIn (Cond.code yX11_isIn cX11_isIn 3 (some .boolean) :: ab_G) ({ frames := 1, cells := 0, slots := 0, locals := 100 } : Room) f_X11_isIn) : ab_M l b D ab_cl cA (ab_E0 b) yX11_isMan (Cond.code yX11_isMan cX11_isMan 2 (some .boolean) :: ab_G) ({ frames := 2, cells := 0, slots := 0, locals := 200 } : Room) (ab_X (ab_T (L_X11_isMan f_X11_isIn)) 2) := by
  refine ab_meth (ret := (some .boolean)) (L_X11_isMan f_X11_isIn) (by decide) rfl fun p e R s m args below meth c o C => ?_
  unfold L_X11_isMan
  refine List.forall_mem_cons.mpr ⟨ok_iload_n C (show decode cX11_isMan 0 = .ok (.iload_n 1, 1) by decide +kernel) rfl rfl, ?_⟩
  refine List.forall_mem_cons.mpr ⟨ok_iconst C (show decode cX11_isMan 1 = .ok (.iconst 0, 1) by decide +kernel) (by decide) rfl, ?_⟩
  refine List.forall_mem_cons.mpr ⟨ok_aload_n C (show decode cX11_isMan 2 = .ok (.aload_n 0, 1) by decide +kernel) rfl rfl, ?_⟩
  refine List.forall_mem_cons.mpr ⟨ok_getf C (wi_X11) rfl (by decide) kw_1186 (show decode cX11_isMan 3 = .ok (.getfield 33, 3) by decide +kernel) rfl, ?_⟩
  refine List.forall_mem_cons.mpr ⟨ok_iconst C (show decode cX11_isMan 6 = .ok (.iconst 1, 1) by decide +kernel) (by decide) rfl, ?_⟩
  refine List.forall_mem_cons.mpr ⟨ok_iaload C (show decode cX11_isMan 7 = .ok (.iaload, 1) by decide +kernel) rfl, ?_⟩
  refine List.forall_mem_cons.mpr ⟨ok_iconst C (show decode cX11_isMan 8 = .ok (.iconst 1, 1) by decide +kernel) (by decide) rfl, ?_⟩
  refine List.forall_mem_cons.mpr ⟨ok_isub C (show decode cX11_isMan 9 = .ok (.isub, 1) by decide +kernel) rfl, ?_⟩
  refine List.forall_mem_cons.mpr ⟨ok_callS C h_X11_isIn ⟨rfl, rfl⟩ kw_1355 kw_1353 kw_1354 kw_11 ds_X11_isIn ⟨by decide, by decide⟩ (show decode cX11_isMan 10 = .ok (.invokestatic 179, 3) by decide +kernel) rfl, ?_⟩
  refine List.forall_mem_cons.mpr ⟨ok_zret C rfl (show decode cX11_isMan 13 = .ok (.ireturn, 1) by decide +kernel), ?_⟩
  exact fun _ h => absurd h List.not_mem_nil
def L_X11_isDead (f_X11_bitOf : List Value → ab_H → Option ab_O) : List (Nat × ab_A) := [
  (0, ab_nx 1 (ab_aload 0)),
  (1, ab_nx 4 (ab_getf 11 6)),
  (4, ab_nx 7 (ab_lit (.int 180))),
  (7, ab_nx 8 (ab_ald 1)),
  (8, ab_nx 9 (ab_iload 1)),
  (9, ab_nx 12 (ab_call 2 f_X11_bitOf 0 0 0 0)),
  (12, ab_zret 0 0)]
set_option maxRecDepth 100000 in
set_option maxHeartbeats 4000000 in
theorem M_X11_isDead {l : Launch} {b : ab_B} {D : va_G} {cA : Nat → ClassId} {f_X11_bitOf : List Value → ab_H → Option ab_O} (h_X11_bitOf : ab_M l b D ab_cl cA (ab_E0 b) yX11_bitOf (Cond.code yX11_bitOf cX11_bitOf 2 (some .boolean) :: ab_G) ({ frames := 1, cells := 0, slots := 0, locals := 100 } : Room) f_X11_bitOf) : ab_M l b D ab_cl cA (ab_E0 b) yX11_isDead (Cond.code yX11_isDead cX11_isDead 2 (some .boolean) :: ab_G) ({ frames := 2, cells := 0, slots := 0, locals := 200 } : Room) (ab_X (ab_T (L_X11_isDead f_X11_bitOf)) 2) := by
  refine ab_meth (ret := (some .boolean)) (L_X11_isDead f_X11_bitOf) (by decide) rfl fun p e R s m args below meth c o C => ?_
  unfold L_X11_isDead
  refine List.forall_mem_cons.mpr ⟨ok_aload_n C (show decode cX11_isDead 0 = .ok (.aload_n 0, 1) by decide +kernel) rfl rfl, ?_⟩
  refine List.forall_mem_cons.mpr ⟨ok_getf C (wi_X11) rfl (by decide) kw_1186 (show decode cX11_isDead 1 = .ok (.getfield 33, 3) by decide +kernel) rfl, ?_⟩
  refine List.forall_mem_cons.mpr ⟨ok_sipush C (show decode cX11_isDead 4 = .ok (.sipush 180, 3) by decide +kernel) (by decide) rfl, ?_⟩
  refine List.forall_mem_cons.mpr ⟨ok_iaload C (show decode cX11_isDead 7 = .ok (.iaload, 1) by decide +kernel) rfl, ?_⟩
  refine List.forall_mem_cons.mpr ⟨ok_iload_n C (show decode cX11_isDead 8 = .ok (.iload_n 1, 1) by decide +kernel) rfl rfl, ?_⟩
  refine List.forall_mem_cons.mpr ⟨ok_callS C h_X11_bitOf ⟨rfl, rfl⟩ kw_1382 kw_1380 kw_1381 kw_11 ds_X11_bitOf ⟨by decide, by decide⟩ (show decode cX11_isDead 9 = .ok (.invokestatic 221, 3) by decide +kernel) rfl, ?_⟩
  refine List.forall_mem_cons.mpr ⟨ok_zret C rfl (show decode cX11_isDead 12 = .ok (.ireturn, 1) by decide +kernel), ?_⟩
  exact fun _ h => absurd h List.not_mem_nil
def L_X11_cell : List (Nat × ab_A) := [
  (0, ab_nx 1 (ab_lit (.int 2))),
  (1, ab_nx 2 (ab_iload 0)),
  (2, ab_nx 3 (ab_bin (fun x y => x * y))),
  (3, ab_nx 4 (ab_iload 1)),
  (4, ab_nx 5 (ab_bin (fun x y => x + y))),
  (5, ab_ret 0 0)]
set_option maxRecDepth 100000 in
set_option maxHeartbeats 4000000 in
theorem M_X11_cell {l : Launch} {b : ab_B} {D : va_G} {cA : Nat → ClassId} : ab_M l b D ab_cl cA (ab_E0 b) yX11_cell (Cond.code yX11_cell cX11_cell 2 (some .int) :: ab_G) ({ frames := 1, cells := 0, slots := 0, locals := 100 } : Room) (ab_X (ab_T L_X11_cell) 2) := by
  refine ab_meth (ret := (some .int)) L_X11_cell (by decide) rfl fun p e R s m args below meth c o C => ?_
  unfold L_X11_cell
  refine List.forall_mem_cons.mpr ⟨ok_iconst C (show decode cX11_cell 0 = .ok (.iconst 2, 1) by decide +kernel) (by decide) rfl, ?_⟩
  refine List.forall_mem_cons.mpr ⟨ok_iload_n C (show decode cX11_cell 1 = .ok (.iload_n 0, 1) by decide +kernel) rfl rfl, ?_⟩
  refine List.forall_mem_cons.mpr ⟨ok_imul C (show decode cX11_cell 2 = .ok (.imul, 1) by decide +kernel) rfl, ?_⟩
  refine List.forall_mem_cons.mpr ⟨ok_iload_n C (show decode cX11_cell 3 = .ok (.iload_n 1, 1) by decide +kernel) rfl rfl, ?_⟩
  refine List.forall_mem_cons.mpr ⟨ok_iadd C (show decode cX11_cell 4 = .ok (.iadd, 1) by decide +kernel) rfl, ?_⟩
  refine List.forall_mem_cons.mpr ⟨ok_ret C rfl (show decode cX11_cell 5 = .ok (.ireturn, 1) by decide +kernel), ?_⟩
  exact fun _ h => absurd h List.not_mem_nil
def L_X11_lackOf (f_X11_cell : List Value → ab_H → Option ab_O) : List (Nat × ab_A) := [
  (0, ab_nx 1 (ab_aload 0)),
  (1, ab_nx 4 (ab_getf 11 6)),
  (4, ab_nx 6 (ab_lit (.int 16))),
  (6, ab_nx 7 (ab_iload 1)),
  (7, ab_nx 8 (ab_iload 2)),
  (8, ab_nx 11 (ab_call 2 f_X11_cell 0 0 0 0)),
  (11, ab_nx 12 (ab_bin (fun x y => x + y))),
  (12, ab_nx 13 (ab_ald 1)),
  (13, ab_nx 14 (ab_aload 0)),
  (14, ab_nx 17 (ab_getf 11 6)),
  (17, ab_nx 19 (ab_lit (.int 124))),
  (19, ab_nx 20 (ab_iload 1)),
  (20, ab_nx 21 (ab_iload 2)),
  (21, ab_nx 24 (ab_call 2 f_X11_cell 0 0 0 0)),
  (24, ab_nx 25 (ab_bin (fun x y => x + y))),
  (25, ab_nx 26 (ab_ald 1)),
  (26, ab_nx 27 (ab_bin (fun x y => x - y))),
  (27, ab_nx 28 (ab_istore 3)),
  (28, ab_nx 29 (ab_iload 3)),
  (29, ab_if 32 36 (fun x => decide (x ≤ 0))),
  (32, ab_nx 33 (ab_iload 3)),
  (33, ab_goto 37),
  (36, ab_nx 37 (ab_lit (.int 0))),
  (37, ab_ret 0 0)]
set_option maxRecDepth 100000 in
set_option maxHeartbeats 4000000 in
theorem M_X11_lackOf {l : Launch} {b : ab_B} {D : va_G} {cA : Nat → ClassId} {f_X11_cell : List Value → ab_H → Option ab_O} (h_X11_cell : ab_M l b D ab_cl cA (ab_E0 b) yX11_cell (Cond.code yX11_cell cX11_cell 2 (some .int) :: ab_G) ({ frames := 1, cells := 0, slots := 0, locals := 100 } : Room) f_X11_cell) : ab_M l b D ab_cl cA (ab_E0 b) yX11_lackOf (Cond.code yX11_lackOf cX11_lackOf 4 (some .int) :: ab_G) ({ frames := 2, cells := 0, slots := 0, locals := 200 } : Room) (ab_X (ab_T (L_X11_lackOf f_X11_cell)) 4) := by
  refine ab_meth (ret := (some .int)) (L_X11_lackOf f_X11_cell) (by decide) rfl fun p e R s m args below meth c o C => ?_
  unfold L_X11_lackOf
  refine List.forall_mem_cons.mpr ⟨ok_aload_n C (show decode cX11_lackOf 0 = .ok (.aload_n 0, 1) by decide +kernel) rfl rfl, ?_⟩
  refine List.forall_mem_cons.mpr ⟨ok_getf C (wi_X11) rfl (by decide) kw_1186 (show decode cX11_lackOf 1 = .ok (.getfield 33, 3) by decide +kernel) rfl, ?_⟩
  refine List.forall_mem_cons.mpr ⟨ok_bipush C (show decode cX11_lackOf 4 = .ok (.bipush 16, 2) by decide +kernel) (by decide) rfl, ?_⟩
  refine List.forall_mem_cons.mpr ⟨ok_iload_n C (show decode cX11_lackOf 6 = .ok (.iload_n 1, 1) by decide +kernel) rfl rfl, ?_⟩
  refine List.forall_mem_cons.mpr ⟨ok_iload_n C (show decode cX11_lackOf 7 = .ok (.iload_n 2, 1) by decide +kernel) rfl rfl, ?_⟩
  refine List.forall_mem_cons.mpr ⟨ok_callS C h_X11_cell ⟨rfl, rfl⟩ kw_1413 kw_1411 kw_1412 kw_11 ds_X11_cell ⟨by decide, by decide⟩ (show decode cX11_lackOf 8 = .ok (.invokestatic 245, 3) by decide +kernel) rfl, ?_⟩
  refine List.forall_mem_cons.mpr ⟨ok_iadd C (show decode cX11_lackOf 11 = .ok (.iadd, 1) by decide +kernel) rfl, ?_⟩
  refine List.forall_mem_cons.mpr ⟨ok_iaload C (show decode cX11_lackOf 12 = .ok (.iaload, 1) by decide +kernel) rfl, ?_⟩
  refine List.forall_mem_cons.mpr ⟨ok_aload_n C (show decode cX11_lackOf 13 = .ok (.aload_n 0, 1) by decide +kernel) rfl rfl, ?_⟩
  refine List.forall_mem_cons.mpr ⟨ok_getf C (wi_X11) rfl (by decide) kw_1186 (show decode cX11_lackOf 14 = .ok (.getfield 33, 3) by decide +kernel) rfl, ?_⟩
  refine List.forall_mem_cons.mpr ⟨ok_bipush C (show decode cX11_lackOf 17 = .ok (.bipush 124, 2) by decide +kernel) (by decide) rfl, ?_⟩
  refine List.forall_mem_cons.mpr ⟨ok_iload_n C (show decode cX11_lackOf 19 = .ok (.iload_n 1, 1) by decide +kernel) rfl rfl, ?_⟩
  refine List.forall_mem_cons.mpr ⟨ok_iload_n C (show decode cX11_lackOf 20 = .ok (.iload_n 2, 1) by decide +kernel) rfl rfl, ?_⟩
  refine List.forall_mem_cons.mpr ⟨ok_callS C h_X11_cell ⟨rfl, rfl⟩ kw_1413 kw_1411 kw_1412 kw_11 ds_X11_cell ⟨by decide, by decide⟩ (show decode cX11_lackOf 21 = .ok (.invokestatic 245, 3) by decide +kernel) rfl, ?_⟩
  refine List.forall_mem_cons.mpr ⟨ok_iadd C (show decode cX11_lackOf 24 = .ok (.iadd, 1) by decide +kernel) rfl, ?_⟩
  refine List.forall_mem_cons.mpr ⟨ok_iaload C (show decode cX11_lackOf 25 = .ok (.iaload, 1) by decide +kernel) rfl, ?_⟩
  refine List.forall_mem_cons.mpr ⟨ok_isub C (show decode cX11_lackOf 26 = .ok (.isub, 1) by decide +kernel) rfl, ?_⟩
  refine List.forall_mem_cons.mpr ⟨ok_istore_n C (show decode cX11_lackOf 27 = .ok (.istore_n 3, 1) by decide +kernel) rfl (by decide) rfl, ?_⟩
  refine List.forall_mem_cons.mpr ⟨ok_iload_n C (show decode cX11_lackOf 28 = .ok (.iload_n 3, 1) by decide +kernel) rfl rfl, ?_⟩
  refine List.forall_mem_cons.mpr ⟨ok_ifle C (show decode cX11_lackOf 29 = .ok (.ifCond .le 7, 3) by decide +kernel) (tg := 36) (by decide) rfl rfl, ?_⟩
  refine List.forall_mem_cons.mpr ⟨ok_iload_n C (show decode cX11_lackOf 32 = .ok (.iload_n 3, 1) by decide +kernel) rfl rfl, ?_⟩
  refine List.forall_mem_cons.mpr ⟨ok_goto C (show decode cX11_lackOf 33 = .ok (.goto 4, 3) by decide +kernel) (tg := 37) (by decide) rfl, ?_⟩
  refine List.forall_mem_cons.mpr ⟨ok_iconst C (show decode cX11_lackOf 36 = .ok (.iconst 0, 1) by decide +kernel) (by decide) rfl, ?_⟩
  refine List.forall_mem_cons.mpr ⟨ok_ret C rfl (show decode cX11_lackOf 37 = .ok (.ireturn, 1) by decide +kernel), ?_⟩
  exact fun _ h => absurd h List.not_mem_nil
def L_X11_isFalse (f_X11_lackOf : List Value → ab_H → Option ab_O) (f_X11_cell : List Value → ab_H → Option ab_O) : List (Nat × ab_A) := [
  (0, ab_nx 1 (ab_aload 0)),
  (1, ab_nx 2 (ab_iload 1)),
  (2, ab_nx 3 (ab_iload 2)),
  (3, ab_nx 6 (ab_callV 3 11 f_X11_lackOf 0 0 0 0)),
  (6, ab_if 9 36 (fun x => decide (x ≤ 0))),
  (9, ab_nx 10 (ab_aload 0)),
  (10, ab_nx 11 (ab_iload 1)),
  (11, ab_nx 12 (ab_iload 2)),
  (12, ab_nx 15 (ab_callV 3 11 f_X11_lackOf 0 0 0 0)),
  (15, ab_nx 16 (ab_aload 0)),
  (16, ab_nx 19 (ab_getf 11 6)),
  (19, ab_nx 22 (ab_lit (.int 136))),
  (22, ab_nx 23 (ab_iload 1)),
  (23, ab_nx 24 (ab_iload 2)),
  (24, ab_nx 27 (ab_call 2 f_X11_cell 0 0 0 0)),
  (27, ab_nx 28 (ab_bin (fun x y => x + y))),
  (28, ab_nx 29 (ab_ald 1)),
  (29, ab_icmp 32 36 (fun x y => decide (y < x))),
  (32, ab_nx 33 (ab_lit (.int 1))),
  (33, ab_goto 37),
  (36, ab_nx 37 (ab_lit (.int 0))),
  (37, ab_zret 0 0)]
set_option maxRecDepth 100000 in
set_option maxHeartbeats 4000000 in
theorem M_X11_isFalse {l : Launch} {b : ab_B} {D : va_G} {cA : Nat → ClassId} {f_X11_lackOf : List Value → ab_H → Option ab_O} (h_X11_lackOf : ab_M l b D ab_cl cA (ab_E0 b) yX11_lackOf (Cond.code yX11_lackOf cX11_lackOf 4 (some .int) :: ab_G) ({ frames := 2, cells := 0, slots := 0, locals := 200 } : Room) f_X11_lackOf) {f_X11_cell : List Value → ab_H → Option ab_O} (h_X11_cell : ab_M l b D ab_cl cA (ab_E0 b) yX11_cell (Cond.code yX11_cell cX11_cell 2 (some .int) :: ab_G) ({ frames := 1, cells := 0, slots := 0, locals := 100 } : Room) f_X11_cell) : ab_M l b D ab_cl cA (ab_E0 b) yX11_isFalse (Cond.code yX11_isFalse cX11_isFalse 3 (some .boolean) :: ab_G) ({ frames := 3, cells := 0, slots := 0, locals := 300 } : Room) (ab_X (ab_T (L_X11_isFalse f_X11_lackOf f_X11_cell)) 3) := by
  refine ab_meth (ret := (some .boolean)) (L_X11_isFalse f_X11_lackOf f_X11_cell) (by decide) rfl fun p e R s m args below meth c o C => ?_
  unfold L_X11_isFalse
  refine List.forall_mem_cons.mpr ⟨ok_aload_n C (show decode cX11_isFalse 0 = .ok (.aload_n 0, 1) by decide +kernel) rfl rfl, ?_⟩
  refine List.forall_mem_cons.mpr ⟨ok_iload_n C (show decode cX11_isFalse 1 = .ok (.iload_n 1, 1) by decide +kernel) rfl rfl, ?_⟩
  refine List.forall_mem_cons.mpr ⟨ok_iload_n C (show decode cX11_isFalse 2 = .ok (.iload_n 2, 1) by decide +kernel) rfl rfl, ?_⟩
  refine List.forall_mem_cons.mpr ⟨ok_callV C h_X11_lackOf ⟨rfl, rfl⟩ rfl kw_1417 kw_1414 kw_1416 kp_67 kw_11 rfl ds_X11_lackOf ⟨by decide, by decide⟩ (show decode cX11_isFalse 3 = .ok (.invokevirtual 248, 3) by decide +kernel) rfl, ?_⟩
  refine List.forall_mem_cons.mpr ⟨ok_ifle C (show decode cX11_isFalse 6 = .ok (.ifCond .le 30, 3) by decide +kernel) (tg := 36) (by decide) rfl rfl, ?_⟩
  refine List.forall_mem_cons.mpr ⟨ok_aload_n C (show decode cX11_isFalse 9 = .ok (.aload_n 0, 1) by decide +kernel) rfl rfl, ?_⟩
  refine List.forall_mem_cons.mpr ⟨ok_iload_n C (show decode cX11_isFalse 10 = .ok (.iload_n 1, 1) by decide +kernel) rfl rfl, ?_⟩
  refine List.forall_mem_cons.mpr ⟨ok_iload_n C (show decode cX11_isFalse 11 = .ok (.iload_n 2, 1) by decide +kernel) rfl rfl, ?_⟩
  refine List.forall_mem_cons.mpr ⟨ok_callV C h_X11_lackOf ⟨rfl, rfl⟩ rfl kw_1417 kw_1414 kw_1416 kp_67 kw_11 rfl ds_X11_lackOf ⟨by decide, by decide⟩ (show decode cX11_isFalse 12 = .ok (.invokevirtual 248, 3) by decide +kernel) rfl, ?_⟩
  refine List.forall_mem_cons.mpr ⟨ok_aload_n C (show decode cX11_isFalse 15 = .ok (.aload_n 0, 1) by decide +kernel) rfl rfl, ?_⟩
  refine List.forall_mem_cons.mpr ⟨ok_getf C (wi_X11) rfl (by decide) kw_1186 (show decode cX11_isFalse 16 = .ok (.getfield 33, 3) by decide +kernel) rfl, ?_⟩
  refine List.forall_mem_cons.mpr ⟨ok_sipush C (show decode cX11_isFalse 19 = .ok (.sipush 136, 3) by decide +kernel) (by decide) rfl, ?_⟩
  refine List.forall_mem_cons.mpr ⟨ok_iload_n C (show decode cX11_isFalse 22 = .ok (.iload_n 1, 1) by decide +kernel) rfl rfl, ?_⟩
  refine List.forall_mem_cons.mpr ⟨ok_iload_n C (show decode cX11_isFalse 23 = .ok (.iload_n 2, 1) by decide +kernel) rfl rfl, ?_⟩
  refine List.forall_mem_cons.mpr ⟨ok_callS C h_X11_cell ⟨rfl, rfl⟩ kw_1413 kw_1411 kw_1412 kw_11 ds_X11_cell ⟨by decide, by decide⟩ (show decode cX11_isFalse 24 = .ok (.invokestatic 245, 3) by decide +kernel) rfl, ?_⟩
  refine List.forall_mem_cons.mpr ⟨ok_iadd C (show decode cX11_isFalse 27 = .ok (.iadd, 1) by decide +kernel) rfl, ?_⟩
  refine List.forall_mem_cons.mpr ⟨ok_iaload C (show decode cX11_isFalse 28 = .ok (.iaload, 1) by decide +kernel) rfl, ?_⟩
  refine List.forall_mem_cons.mpr ⟨ok_icmpgt C (show decode cX11_isFalse 29 = .ok (.if_icmp .gt 7, 3) by decide +kernel) (tg := 36) (by decide) rfl rfl, ?_⟩
  refine List.forall_mem_cons.mpr ⟨ok_iconst C (show decode cX11_isFalse 32 = .ok (.iconst 1, 1) by decide +kernel) (by decide) rfl, ?_⟩
  refine List.forall_mem_cons.mpr ⟨ok_goto C (show decode cX11_isFalse 33 = .ok (.goto 4, 3) by decide +kernel) (tg := 37) (by decide) rfl, ?_⟩
  refine List.forall_mem_cons.mpr ⟨ok_iconst C (show decode cX11_isFalse 36 = .ok (.iconst 0, 1) by decide +kernel) (by decide) rfl, ?_⟩
  refine List.forall_mem_cons.mpr ⟨ok_zret C rfl (show decode cX11_isFalse 37 = .ok (.ireturn, 1) by decide +kernel), ?_⟩
  exact fun _ h => absurd h List.not_mem_nil
def L_X11_good (f_X11_isPlace : List Value → ab_H → Option ab_O) (f_X11_cell : List Value → ab_H → Option ab_O) (f_X11_lackOf : List Value → ab_H → Option ab_O) (f_X11_isFalse : List Value → ab_H → Option ab_O) : List (Nat × ab_A) := [
  (0, ab_nx 1 (ab_aload 0)),
  (1, ab_nx 2 (ab_lit (.int 0))),
  (2, ab_nx 5 (ab_putf 11 0 0)),
  (5, ab_nx 6 (ab_aload 0)),
  (6, ab_nx 7 (ab_iload 1)),
  (7, ab_nx 8 (ab_iload 2)),
  (8, ab_nx 11 (ab_callV 3 11 f_X11_isPlace 0 0 0 0)),
  (11, ab_if 14 16 (fun x => !decide (x = 0))),
  (14, ab_nx 15 (ab_lit (.int (-1)))),
  (15, ab_ret 0 0),
  (16, ab_nx 17 (ab_iload 1)),
  (17, ab_nx 18 (ab_iload 2)),
  (18, ab_nx 21 (ab_call 2 f_X11_cell 0 0 0 0)),
  (21, ab_nx 23 (ab_istore 4)),
  (23, ab_nx 24 (ab_iload 3)),
  (24, ab_tab 0 [72, 83, 95, 106, 117, 128, 135, 150] 162),
  (72, ab_nx 73 (ab_aload 0)),
  (73, ab_nx 76 (ab_getf 11 6)),
  (76, ab_nx 78 (ab_lit (.int 124))),
  (78, ab_nx 80 (ab_iload 4)),
  (80, ab_nx 81 (ab_bin (fun x y => x + y))),
  (81, ab_nx 82 (ab_ald 1)),
  (82, ab_ret 0 0),
  (83, ab_nx 84 (ab_aload 0)),
  (84, ab_nx 87 (ab_getf 11 6)),
  (87, ab_nx 90 (ab_lit (.int 136))),
  (90, ab_nx 92 (ab_iload 4)),
  (92, ab_nx 93 (ab_bin (fun x y => x + y))),
  (93, ab_nx 94 (ab_ald 1)),
  (94, ab_ret 0 0),
  (95, ab_nx 96 (ab_aload 0)),
  (96, ab_nx 99 (ab_getf 11 6)),
  (99, ab_nx 101 (ab_lit (.int 16))),
  (101, ab_nx 103 (ab_iload 4)),
  (103, ab_nx 104 (ab_bin (fun x y => x + y))),
  (104, ab_nx 105 (ab_ald 1)),
  (105, ab_ret 0 0),
  (106, ab_nx 107 (ab_aload 0)),
  (107, ab_nx 110 (ab_getf 11 6)),
  (110, ab_nx 112 (ab_lit (.int 28))),
  (112, ab_nx 114 (ab_iload 4)),
  (114, ab_nx 115 (ab_bin (fun x y => x + y))),
  (115, ab_nx 116 (ab_ald 1)),
  (116, ab_ret 0 0),
  (117, ab_nx 118 (ab_aload 0)),
  (118, ab_nx 121 (ab_getf 11 6)),
  (121, ab_nx 123 (ab_lit (.int 40))),
  (123, ab_nx 125 (ab_iload 4)),
  (125, ab_nx 126 (ab_bin (fun x y => x + y))),
  (126, ab_nx 127 (ab_ald 1)),
  (127, ab_ret 0 0),
  (128, ab_nx 129 (ab_aload 0)),
  (129, ab_nx 130 (ab_iload 1)),
  (130, ab_nx 131 (ab_iload 2)),
  (131, ab_nx 134 (ab_callV 3 11 f_X11_lackOf 0 0 0 0)),
  (134, ab_ret 0 0),
  (135, ab_nx 136 (ab_aload 0)),
  (136, ab_nx 137 (ab_iload 1)),
  (137, ab_nx 138 (ab_iload 2)),
  (138, ab_nx 141 (ab_callV 3 11 f_X11_isFalse 0 0 0 0)),
  (141, ab_if 144 148 (fun x => decide (x = 0))),
  (144, ab_nx 145 (ab_lit (.int 1))),
  (145, ab_goto 149),
  (148, ab_nx 149 (ab_lit (.int 0))),
  (149, ab_ret 0 0),
  (150, ab_nx 151 (ab_aload 0)),
  (151, ab_nx 154 (ab_getf 11 6)),
  (154, ab_nx 157 (ab_lit (.int 148))),
  (157, ab_nx 159 (ab_iload 4)),
  (159, ab_nx 160 (ab_bin (fun x y => x + y))),
  (160, ab_nx 161 (ab_ald 1)),
  (161, ab_ret 0 0),
  (162, ab_nx 163 (ab_lit (.int (-1)))),
  (163, ab_ret 0 0)]
set_option maxRecDepth 100000 in
set_option maxHeartbeats 4000000 in
theorem M_X11_good {l : Launch} {b : ab_B} {D : va_G} {cA : Nat → ClassId} {f_X11_isPlace : List Value → ab_H → Option ab_O} (h_X11_isPlace : ab_M l b D ab_cl cA (ab_E0 b) yX11_isPlace (Cond.code yX11_isPlace cX11_isPlace 3 (some .boolean) :: ab_G) ({ frames := 3, cells := 0, slots := 0, locals := 300 } : Room) f_X11_isPlace) {f_X11_cell : List Value → ab_H → Option ab_O} (h_X11_cell : ab_M l b D ab_cl cA (ab_E0 b) yX11_cell (Cond.code yX11_cell cX11_cell 2 (some .int) :: ab_G) ({ frames := 1, cells := 0, slots := 0, locals := 100 } : Room) f_X11_cell) {f_X11_lackOf : List Value → ab_H → Option ab_O} (h_X11_lackOf : ab_M l b D ab_cl cA (ab_E0 b) yX11_lackOf (Cond.code yX11_lackOf cX11_lackOf 4 (some .int) :: ab_G) ({ frames := 2, cells := 0, slots := 0, locals := 200 } : Room) f_X11_lackOf) {f_X11_isFalse : List Value → ab_H → Option ab_O} (h_X11_isFalse : ab_M l b D ab_cl cA (ab_E0 b) yX11_isFalse (Cond.code yX11_isFalse cX11_isFalse 3 (some .boolean) :: ab_G) ({ frames := 3, cells := 0, slots := 0, locals := 300 } : Room) f_X11_isFalse) : ab_M l b D ab_cl cA (ab_E0 b) yX11_good (Cond.code yX11_good cX11_good 5 (some .int) :: ab_G) ({ frames := 4, cells := 0, slots := 0, locals := 400 } : Room) (ab_X (ab_T (L_X11_good f_X11_isPlace f_X11_cell f_X11_lackOf f_X11_isFalse)) 5) := by
  refine ab_meth (ret := (some .int)) (L_X11_good f_X11_isPlace f_X11_cell f_X11_lackOf f_X11_isFalse) (by decide) rfl fun p e R s m args below meth c o C => ?_
  unfold L_X11_good
  refine List.forall_mem_cons.mpr ⟨ok_aload_n C (show decode cX11_good 0 = .ok (.aload_n 0, 1) by decide +kernel) rfl rfl, ?_⟩
  refine List.forall_mem_cons.mpr ⟨ok_iconst C (show decode cX11_good 1 = .ok (.iconst 0, 1) by decide +kernel) (by decide) rfl, ?_⟩
  refine List.forall_mem_cons.mpr ⟨ok_putf C (wi_X11) tyX11 tyX11_ok nmX11 rfl (by decide) kw_1180 (Or.inl rfl) (Or.inl ⟨rfl, rfl⟩) (show decode cX11_good 2 = .ok (.putfield 1, 3) by decide +kernel) rfl, ?_⟩
  refine List.forall_mem_cons.mpr ⟨ok_aload_n C (show decode cX11_good 5 = .ok (.aload_n 0, 1) by decide +kernel) rfl rfl, ?_⟩
  refine List.forall_mem_cons.mpr ⟨ok_iload_n C (show decode cX11_good 6 = .ok (.iload_n 1, 1) by decide +kernel) rfl rfl, ?_⟩
  refine List.forall_mem_cons.mpr ⟨ok_iload_n C (show decode cX11_good 7 = .ok (.iload_n 2, 1) by decide +kernel) rfl rfl, ?_⟩
  refine List.forall_mem_cons.mpr ⟨ok_callV C h_X11_isPlace ⟨rfl, rfl⟩ rfl kw_1402 kw_1399 kw_1401 kp_64 kw_11 rfl ds_X11_isPlace ⟨by decide, by decide⟩ (show decode cX11_good 8 = .ok (.invokevirtual 251, 3) by decide +kernel) rfl, ?_⟩
  refine List.forall_mem_cons.mpr ⟨ok_ifne C (show decode cX11_good 11 = .ok (.ifCond .ne 5, 3) by decide +kernel) (tg := 16) (by decide) rfl rfl, ?_⟩
  refine List.forall_mem_cons.mpr ⟨ok_iconst C (show decode cX11_good 14 = .ok (.iconst (-1), 1) by decide +kernel) (by decide) rfl, ?_⟩
  refine List.forall_mem_cons.mpr ⟨ok_ret C rfl (show decode cX11_good 15 = .ok (.ireturn, 1) by decide +kernel), ?_⟩
  refine List.forall_mem_cons.mpr ⟨ok_iload_n C (show decode cX11_good 16 = .ok (.iload_n 1, 1) by decide +kernel) rfl rfl, ?_⟩
  refine List.forall_mem_cons.mpr ⟨ok_iload_n C (show decode cX11_good 17 = .ok (.iload_n 2, 1) by decide +kernel) rfl rfl, ?_⟩
  refine List.forall_mem_cons.mpr ⟨ok_callS C h_X11_cell ⟨rfl, rfl⟩ kw_1413 kw_1411 kw_1412 kw_11 ds_X11_cell ⟨by decide, by decide⟩ (show decode cX11_good 18 = .ok (.invokestatic 245, 3) by decide +kernel) rfl, ?_⟩
  refine List.forall_mem_cons.mpr ⟨ok_istore C (show decode cX11_good 21 = .ok (.istore 4, 2) by decide +kernel) (by decide) rfl, ?_⟩
  refine List.forall_mem_cons.mpr ⟨ok_iload_n C (show decode cX11_good 23 = .ok (.iload_n 3, 1) by decide +kernel) rfl rfl, ?_⟩
  refine List.forall_mem_cons.mpr ⟨ok_tab C (show decode cX11_good 24 = .ok (.tableswitch 138 0 7 #[48, 59, 71, 82, 93, 104, 111, 126], 48) by decide +kernel) (by decide) (by decide) (by decide), ?_⟩
  refine List.forall_mem_cons.mpr ⟨ok_aload_n C (show decode cX11_good 72 = .ok (.aload_n 0, 1) by decide +kernel) rfl rfl, ?_⟩
  refine List.forall_mem_cons.mpr ⟨ok_getf C (wi_X11) rfl (by decide) kw_1186 (show decode cX11_good 73 = .ok (.getfield 33, 3) by decide +kernel) rfl, ?_⟩
  refine List.forall_mem_cons.mpr ⟨ok_bipush C (show decode cX11_good 76 = .ok (.bipush 124, 2) by decide +kernel) (by decide) rfl, ?_⟩
  refine List.forall_mem_cons.mpr ⟨ok_iload C (show decode cX11_good 78 = .ok (.iload 4, 2) by decide +kernel) rfl, ?_⟩
  refine List.forall_mem_cons.mpr ⟨ok_iadd C (show decode cX11_good 80 = .ok (.iadd, 1) by decide +kernel) rfl, ?_⟩
  refine List.forall_mem_cons.mpr ⟨ok_iaload C (show decode cX11_good 81 = .ok (.iaload, 1) by decide +kernel) rfl, ?_⟩
  refine List.forall_mem_cons.mpr ⟨ok_ret C rfl (show decode cX11_good 82 = .ok (.ireturn, 1) by decide +kernel), ?_⟩
  refine List.forall_mem_cons.mpr ⟨ok_aload_n C (show decode cX11_good 83 = .ok (.aload_n 0, 1) by decide +kernel) rfl rfl, ?_⟩
  refine List.forall_mem_cons.mpr ⟨ok_getf C (wi_X11) rfl (by decide) kw_1186 (show decode cX11_good 84 = .ok (.getfield 33, 3) by decide +kernel) rfl, ?_⟩
  refine List.forall_mem_cons.mpr ⟨ok_sipush C (show decode cX11_good 87 = .ok (.sipush 136, 3) by decide +kernel) (by decide) rfl, ?_⟩
  refine List.forall_mem_cons.mpr ⟨ok_iload C (show decode cX11_good 90 = .ok (.iload 4, 2) by decide +kernel) rfl, ?_⟩
  refine List.forall_mem_cons.mpr ⟨ok_iadd C (show decode cX11_good 92 = .ok (.iadd, 1) by decide +kernel) rfl, ?_⟩
  refine List.forall_mem_cons.mpr ⟨ok_iaload C (show decode cX11_good 93 = .ok (.iaload, 1) by decide +kernel) rfl, ?_⟩
  refine List.forall_mem_cons.mpr ⟨ok_ret C rfl (show decode cX11_good 94 = .ok (.ireturn, 1) by decide +kernel), ?_⟩
  refine List.forall_mem_cons.mpr ⟨ok_aload_n C (show decode cX11_good 95 = .ok (.aload_n 0, 1) by decide +kernel) rfl rfl, ?_⟩
  refine List.forall_mem_cons.mpr ⟨ok_getf C (wi_X11) rfl (by decide) kw_1186 (show decode cX11_good 96 = .ok (.getfield 33, 3) by decide +kernel) rfl, ?_⟩
  refine List.forall_mem_cons.mpr ⟨ok_bipush C (show decode cX11_good 99 = .ok (.bipush 16, 2) by decide +kernel) (by decide) rfl, ?_⟩
  refine List.forall_mem_cons.mpr ⟨ok_iload C (show decode cX11_good 101 = .ok (.iload 4, 2) by decide +kernel) rfl, ?_⟩
  refine List.forall_mem_cons.mpr ⟨ok_iadd C (show decode cX11_good 103 = .ok (.iadd, 1) by decide +kernel) rfl, ?_⟩
  refine List.forall_mem_cons.mpr ⟨ok_iaload C (show decode cX11_good 104 = .ok (.iaload, 1) by decide +kernel) rfl, ?_⟩
  refine List.forall_mem_cons.mpr ⟨ok_ret C rfl (show decode cX11_good 105 = .ok (.ireturn, 1) by decide +kernel), ?_⟩
  refine List.forall_mem_cons.mpr ⟨ok_aload_n C (show decode cX11_good 106 = .ok (.aload_n 0, 1) by decide +kernel) rfl rfl, ?_⟩
  refine List.forall_mem_cons.mpr ⟨ok_getf C (wi_X11) rfl (by decide) kw_1186 (show decode cX11_good 107 = .ok (.getfield 33, 3) by decide +kernel) rfl, ?_⟩
  refine List.forall_mem_cons.mpr ⟨ok_bipush C (show decode cX11_good 110 = .ok (.bipush 28, 2) by decide +kernel) (by decide) rfl, ?_⟩
  refine List.forall_mem_cons.mpr ⟨ok_iload C (show decode cX11_good 112 = .ok (.iload 4, 2) by decide +kernel) rfl, ?_⟩
  refine List.forall_mem_cons.mpr ⟨ok_iadd C (show decode cX11_good 114 = .ok (.iadd, 1) by decide +kernel) rfl, ?_⟩
  refine List.forall_mem_cons.mpr ⟨ok_iaload C (show decode cX11_good 115 = .ok (.iaload, 1) by decide +kernel) rfl, ?_⟩
  refine List.forall_mem_cons.mpr ⟨ok_ret C rfl (show decode cX11_good 116 = .ok (.ireturn, 1) by decide +kernel), ?_⟩
  refine List.forall_mem_cons.mpr ⟨ok_aload_n C (show decode cX11_good 117 = .ok (.aload_n 0, 1) by decide +kernel) rfl rfl, ?_⟩
  refine List.forall_mem_cons.mpr ⟨ok_getf C (wi_X11) rfl (by decide) kw_1186 (show decode cX11_good 118 = .ok (.getfield 33, 3) by decide +kernel) rfl, ?_⟩
  refine List.forall_mem_cons.mpr ⟨ok_bipush C (show decode cX11_good 121 = .ok (.bipush 40, 2) by decide +kernel) (by decide) rfl, ?_⟩
  refine List.forall_mem_cons.mpr ⟨ok_iload C (show decode cX11_good 123 = .ok (.iload 4, 2) by decide +kernel) rfl, ?_⟩
  refine List.forall_mem_cons.mpr ⟨ok_iadd C (show decode cX11_good 125 = .ok (.iadd, 1) by decide +kernel) rfl, ?_⟩
  refine List.forall_mem_cons.mpr ⟨ok_iaload C (show decode cX11_good 126 = .ok (.iaload, 1) by decide +kernel) rfl, ?_⟩
  refine List.forall_mem_cons.mpr ⟨ok_ret C rfl (show decode cX11_good 127 = .ok (.ireturn, 1) by decide +kernel), ?_⟩
  refine List.forall_mem_cons.mpr ⟨ok_aload_n C (show decode cX11_good 128 = .ok (.aload_n 0, 1) by decide +kernel) rfl rfl, ?_⟩
  refine List.forall_mem_cons.mpr ⟨ok_iload_n C (show decode cX11_good 129 = .ok (.iload_n 1, 1) by decide +kernel) rfl rfl, ?_⟩
  refine List.forall_mem_cons.mpr ⟨ok_iload_n C (show decode cX11_good 130 = .ok (.iload_n 2, 1) by decide +kernel) rfl rfl, ?_⟩
  refine List.forall_mem_cons.mpr ⟨ok_callV C h_X11_lackOf ⟨rfl, rfl⟩ rfl kw_1417 kw_1414 kw_1416 kp_67 kw_11 rfl ds_X11_lackOf ⟨by decide, by decide⟩ (show decode cX11_good 131 = .ok (.invokevirtual 248, 3) by decide +kernel) rfl, ?_⟩
  refine List.forall_mem_cons.mpr ⟨ok_ret C rfl (show decode cX11_good 134 = .ok (.ireturn, 1) by decide +kernel), ?_⟩
  refine List.forall_mem_cons.mpr ⟨ok_aload_n C (show decode cX11_good 135 = .ok (.aload_n 0, 1) by decide +kernel) rfl rfl, ?_⟩
  refine List.forall_mem_cons.mpr ⟨ok_iload_n C (show decode cX11_good 136 = .ok (.iload_n 1, 1) by decide +kernel) rfl rfl, ?_⟩
  refine List.forall_mem_cons.mpr ⟨ok_iload_n C (show decode cX11_good 137 = .ok (.iload_n 2, 1) by decide +kernel) rfl rfl, ?_⟩
  refine List.forall_mem_cons.mpr ⟨ok_callV C h_X11_isFalse ⟨rfl, rfl⟩ rfl kw_1421 kw_1418 kw_1420 kp_68 kw_11 rfl ds_X11_isFalse ⟨by decide, by decide⟩ (show decode cX11_good 138 = .ok (.invokevirtual 254, 3) by decide +kernel) rfl, ?_⟩
  refine List.forall_mem_cons.mpr ⟨ok_ifeq C (show decode cX11_good 141 = .ok (.ifCond .eq 7, 3) by decide +kernel) (tg := 148) (by decide) rfl rfl, ?_⟩
  refine List.forall_mem_cons.mpr ⟨ok_iconst C (show decode cX11_good 144 = .ok (.iconst 1, 1) by decide +kernel) (by decide) rfl, ?_⟩
  refine List.forall_mem_cons.mpr ⟨ok_goto C (show decode cX11_good 145 = .ok (.goto 4, 3) by decide +kernel) (tg := 149) (by decide) rfl, ?_⟩
  refine List.forall_mem_cons.mpr ⟨ok_iconst C (show decode cX11_good 148 = .ok (.iconst 0, 1) by decide +kernel) (by decide) rfl, ?_⟩
  refine List.forall_mem_cons.mpr ⟨ok_ret C rfl (show decode cX11_good 149 = .ok (.ireturn, 1) by decide +kernel), ?_⟩
  refine List.forall_mem_cons.mpr ⟨ok_aload_n C (show decode cX11_good 150 = .ok (.aload_n 0, 1) by decide +kernel) rfl rfl, ?_⟩
  refine List.forall_mem_cons.mpr ⟨ok_getf C (wi_X11) rfl (by decide) kw_1186 (show decode cX11_good 151 = .ok (.getfield 33, 3) by decide +kernel) rfl, ?_⟩
  refine List.forall_mem_cons.mpr ⟨ok_sipush C (show decode cX11_good 154 = .ok (.sipush 148, 3) by decide +kernel) (by decide) rfl, ?_⟩
  refine List.forall_mem_cons.mpr ⟨ok_iload C (show decode cX11_good 157 = .ok (.iload 4, 2) by decide +kernel) rfl, ?_⟩
  refine List.forall_mem_cons.mpr ⟨ok_iadd C (show decode cX11_good 159 = .ok (.iadd, 1) by decide +kernel) rfl, ?_⟩
  refine List.forall_mem_cons.mpr ⟨ok_iaload C (show decode cX11_good 160 = .ok (.iaload, 1) by decide +kernel) rfl, ?_⟩
  refine List.forall_mem_cons.mpr ⟨ok_ret C rfl (show decode cX11_good 161 = .ok (.ireturn, 1) by decide +kernel), ?_⟩
  refine List.forall_mem_cons.mpr ⟨ok_iconst C (show decode cX11_good 162 = .ok (.iconst (-1), 1) by decide +kernel) (by decide) rfl, ?_⟩
  refine List.forall_mem_cons.mpr ⟨ok_ret C rfl (show decode cX11_good 163 = .ok (.ireturn, 1) by decide +kernel), ?_⟩
  exact fun _ h => absurd h List.not_mem_nil
def L_X11_crossed (f_X11_isPlace : List Value → ab_H → Option ab_O) (f_X11_cell : List Value → ab_H → Option ab_O) : List (Nat × ab_A) := [
  (0, ab_nx 1 (ab_aload 0)),
  (1, ab_nx 2 (ab_lit (.int 0))),
  (2, ab_nx 5 (ab_putf 11 0 0)),
  (5, ab_nx 6 (ab_aload 0)),
  (6, ab_nx 7 (ab_iload 1)),
  (7, ab_nx 8 (ab_iload 2)),
  (8, ab_nx 11 (ab_callV 3 11 f_X11_isPlace 0 0 0 0)),
  (11, ab_if 14 31 (fun x => decide (x = 0))),
  (14, ab_nx 15 (ab_aload 0)),
  (15, ab_nx 18 (ab_getf 11 6)),
  (18, ab_nx 21 (ab_lit (.int 160))),
  (21, ab_nx 22 (ab_iload 1)),
  (22, ab_nx 23 (ab_iload 2)),
  (23, ab_nx 26 (ab_call 2 f_X11_cell 0 0 0 0)),
  (26, ab_nx 27 (ab_bin (fun x y => x + y))),
  (27, ab_nx 28 (ab_ald 1)),
  (28, ab_goto 32),
  (31, ab_nx 32 (ab_lit (.int (-1)))),
  (32, ab_ret 0 0)]
set_option maxRecDepth 100000 in
set_option maxHeartbeats 4000000 in
theorem M_X11_crossed {l : Launch} {b : ab_B} {D : va_G} {cA : Nat → ClassId} {f_X11_isPlace : List Value → ab_H → Option ab_O} (h_X11_isPlace : ab_M l b D ab_cl cA (ab_E0 b) yX11_isPlace (Cond.code yX11_isPlace cX11_isPlace 3 (some .boolean) :: ab_G) ({ frames := 3, cells := 0, slots := 0, locals := 300 } : Room) f_X11_isPlace) {f_X11_cell : List Value → ab_H → Option ab_O} (h_X11_cell : ab_M l b D ab_cl cA (ab_E0 b) yX11_cell (Cond.code yX11_cell cX11_cell 2 (some .int) :: ab_G) ({ frames := 1, cells := 0, slots := 0, locals := 100 } : Room) f_X11_cell) : ab_M l b D ab_cl cA (ab_E0 b) yX11_crossed (Cond.code yX11_crossed cX11_crossed 3 (some .int) :: ab_G) ({ frames := 4, cells := 0, slots := 0, locals := 400 } : Room) (ab_X (ab_T (L_X11_crossed f_X11_isPlace f_X11_cell)) 3) := by
  refine ab_meth (ret := (some .int)) (L_X11_crossed f_X11_isPlace f_X11_cell) (by decide) rfl fun p e R s m args below meth c o C => ?_
  unfold L_X11_crossed
  refine List.forall_mem_cons.mpr ⟨ok_aload_n C (show decode cX11_crossed 0 = .ok (.aload_n 0, 1) by decide +kernel) rfl rfl, ?_⟩
  refine List.forall_mem_cons.mpr ⟨ok_iconst C (show decode cX11_crossed 1 = .ok (.iconst 0, 1) by decide +kernel) (by decide) rfl, ?_⟩
  refine List.forall_mem_cons.mpr ⟨ok_putf C (wi_X11) tyX11 tyX11_ok nmX11 rfl (by decide) kw_1180 (Or.inl rfl) (Or.inl ⟨rfl, rfl⟩) (show decode cX11_crossed 2 = .ok (.putfield 1, 3) by decide +kernel) rfl, ?_⟩
  refine List.forall_mem_cons.mpr ⟨ok_aload_n C (show decode cX11_crossed 5 = .ok (.aload_n 0, 1) by decide +kernel) rfl rfl, ?_⟩
  refine List.forall_mem_cons.mpr ⟨ok_iload_n C (show decode cX11_crossed 6 = .ok (.iload_n 1, 1) by decide +kernel) rfl rfl, ?_⟩
  refine List.forall_mem_cons.mpr ⟨ok_iload_n C (show decode cX11_crossed 7 = .ok (.iload_n 2, 1) by decide +kernel) rfl rfl, ?_⟩
  refine List.forall_mem_cons.mpr ⟨ok_callV C h_X11_isPlace ⟨rfl, rfl⟩ rfl kw_1402 kw_1399 kw_1401 kp_64 kw_11 rfl ds_X11_isPlace ⟨by decide, by decide⟩ (show decode cX11_crossed 8 = .ok (.invokevirtual 251, 3) by decide +kernel) rfl, ?_⟩
  refine List.forall_mem_cons.mpr ⟨ok_ifeq C (show decode cX11_crossed 11 = .ok (.ifCond .eq 20, 3) by decide +kernel) (tg := 31) (by decide) rfl rfl, ?_⟩
  refine List.forall_mem_cons.mpr ⟨ok_aload_n C (show decode cX11_crossed 14 = .ok (.aload_n 0, 1) by decide +kernel) rfl rfl, ?_⟩
  refine List.forall_mem_cons.mpr ⟨ok_getf C (wi_X11) rfl (by decide) kw_1186 (show decode cX11_crossed 15 = .ok (.getfield 33, 3) by decide +kernel) rfl, ?_⟩
  refine List.forall_mem_cons.mpr ⟨ok_sipush C (show decode cX11_crossed 18 = .ok (.sipush 160, 3) by decide +kernel) (by decide) rfl, ?_⟩
  refine List.forall_mem_cons.mpr ⟨ok_iload_n C (show decode cX11_crossed 21 = .ok (.iload_n 1, 1) by decide +kernel) rfl rfl, ?_⟩
  refine List.forall_mem_cons.mpr ⟨ok_iload_n C (show decode cX11_crossed 22 = .ok (.iload_n 2, 1) by decide +kernel) rfl rfl, ?_⟩
  refine List.forall_mem_cons.mpr ⟨ok_callS C h_X11_cell ⟨rfl, rfl⟩ kw_1413 kw_1411 kw_1412 kw_11 ds_X11_cell ⟨by decide, by decide⟩ (show decode cX11_crossed 23 = .ok (.invokestatic 245, 3) by decide +kernel) rfl, ?_⟩
  refine List.forall_mem_cons.mpr ⟨ok_iadd C (show decode cX11_crossed 26 = .ok (.iadd, 1) by decide +kernel) rfl, ?_⟩
  refine List.forall_mem_cons.mpr ⟨ok_iaload C (show decode cX11_crossed 27 = .ok (.iaload, 1) by decide +kernel) rfl, ?_⟩
  refine List.forall_mem_cons.mpr ⟨ok_goto C (show decode cX11_crossed 28 = .ok (.goto 4, 3) by decide +kernel) (tg := 32) (by decide) rfl, ?_⟩
  refine List.forall_mem_cons.mpr ⟨ok_iconst C (show decode cX11_crossed 31 = .ok (.iconst (-1), 1) by decide +kernel) (by decide) rfl, ?_⟩
  refine List.forall_mem_cons.mpr ⟨ok_ret C rfl (show decode cX11_crossed 32 = .ok (.ireturn, 1) by decide +kernel), ?_⟩
  exact fun _ h => absurd h List.not_mem_nil
def L_X11_areUnlike (f_X11_isDead : List Value → ab_H → Option ab_O) : List (Nat × ab_A) := [
  (0, ab_nx 1 (ab_aload 0)),
  (1, ab_nx 2 (ab_iload 1)),
  (2, ab_nx 5 (ab_callV 2 11 f_X11_isDead 0 0 0 0)),
  (5, ab_if 8 43 (fun x => !decide (x = 0))),
  (8, ab_nx 9 (ab_aload 0)),
  (9, ab_nx 10 (ab_iload 2)),
  (10, ab_nx 13 (ab_callV 2 11 f_X11_isDead 0 0 0 0)),
  (13, ab_if 16 43 (fun x => !decide (x = 0))),
  (16, ab_nx 17 (ab_aload 0)),
  (17, ab_nx 20 (ab_getf 11 6)),
  (20, ab_nx 23 (ab_lit (.int 172))),
  (23, ab_nx 24 (ab_iload 1)),
  (24, ab_nx 25 (ab_bin (fun x y => x + y))),
  (25, ab_nx 26 (ab_ald 1)),
  (26, ab_nx 27 (ab_aload 0)),
  (27, ab_nx 30 (ab_getf 11 6)),
  (30, ab_nx 33 (ab_lit (.int 172))),
  (33, ab_nx 34 (ab_iload 2)),
  (34, ab_nx 35 (ab_bin (fun x y => x + y))),
  (35, ab_nx 36 (ab_ald 1)),
  (36, ab_icmp 39 43 (fun x y => decide (x = y))),
  (39, ab_nx 40 (ab_lit (.int 1))),
  (40, ab_goto 44),
  (43, ab_nx 44 (ab_lit (.int 0))),
  (44, ab_zret 0 0)]
set_option maxRecDepth 100000 in
set_option maxHeartbeats 4000000 in
theorem M_X11_areUnlike {l : Launch} {b : ab_B} {D : va_G} {cA : Nat → ClassId} {f_X11_isDead : List Value → ab_H → Option ab_O} (h_X11_isDead : ab_M l b D ab_cl cA (ab_E0 b) yX11_isDead (Cond.code yX11_isDead cX11_isDead 2 (some .boolean) :: ab_G) ({ frames := 2, cells := 0, slots := 0, locals := 200 } : Room) f_X11_isDead) : ab_M l b D ab_cl cA (ab_E0 b) yX11_areUnlike (Cond.code yX11_areUnlike cX11_areUnlike 3 (some .boolean) :: ab_G) ({ frames := 3, cells := 0, slots := 0, locals := 300 } : Room) (ab_X (ab_T (L_X11_areUnlike f_X11_isDead)) 3) := by
  refine ab_meth (ret := (some .boolean)) (L_X11_areUnlike f_X11_isDead) (by decide) rfl fun p e R s m args below meth c o C => ?_
  unfold L_X11_areUnlike
  refine List.forall_mem_cons.mpr ⟨ok_aload_n C (show decode cX11_areUnlike 0 = .ok (.aload_n 0, 1) by decide +kernel) rfl rfl, ?_⟩
  refine List.forall_mem_cons.mpr ⟨ok_iload_n C (show decode cX11_areUnlike 1 = .ok (.iload_n 1, 1) by decide +kernel) rfl rfl, ?_⟩
  refine List.forall_mem_cons.mpr ⟨ok_callV C h_X11_isDead ⟨rfl, rfl⟩ rfl kw_1441 kw_1438 kw_1440 kp_71 kw_11 rfl ds_X11_isDead ⟨by decide, by decide⟩ (show decode cX11_areUnlike 2 = .ok (.invokevirtual 257, 3) by decide +kernel) rfl, ?_⟩
  refine List.forall_mem_cons.mpr ⟨ok_ifne C (show decode cX11_areUnlike 5 = .ok (.ifCond .ne 38, 3) by decide +kernel) (tg := 43) (by decide) rfl rfl, ?_⟩
  refine List.forall_mem_cons.mpr ⟨ok_aload_n C (show decode cX11_areUnlike 8 = .ok (.aload_n 0, 1) by decide +kernel) rfl rfl, ?_⟩
  refine List.forall_mem_cons.mpr ⟨ok_iload_n C (show decode cX11_areUnlike 9 = .ok (.iload_n 2, 1) by decide +kernel) rfl rfl, ?_⟩
  refine List.forall_mem_cons.mpr ⟨ok_callV C h_X11_isDead ⟨rfl, rfl⟩ rfl kw_1441 kw_1438 kw_1440 kp_71 kw_11 rfl ds_X11_isDead ⟨by decide, by decide⟩ (show decode cX11_areUnlike 10 = .ok (.invokevirtual 257, 3) by decide +kernel) rfl, ?_⟩
  refine List.forall_mem_cons.mpr ⟨ok_ifne C (show decode cX11_areUnlike 13 = .ok (.ifCond .ne 30, 3) by decide +kernel) (tg := 43) (by decide) rfl rfl, ?_⟩
  refine List.forall_mem_cons.mpr ⟨ok_aload_n C (show decode cX11_areUnlike 16 = .ok (.aload_n 0, 1) by decide +kernel) rfl rfl, ?_⟩
  refine List.forall_mem_cons.mpr ⟨ok_getf C (wi_X11) rfl (by decide) kw_1186 (show decode cX11_areUnlike 17 = .ok (.getfield 33, 3) by decide +kernel) rfl, ?_⟩
  refine List.forall_mem_cons.mpr ⟨ok_sipush C (show decode cX11_areUnlike 20 = .ok (.sipush 172, 3) by decide +kernel) (by decide) rfl, ?_⟩
  refine List.forall_mem_cons.mpr ⟨ok_iload_n C (show decode cX11_areUnlike 23 = .ok (.iload_n 1, 1) by decide +kernel) rfl rfl, ?_⟩
  refine List.forall_mem_cons.mpr ⟨ok_iadd C (show decode cX11_areUnlike 24 = .ok (.iadd, 1) by decide +kernel) rfl, ?_⟩
  refine List.forall_mem_cons.mpr ⟨ok_iaload C (show decode cX11_areUnlike 25 = .ok (.iaload, 1) by decide +kernel) rfl, ?_⟩
  refine List.forall_mem_cons.mpr ⟨ok_aload_n C (show decode cX11_areUnlike 26 = .ok (.aload_n 0, 1) by decide +kernel) rfl rfl, ?_⟩
  refine List.forall_mem_cons.mpr ⟨ok_getf C (wi_X11) rfl (by decide) kw_1186 (show decode cX11_areUnlike 27 = .ok (.getfield 33, 3) by decide +kernel) rfl, ?_⟩
  refine List.forall_mem_cons.mpr ⟨ok_sipush C (show decode cX11_areUnlike 30 = .ok (.sipush 172, 3) by decide +kernel) (by decide) rfl, ?_⟩
  refine List.forall_mem_cons.mpr ⟨ok_iload_n C (show decode cX11_areUnlike 33 = .ok (.iload_n 2, 1) by decide +kernel) rfl rfl, ?_⟩
  refine List.forall_mem_cons.mpr ⟨ok_iadd C (show decode cX11_areUnlike 34 = .ok (.iadd, 1) by decide +kernel) rfl, ?_⟩
  refine List.forall_mem_cons.mpr ⟨ok_iaload C (show decode cX11_areUnlike 35 = .ok (.iaload, 1) by decide +kernel) rfl, ?_⟩
  refine List.forall_mem_cons.mpr ⟨ok_icmpeq C (show decode cX11_areUnlike 36 = .ok (.if_icmp .eq 7, 3) by decide +kernel) (tg := 43) (by decide) rfl rfl, ?_⟩
  refine List.forall_mem_cons.mpr ⟨ok_iconst C (show decode cX11_areUnlike 39 = .ok (.iconst 1, 1) by decide +kernel) (by decide) rfl, ?_⟩
  refine List.forall_mem_cons.mpr ⟨ok_goto C (show decode cX11_areUnlike 40 = .ok (.goto 4, 3) by decide +kernel) (tg := 44) (by decide) rfl, ?_⟩
  refine List.forall_mem_cons.mpr ⟨ok_iconst C (show decode cX11_areUnlike 43 = .ok (.iconst 0, 1) by decide +kernel) (by decide) rfl, ?_⟩
  refine List.forall_mem_cons.mpr ⟨ok_zret C rfl (show decode cX11_areUnlike 44 = .ok (.ireturn, 1) by decide +kernel), ?_⟩
  exact fun _ h => absurd h List.not_mem_nil
def L_X11_doesMiss (f_X11_areUnlike : List Value → ab_H → Option ab_O) : List (Nat × ab_A) := [
  (0, ab_nx 1 (ab_aload 0)),
  (1, ab_nx 2 (ab_iload 1)),
  (2, ab_nx 3 (ab_iload 2)),
  (3, ab_nx 6 (ab_callV 3 11 f_X11_areUnlike 0 0 0 0)),
  (6, ab_if 9 11 (fun x => !decide (x = 0))),
  (9, ab_nx 10 (ab_lit (.int 0))),
  (10, ab_zret 0 0),
  (11, ab_nx 12 (ab_lit (.int 0))),
  (12, ab_nx 13 (ab_istore 3)),
  (13, ab_nx 14 (ab_iload 3)),
  (14, ab_nx 15 (ab_aload 0)),
  (15, ab_nx 18 (ab_getf 11 6)),
  (18, ab_nx 19 (ab_lit (.int 3))),
  (19, ab_nx 20 (ab_ald 1)),
  (20, ab_icmp 23 88 (fun x y => decide (y ≤ x))),
  (23, ab_nx 24 (ab_aload 0)),
  (24, ab_nx 27 (ab_getf 11 6)),
  (27, ab_nx 29 (ab_lit (.int 60))),
  (29, ab_nx 30 (ab_iload 3)),
  (30, ab_nx 31 (ab_bin (fun x y => x + y))),
  (31, ab_nx 32 (ab_ald 1)),
  (32, ab_nx 33 (ab_iload 1)),
  (33, ab_icmp 36 82 (fun x y => !decide (x = y))),
  (36, ab_nx 37 (ab_aload 0)),
  (37, ab_nx 40 (ab_getf 11 6)),
  (40, ab_nx 42 (ab_lit (.int 80))),
  (42, ab_nx 43 (ab_iload 3)),
  (43, ab_nx 44 (ab_bin (fun x y => x + y))),
  (44, ab_nx 45 (ab_ald 1)),
  (45, ab_nx 46 (ab_iload 2)),
  (46, ab_icmp 49 82 (fun x y => !decide (x = y))),
  (49, ab_nx 50 (ab_aload 0)),
  (50, ab_nx 53 (ab_getf 11 6)),
  (53, ab_nx 56 (ab_lit (.int 189))),
  (56, ab_nx 58 (ab_lit (.int 8))),
  (58, ab_nx 59 (ab_iload 1)),
  (59, ab_nx 60 (ab_bin (fun x y => x * y))),
  (60, ab_nx 61 (ab_bin (fun x y => x + y))),
  (61, ab_nx 62 (ab_iload 2)),
  (62, ab_nx 63 (ab_bin (fun x y => x + y))),
  (63, ab_nx 64 (ab_ald 1)),
  (64, ab_nx 65 (ab_aload 0)),
  (65, ab_nx 68 (ab_getf 11 6)),
  (68, ab_nx 70 (ab_lit (.int 100))),
  (70, ab_nx 71 (ab_iload 3)),
  (71, ab_nx 72 (ab_bin (fun x y => x + y))),
  (72, ab_nx 73 (ab_ald 1)),
  (73, ab_icmp 76 80 (fun x y => decide (x < y))),
  (76, ab_nx 77 (ab_lit (.int 1))),
  (77, ab_goto 81),
  (80, ab_nx 81 (ab_lit (.int 0))),
  (81, ab_zret 0 0),
  (82, ab_nx 85 (ab_iinc 3 1)),
  (85, ab_goto 13),
  (88, ab_nx 89 (ab_lit (.int 0))),
  (89, ab_zret 0 0)]
set_option maxRecDepth 100000 in
set_option maxHeartbeats 4000000 in
theorem M_X11_doesMiss {l : Launch} {b : ab_B} {D : va_G} {cA : Nat → ClassId} {f_X11_areUnlike : List Value → ab_H → Option ab_O} (h_X11_areUnlike : ab_M l b D ab_cl cA (ab_E0 b) yX11_areUnlike (Cond.code yX11_areUnlike cX11_areUnlike 3 (some .boolean) :: ab_G) ({ frames := 3, cells := 0, slots := 0, locals := 300 } : Room) f_X11_areUnlike) : ab_M l b D ab_cl cA (ab_E0 b) yX11_doesMiss (Cond.code yX11_doesMiss cX11_doesMiss 4 (some .boolean) :: ab_G) ({ frames := 4, cells := 0, slots := 0, locals := 400 } : Room) (ab_X (ab_T (L_X11_doesMiss f_X11_areUnlike)) 4) := by
  refine ab_meth (ret := (some .boolean)) (L_X11_doesMiss f_X11_areUnlike) (by decide) rfl fun p e R s m args below meth c o C => ?_
  unfold L_X11_doesMiss
  refine List.forall_mem_cons.mpr ⟨ok_aload_n C (show decode cX11_doesMiss 0 = .ok (.aload_n 0, 1) by decide +kernel) rfl rfl, ?_⟩
  refine List.forall_mem_cons.mpr ⟨ok_iload_n C (show decode cX11_doesMiss 1 = .ok (.iload_n 1, 1) by decide +kernel) rfl rfl, ?_⟩
  refine List.forall_mem_cons.mpr ⟨ok_iload_n C (show decode cX11_doesMiss 2 = .ok (.iload_n 2, 1) by decide +kernel) rfl rfl, ?_⟩
  refine List.forall_mem_cons.mpr ⟨ok_callV C h_X11_areUnlike ⟨rfl, rfl⟩ rfl kw_1453 kw_1450 kw_1452 kp_74 kw_11 rfl ds_X11_areUnlike ⟨by decide, by decide⟩ (show decode cX11_doesMiss 3 = .ok (.invokevirtual 260, 3) by decide +kernel) rfl, ?_⟩
  refine List.forall_mem_cons.mpr ⟨ok_ifne C (show decode cX11_doesMiss 6 = .ok (.ifCond .ne 5, 3) by decide +kernel) (tg := 11) (by decide) rfl rfl, ?_⟩
  refine List.forall_mem_cons.mpr ⟨ok_iconst C (show decode cX11_doesMiss 9 = .ok (.iconst 0, 1) by decide +kernel) (by decide) rfl, ?_⟩
  refine List.forall_mem_cons.mpr ⟨ok_zret C rfl (show decode cX11_doesMiss 10 = .ok (.ireturn, 1) by decide +kernel), ?_⟩
  refine List.forall_mem_cons.mpr ⟨ok_iconst C (show decode cX11_doesMiss 11 = .ok (.iconst 0, 1) by decide +kernel) (by decide) rfl, ?_⟩
  refine List.forall_mem_cons.mpr ⟨ok_istore_n C (show decode cX11_doesMiss 12 = .ok (.istore_n 3, 1) by decide +kernel) rfl (by decide) rfl, ?_⟩
  refine List.forall_mem_cons.mpr ⟨ok_iload_n C (show decode cX11_doesMiss 13 = .ok (.iload_n 3, 1) by decide +kernel) rfl rfl, ?_⟩
  refine List.forall_mem_cons.mpr ⟨ok_aload_n C (show decode cX11_doesMiss 14 = .ok (.aload_n 0, 1) by decide +kernel) rfl rfl, ?_⟩
  refine List.forall_mem_cons.mpr ⟨ok_getf C (wi_X11) rfl (by decide) kw_1186 (show decode cX11_doesMiss 15 = .ok (.getfield 33, 3) by decide +kernel) rfl, ?_⟩
  refine List.forall_mem_cons.mpr ⟨ok_iconst C (show decode cX11_doesMiss 18 = .ok (.iconst 3, 1) by decide +kernel) (by decide) rfl, ?_⟩
  refine List.forall_mem_cons.mpr ⟨ok_iaload C (show decode cX11_doesMiss 19 = .ok (.iaload, 1) by decide +kernel) rfl, ?_⟩
  refine List.forall_mem_cons.mpr ⟨ok_icmpge C (show decode cX11_doesMiss 20 = .ok (.if_icmp .ge 68, 3) by decide +kernel) (tg := 88) (by decide) rfl rfl, ?_⟩
  refine List.forall_mem_cons.mpr ⟨ok_aload_n C (show decode cX11_doesMiss 23 = .ok (.aload_n 0, 1) by decide +kernel) rfl rfl, ?_⟩
  refine List.forall_mem_cons.mpr ⟨ok_getf C (wi_X11) rfl (by decide) kw_1186 (show decode cX11_doesMiss 24 = .ok (.getfield 33, 3) by decide +kernel) rfl, ?_⟩
  refine List.forall_mem_cons.mpr ⟨ok_bipush C (show decode cX11_doesMiss 27 = .ok (.bipush 60, 2) by decide +kernel) (by decide) rfl, ?_⟩
  refine List.forall_mem_cons.mpr ⟨ok_iload_n C (show decode cX11_doesMiss 29 = .ok (.iload_n 3, 1) by decide +kernel) rfl rfl, ?_⟩
  refine List.forall_mem_cons.mpr ⟨ok_iadd C (show decode cX11_doesMiss 30 = .ok (.iadd, 1) by decide +kernel) rfl, ?_⟩
  refine List.forall_mem_cons.mpr ⟨ok_iaload C (show decode cX11_doesMiss 31 = .ok (.iaload, 1) by decide +kernel) rfl, ?_⟩
  refine List.forall_mem_cons.mpr ⟨ok_iload_n C (show decode cX11_doesMiss 32 = .ok (.iload_n 1, 1) by decide +kernel) rfl rfl, ?_⟩
  refine List.forall_mem_cons.mpr ⟨ok_icmpne C (show decode cX11_doesMiss 33 = .ok (.if_icmp .ne 49, 3) by decide +kernel) (tg := 82) (by decide) rfl rfl, ?_⟩
  refine List.forall_mem_cons.mpr ⟨ok_aload_n C (show decode cX11_doesMiss 36 = .ok (.aload_n 0, 1) by decide +kernel) rfl rfl, ?_⟩
  refine List.forall_mem_cons.mpr ⟨ok_getf C (wi_X11) rfl (by decide) kw_1186 (show decode cX11_doesMiss 37 = .ok (.getfield 33, 3) by decide +kernel) rfl, ?_⟩
  refine List.forall_mem_cons.mpr ⟨ok_bipush C (show decode cX11_doesMiss 40 = .ok (.bipush 80, 2) by decide +kernel) (by decide) rfl, ?_⟩
  refine List.forall_mem_cons.mpr ⟨ok_iload_n C (show decode cX11_doesMiss 42 = .ok (.iload_n 3, 1) by decide +kernel) rfl rfl, ?_⟩
  refine List.forall_mem_cons.mpr ⟨ok_iadd C (show decode cX11_doesMiss 43 = .ok (.iadd, 1) by decide +kernel) rfl, ?_⟩
  refine List.forall_mem_cons.mpr ⟨ok_iaload C (show decode cX11_doesMiss 44 = .ok (.iaload, 1) by decide +kernel) rfl, ?_⟩
  refine List.forall_mem_cons.mpr ⟨ok_iload_n C (show decode cX11_doesMiss 45 = .ok (.iload_n 2, 1) by decide +kernel) rfl rfl, ?_⟩
  refine List.forall_mem_cons.mpr ⟨ok_icmpne C (show decode cX11_doesMiss 46 = .ok (.if_icmp .ne 36, 3) by decide +kernel) (tg := 82) (by decide) rfl rfl, ?_⟩
  refine List.forall_mem_cons.mpr ⟨ok_aload_n C (show decode cX11_doesMiss 49 = .ok (.aload_n 0, 1) by decide +kernel) rfl rfl, ?_⟩
  refine List.forall_mem_cons.mpr ⟨ok_getf C (wi_X11) rfl (by decide) kw_1186 (show decode cX11_doesMiss 50 = .ok (.getfield 33, 3) by decide +kernel) rfl, ?_⟩
  refine List.forall_mem_cons.mpr ⟨ok_sipush C (show decode cX11_doesMiss 53 = .ok (.sipush 189, 3) by decide +kernel) (by decide) rfl, ?_⟩
  refine List.forall_mem_cons.mpr ⟨ok_bipush C (show decode cX11_doesMiss 56 = .ok (.bipush 8, 2) by decide +kernel) (by decide) rfl, ?_⟩
  refine List.forall_mem_cons.mpr ⟨ok_iload_n C (show decode cX11_doesMiss 58 = .ok (.iload_n 1, 1) by decide +kernel) rfl rfl, ?_⟩
  refine List.forall_mem_cons.mpr ⟨ok_imul C (show decode cX11_doesMiss 59 = .ok (.imul, 1) by decide +kernel) rfl, ?_⟩
  refine List.forall_mem_cons.mpr ⟨ok_iadd C (show decode cX11_doesMiss 60 = .ok (.iadd, 1) by decide +kernel) rfl, ?_⟩
  refine List.forall_mem_cons.mpr ⟨ok_iload_n C (show decode cX11_doesMiss 61 = .ok (.iload_n 2, 1) by decide +kernel) rfl rfl, ?_⟩
  refine List.forall_mem_cons.mpr ⟨ok_iadd C (show decode cX11_doesMiss 62 = .ok (.iadd, 1) by decide +kernel) rfl, ?_⟩
  refine List.forall_mem_cons.mpr ⟨ok_iaload C (show decode cX11_doesMiss 63 = .ok (.iaload, 1) by decide +kernel) rfl, ?_⟩
  refine List.forall_mem_cons.mpr ⟨ok_aload_n C (show decode cX11_doesMiss 64 = .ok (.aload_n 0, 1) by decide +kernel) rfl rfl, ?_⟩
  refine List.forall_mem_cons.mpr ⟨ok_getf C (wi_X11) rfl (by decide) kw_1186 (show decode cX11_doesMiss 65 = .ok (.getfield 33, 3) by decide +kernel) rfl, ?_⟩
  refine List.forall_mem_cons.mpr ⟨ok_bipush C (show decode cX11_doesMiss 68 = .ok (.bipush 100, 2) by decide +kernel) (by decide) rfl, ?_⟩
  refine List.forall_mem_cons.mpr ⟨ok_iload_n C (show decode cX11_doesMiss 70 = .ok (.iload_n 3, 1) by decide +kernel) rfl rfl, ?_⟩
  refine List.forall_mem_cons.mpr ⟨ok_iadd C (show decode cX11_doesMiss 71 = .ok (.iadd, 1) by decide +kernel) rfl, ?_⟩
  refine List.forall_mem_cons.mpr ⟨ok_iaload C (show decode cX11_doesMiss 72 = .ok (.iaload, 1) by decide +kernel) rfl, ?_⟩
  refine List.forall_mem_cons.mpr ⟨ok_icmplt C (show decode cX11_doesMiss 73 = .ok (.if_icmp .lt 7, 3) by decide +kernel) (tg := 80) (by decide) rfl rfl, ?_⟩
  refine List.forall_mem_cons.mpr ⟨ok_iconst C (show decode cX11_doesMiss 76 = .ok (.iconst 1, 1) by decide +kernel) (by decide) rfl, ?_⟩
  refine List.forall_mem_cons.mpr ⟨ok_goto C (show decode cX11_doesMiss 77 = .ok (.goto 4, 3) by decide +kernel) (tg := 81) (by decide) rfl, ?_⟩
  refine List.forall_mem_cons.mpr ⟨ok_iconst C (show decode cX11_doesMiss 80 = .ok (.iconst 0, 1) by decide +kernel) (by decide) rfl, ?_⟩
  refine List.forall_mem_cons.mpr ⟨ok_zret C rfl (show decode cX11_doesMiss 81 = .ok (.ireturn, 1) by decide +kernel), ?_⟩
  refine List.forall_mem_cons.mpr ⟨ok_iinc C (show decode cX11_doesMiss 82 = .ok (.iinc 3 1, 3) by decide +kernel) (by decide) (by decide) rfl, ?_⟩
  refine List.forall_mem_cons.mpr ⟨ok_goto C (show decode cX11_doesMiss 85 = .ok (.goto (-72), 3) by decide +kernel) (tg := 13) (by decide) rfl, ?_⟩
  refine List.forall_mem_cons.mpr ⟨ok_iconst C (show decode cX11_doesMiss 88 = .ok (.iconst 0, 1) by decide +kernel) (by decide) rfl, ?_⟩
  refine List.forall_mem_cons.mpr ⟨ok_zret C rfl (show decode cX11_doesMiss 89 = .ok (.ireturn, 1) by decide +kernel), ?_⟩
  exact fun _ h => absurd h List.not_mem_nil
