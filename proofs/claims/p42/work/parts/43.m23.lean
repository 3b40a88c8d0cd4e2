def L_X11_operand (f_X11_isWord : List Value → ab_H → Option ab_O) (f_X11_isSign : List Value → ab_H → Option ab_O) (f_X11_leafOf : List Value → ab_H → Option ab_O) (f_X11_bad : List Value → ab_H → Option ab_O) (f_X11_next : List Value → ab_H → Option ab_O) (f_X11_takes : List Value → ab_H → Option ab_O) (f_X11_code : List Value → ab_H → Option ab_O) : List (Nat × ab_A) := [
  (0, ab_nx 1 (ab_aload 0)),
  (1, ab_nx 4 (ab_lit (.long 7237492))),
  (4, ab_nx 7 (ab_callV 2 11 f_X11_isWord 0 0 0 0)),
  (7, ab_nx 8 (ab_istore 1)),
  (8, ab_nx 9 (ab_aload 0)),
  (9, ab_nx 11 (ab_lit (.int 40))),
  (11, ab_nx 14 (ab_callV 2 11 f_X11_isSign 0 0 0 0)),
  (14, ab_nx 15 (ab_istore 2)),
  (15, ab_nx 16 (ab_aload 0)),
  (16, ab_nx 19 (ab_callV 1 11 f_X11_leafOf 0 0 0 0)),
  (19, ab_nx 20 (ab_istore 3)),
  (20, ab_nx 21 (ab_iload 1)),
  (21, ab_if 24 38 (fun x => !decide (x = 0))),
  (24, ab_nx 25 (ab_iload 2)),
  (25, ab_if 28 38 (fun x => !decide (x = 0))),
  (28, ab_nx 29 (ab_iload 3)),
  (29, ab_if 32 38 (fun x => decide (0 ≤ x))),
  (32, ab_nx 33 (ab_aload 0)),
  (33, ab_nx 34 (ab_lit (.int 1))),
  (34, ab_nx 37 (ab_callV 2 11 f_X11_bad 0 0 0 0)),
  (37, ab_zret 0 0),
  (38, ab_nx 39 (ab_aload 0)),
  (39, ab_nx 42 (ab_getf 11 35)),
  (42, ab_nx 44 (ab_lit (.int 20))),
  (44, ab_icmp 47 56 (fun x y => decide (x = y))),
  (47, ab_nx 48 (ab_aload 0)),
  (48, ab_nx 51 (ab_getf 11 37)),
  (51, ab_nx 53 (ab_lit (.int 8))),
  (53, ab_icmp 56 62 (fun x y => decide (x ≤ y))),
  (56, ab_nx 57 (ab_aload 0)),
  (57, ab_nx 58 (ab_lit (.int 4))),
  (58, ab_nx 61 (ab_callV 2 11 f_X11_bad 0 0 0 0)),
  (61, ab_zret 0 0),
  (62, ab_nx 63 (ab_aload 0)),
  (63, ab_nx 64 ab_dup),
  (64, ab_nx 67 (ab_getf 11 35)),
  (67, ab_nx 68 (ab_lit (.int 1))),
  (68, ab_nx 69 (ab_bin (fun x y => x + y))),
  (69, ab_nx 72 (ab_putf 11 35 0)),
  (72, ab_nx 73 (ab_aload 0)),
  (73, ab_nx 76 (ab_callV 1 11 f_X11_next 0 0 0 0)),
  (76, ab_nx 77 (ab_iload 1)),
  (77, ab_if 80 84 (fun x => !decide (x = 0))),
  (80, ab_nx 81 (ab_iload 2)),
  (81, ab_if 84 126 (fun x => decide (x = 0))),
  (84, ab_nx 85 (ab_aload 0)),
  (85, ab_nx 88 (ab_getf 11 33)),
  (88, ab_nx 89 (ab_aload 0)),
  (89, ab_nx 92 (ab_getf 11 36)),
  (92, ab_nx 93 (ab_iload 1)),
  (93, ab_if 96 101 (fun x => decide (x = 0))),
  (96, ab_nx 98 (ab_lit (.int 20))),
  (98, ab_goto 103),
  (101, ab_nx 103 (ab_lit (.int 23))),
  (103, ab_nx 104 (ab_ast 1)),
  (104, ab_nx 105 (ab_aload 0)),
  (105, ab_nx 106 ab_dup),
  (106, ab_nx 109 (ab_getf 11 36)),
  (109, ab_nx 110 (ab_lit (.int 1))),
  (110, ab_nx 111 (ab_bin (fun x y => x + y))),
  (111, ab_nx 114 (ab_putf 11 36 0)),
  (114, ab_nx 115 (ab_aload 0)),
  (115, ab_nx 116 ab_dup),
  (116, ab_nx 119 (ab_getf 11 37)),
  (119, ab_nx 120 (ab_lit (.int 1))),
  (120, ab_nx 121 (ab_bin (fun x y => x + y))),
  (121, ab_nx 124 (ab_putf 11 37 0)),
  (124, ab_nx 125 (ab_lit (.int 1))),
  (125, ab_zret 0 0),
  (126, ab_nx 127 (ab_aload 0)),
  (127, ab_nx 128 (ab_lit (.int 1))),
  (128, ab_nx 131 (ab_putf 11 38 3)),
  (131, ab_nx 132 (ab_iload 3)),
  (132, ab_nx 133 (ab_lit (.int 5))),
  (133, ab_icmp 136 159 (fun x y => decide (y ≤ x))),
  (136, ab_nx 137 (ab_aload 0)),
  (137, ab_nx 138 (ab_lit (.int 0))),
  (138, ab_nx 139 (ab_lit (.int 1))),
  (139, ab_nx 142 (ab_callV 3 11 f_X11_takes 0 0 0 0)),
  (142, ab_if 145 147 (fun x => !decide (x = 0))),
  (145, ab_nx 146 (ab_lit (.int 0))),
  (146, ab_zret 0 0),
  (147, ab_nx 148 (ab_aload 0)),
  (148, ab_nx 149 (ab_iload 3)),
  (149, ab_nx 150 (ab_lit (.int 0))),
  (150, ab_nx 151 (ab_aload 0)),
  (151, ab_nx 154 (ab_getf 11 18)),
  (154, ab_nx 157 (ab_callV 4 11 f_X11_code 0 0 0 0)),
  (157, ab_nx 158 (ab_lit (.int 1))),
  (158, ab_zret 0 0),
  (159, ab_nx 160 (ab_aload 0)),
  (160, ab_nx 163 (ab_getf 11 11)),
  (163, ab_nx 164 (ab_lit (.int 3))),
  (164, ab_icmp 167 185 (fun x y => !decide (x = y))),
  (167, ab_nx 168 (ab_aload 0)),
  (168, ab_nx 171 (ab_getf 11 14)),
  (171, ab_nx 173 (ab_lit (.int 60))),
  (173, ab_icmp 176 185 (fun x y => decide (x < y))),
  (176, ab_nx 177 (ab_aload 0)),
  (177, ab_nx 180 (ab_getf 11 14)),
  (180, ab_nx 182 (ab_lit (.int 62))),
  (182, ab_icmp 185 191 (fun x y => decide (x ≤ y))),
  (185, ab_nx 186 (ab_aload 0)),
  (186, ab_nx 187 (ab_lit (.int 1))),
  (187, ab_nx 190 (ab_callV 2 11 f_X11_bad 0 0 0 0)),
  (190, ab_zret 0 0),
  (191, ab_nx 192 (ab_aload 0)),
  (192, ab_nx 195 (ab_getf 11 14)),
  (195, ab_nx 197 (ab_istore 4)),
  (197, ab_nx 198 (ab_aload 0)),
  (198, ab_nx 201 (ab_callV 1 11 f_X11_next 0 0 0 0)),
  (201, ab_nx 202 (ab_aload 0)),
  (202, ab_nx 205 (ab_getf 11 11)),
  (205, ab_nx 206 (ab_lit (.int 2))),
  (206, ab_icmp 209 215 (fun x y => decide (x = y))),
  (209, ab_nx 210 (ab_aload 0)),
  (210, ab_nx 211 (ab_lit (.int 1))),
  (211, ab_nx 214 (ab_callV 2 11 f_X11_bad 0 0 0 0)),
  (214, ab_zret 0 0),
  (215, ab_nx 216 (ab_aload 0)),
  (216, ab_nx 217 (ab_iload 3)),
  (217, ab_nx 219 (ab_iload 4)),
  (219, ab_nx 220 (ab_aload 0)),
  (220, ab_nx 223 (ab_getf 11 14)),
  (223, ab_nx 226 (ab_callV 4 11 f_X11_code 0 0 0 0)),
  (226, ab_nx 227 (ab_aload 0)),
  (227, ab_nx 230 (ab_callV 1 11 f_X11_next 0 0 0 0)),
  (230, ab_nx 231 (ab_lit (.int 1))),
  (231, ab_zret 0 0)]
set_option maxRecDepth 100000 in
set_option maxHeartbeats 4000000 in
theorem M_X11_operand {l : Launch} {b : ab_B} {D : va_G} {cA : Nat → ClassId} {f_X11_isWord : List Value → ab_H → Option ab_O} (h_X11_isWord : ab_M l b D ab_cl cA (ab_E0 b) yX11_isWord (Cond.code yX11_isWord cX11_isWord 3 (some .boolean) :: ab_G) ({ frames := 1, cells := 0, slots := 0, locals := 100 } : Room) f_X11_isWord) {f_X11_isSign : List Value → ab_H → Option ab_O} (h_X11_isSign : ab_M l b D ab_cl cA (ab_E0 b) yX11_isSign (Cond.code yX11_isSign cX11_isSign 2 (some .boolean) :: ab_G) ({ frames := 1, cells := 0, slots := 0, locals := 100 } : Room) f_X11_isSign) {f_X11_leafOf : List Value → ab_H → Option ab_O} (h_X11_leafOf : ab_M l b D ab_cl cA (ab_E0 b) yX11_leafOf (Cond.code yX11_leafOf cX11_leafOf 1 (some .int) :: ab_G) ({ frames := 2, cells := 0, slots := 0, locals := 200 } : Room) f_X11_leafOf) {f_X11_bad : List Value → ab_H → Option ab_O} (h_X11_bad : ab_M l b D ab_cl cA (ab_E0 b) yX11_bad (Cond.code yX11_bad cX11_bad 2 (some .boolean) :: ab_G) ({ frames := 1, cells := 0, slots := 0, locals := 100 } : Room) f_X11_bad) {f_X11_next : List Value → ab_H → Option ab_O} (h_X11_next : ab_M l b D ab_cl cA (ab_E0 b) yX11_next (Cond.code yX11_next cX11_next 4 none :: ab_G) ({ frames := 2, cells := 0, slots := 0, locals := 200 } : Room) f_X11_next) {f_X11_takes : List Value → ab_H → Option ab_O} (h_X11_takes : ab_M l b D ab_cl cA (ab_E0 b) yX11_takes (Cond.code yX11_takes cX11_takes 3 (some .boolean) :: ab_G) ({ frames := 3, cells := 0, slots := 0, locals := 300 } : Room) f_X11_takes) {f_X11_code : List Value → ab_H → Option ab_O} (h_X11_code : ab_M l b D ab_cl cA (ab_E0 b) yX11_code (Cond.code yX11_code cX11_code 4 none :: ab_G) ({ frames := 1, cells := 0, slots := 0, locals := 100 } : Room) f_X11_code) : ab_M l b D ab_cl cA (ab_E0 b) yX11_operand (Cond.code yX11_operand cX11_operand 5 (some .boolean) :: ab_G) ({ frames := 4, cells := 0, slots := 0, locals := 400 } : Room) (ab_X (ab_T (L_X11_operand f_X11_isWord f_X11_isSign f_X11_leafOf f_X11_bad f_X11_next f_X11_takes f_X11_code)) 5) := by
  refine ab_meth (ret := (some .boolean)) (L_X11_operand f_X11_isWord f_X11_isSign f_X11_leafOf f_X11_bad f_X11_next f_X11_takes f_X11_code) (by decide) rfl fun p e R s m args below meth c o C => ?_
  unfold L_X11_operand
  refine List.forall_mem_cons.mpr ⟨ok_aload_n C (show decode cX11_operand 0 = .ok (.aload_n 0, 1) by decide +kernel) rfl rfl, ?_⟩
  refine List.forall_mem_cons.mpr ⟨ok_ldc2 C (show decode cX11_operand 1 = .ok (.ldc2_w 117, 3) by decide +kernel) (gm kw_1170) rfl, ?_⟩
  refine List.forall_mem_cons.mpr ⟨ok_callV C h_X11_isWord ⟨rfl, rfl⟩ rfl kw_1340 kw_1337 kw_1339 kp_52 kw_11 rfl ds_X11_isWord ⟨by decide, by decide⟩ (show decode cX11_operand 4 = .ok (.invokevirtual 201, 3) by decide +kernel) rfl, ?_⟩
  refine List.forall_mem_cons.mpr ⟨ok_istore_n C (show decode cX11_operand 7 = .ok (.istore_n 1, 1) by decide +kernel) rfl (by decide) rfl, ?_⟩
  refine List.forall_mem_cons.mpr ⟨ok_aload_n C (show decode cX11_operand 8 = .ok (.aload_n 0, 1) by decide +kernel) rfl rfl, ?_⟩
  refine List.forall_mem_cons.mpr ⟨ok_bipush C (show decode cX11_operand 9 = .ok (.bipush 40, 2) by decide +kernel) (by decide) rfl, ?_⟩
  refine List.forall_mem_cons.mpr ⟨ok_callV C h_X11_isSign ⟨rfl, rfl⟩ rfl kw_1390 kw_1387 kw_1389 kp_63 kw_11 rfl ds_X11_isSign ⟨by decide, by decide⟩ (show decode cX11_operand 11 = .ok (.invokevirtual 170, 3) by decide +kernel) rfl, ?_⟩
  refine List.forall_mem_cons.mpr ⟨ok_istore_n C (show decode cX11_operand 14 = .ok (.istore_n 2, 1) by decide +kernel) rfl (by decide) rfl, ?_⟩
  refine List.forall_mem_cons.mpr ⟨ok_aload_n C (show decode cX11_operand 15 = .ok (.aload_n 0, 1) by decide +kernel) rfl rfl, ?_⟩
  refine List.forall_mem_cons.mpr ⟨ok_callV C h_X11_leafOf ⟨rfl, rfl⟩ rfl kw_1688 kw_1685 kw_1687 kp_101 kw_11 rfl ds_X11_leafOf ⟨by decide, by decide⟩ (show decode cX11_operand 16 = .ok (.invokevirtual 374, 3) by decide +kernel) rfl, ?_⟩
  refine List.forall_mem_cons.mpr ⟨ok_istore_n C (show decode cX11_operand 19 = .ok (.istore_n 3, 1) by decide +kernel) rfl (by decide) rfl, ?_⟩
  refine List.forall_mem_cons.mpr ⟨ok_iload_n C (show decode cX11_operand 20 = .ok (.iload_n 1, 1) by decide +kernel) rfl rfl, ?_⟩
  refine List.forall_mem_cons.mpr ⟨ok_ifne C (show decode cX11_operand 21 = .ok (.ifCond .ne 17, 3) by decide +kernel) (tg := 38) (by decide) rfl rfl, ?_⟩
  refine List.forall_mem_cons.mpr ⟨ok_iload_n C (show decode cX11_operand 24 = .ok (.iload_n 2, 1) by decide +kernel) rfl rfl, ?_⟩
  refine List.forall_mem_cons.mpr ⟨ok_ifne C (show decode cX11_operand 25 = .ok (.ifCond .ne 13, 3) by decide +kernel) (tg := 38) (by decide) rfl rfl, ?_⟩
  refine List.forall_mem_cons.mpr ⟨ok_iload_n C (show decode cX11_operand 28 = .ok (.iload_n 3, 1) by decide +kernel) rfl rfl, ?_⟩
  refine List.forall_mem_cons.mpr ⟨ok_ifge C (show decode cX11_operand 29 = .ok (.ifCond .ge 9, 3) by decide +kernel) (tg := 38) (by decide) rfl rfl, ?_⟩
  refine List.forall_mem_cons.mpr ⟨ok_aload_n C (show decode cX11_operand 32 = .ok (.aload_n 0, 1) by decide +kernel) rfl rfl, ?_⟩
  refine List.forall_mem_cons.mpr ⟨ok_iconst C (show decode cX11_operand 33 = .ok (.iconst 1, 1) by decide +kernel) (by decide) rfl, ?_⟩
  refine List.forall_mem_cons.mpr ⟨ok_callV C h_X11_bad ⟨rfl, rfl⟩ rfl kw_1344 kw_1341 kw_1343 kp_53 kw_11 rfl ds_X11_bad ⟨by decide, by decide⟩ (show decode cX11_operand 34 = .ok (.invokevirtual 173, 3) by decide +kernel) rfl, ?_⟩
  refine List.forall_mem_cons.mpr ⟨ok_zret C rfl (show decode cX11_operand 37 = .ok (.ireturn, 1) by decide +kernel), ?_⟩
  refine List.forall_mem_cons.mpr ⟨ok_aload_n C (show decode cX11_operand 38 = .ok (.aload_n 0, 1) by decide +kernel) rfl rfl, ?_⟩
  refine List.forall_mem_cons.mpr ⟨ok_getf C (wi_X11) rfl (by decide) kw_1215 (show decode cX11_operand 39 = .ok (.getfield 377, 3) by decide +kernel) rfl, ?_⟩
  refine List.forall_mem_cons.mpr ⟨ok_bipush C (show decode cX11_operand 42 = .ok (.bipush 20, 2) by decide +kernel) (by decide) rfl, ?_⟩
  refine List.forall_mem_cons.mpr ⟨ok_icmpeq C (show decode cX11_operand 44 = .ok (.if_icmp .eq 12, 3) by decide +kernel) (tg := 56) (by decide) rfl rfl, ?_⟩
  refine List.forall_mem_cons.mpr ⟨ok_aload_n C (show decode cX11_operand 47 = .ok (.aload_n 0, 1) by decide +kernel) rfl rfl, ?_⟩
  refine List.forall_mem_cons.mpr ⟨ok_getf C (wi_X11) rfl (by decide) kw_1217 (show decode cX11_operand 48 = .ok (.getfield 371, 3) by decide +kernel) rfl, ?_⟩
  refine List.forall_mem_cons.mpr ⟨ok_bipush C (show decode cX11_operand 51 = .ok (.bipush 8, 2) by decide +kernel) (by decide) rfl, ?_⟩
  refine List.forall_mem_cons.mpr ⟨ok_icmple C (show decode cX11_operand 53 = .ok (.if_icmp .le 9, 3) by decide +kernel) (tg := 62) (by decide) rfl rfl, ?_⟩
  refine List.forall_mem_cons.mpr ⟨ok_aload_n C (show decode cX11_operand 56 = .ok (.aload_n 0, 1) by decide +kernel) rfl rfl, ?_⟩
  refine List.forall_mem_cons.mpr ⟨ok_iconst C (show decode cX11_operand 57 = .ok (.iconst 4, 1) by decide +kernel) (by decide) rfl, ?_⟩
  refine List.forall_mem_cons.mpr ⟨ok_callV C h_X11_bad ⟨rfl, rfl⟩ rfl kw_1344 kw_1341 kw_1343 kp_53 kw_11 rfl ds_X11_bad ⟨by decide, by decide⟩ (show decode cX11_operand 58 = .ok (.invokevirtual 173, 3) by decide +kernel) rfl, ?_⟩
  refine List.forall_mem_cons.mpr ⟨ok_zret C rfl (show decode cX11_operand 61 = .ok (.ireturn, 1) by decide +kernel), ?_⟩
  refine List.forall_mem_cons.mpr ⟨ok_aload_n C (show decode cX11_operand 62 = .ok (.aload_n 0, 1) by decide +kernel) rfl rfl, ?_⟩
  refine List.forall_mem_cons.mpr ⟨ok_dup C (show decode cX11_operand 63 = .ok (.dup, 1) by decide +kernel) rfl, ?_⟩
  refine List.forall_mem_cons.mpr ⟨ok_getf C (wi_X11) rfl (by decide) kw_1215 (show decode cX11_operand 64 = .ok (.getfield 377, 3) by decide +kernel) rfl, ?_⟩
  refine List.forall_mem_cons.mpr ⟨ok_iconst C (show decode cX11_operand 67 = .ok (.iconst 1, 1) by decide +kernel) (by decide) rfl, ?_⟩
  refine List.forall_mem_cons.mpr ⟨ok_iadd C (show decode cX11_operand 68 = .ok (.iadd, 1) by decide +kernel) rfl, ?_⟩
  refine List.forall_mem_cons.mpr ⟨ok_putf C (wi_X11) tyX11 tyX11_ok nmX11 rfl (by decide) kw_1215 (Or.inl rfl) (Or.inl ⟨rfl, rfl⟩) (show decode cX11_operand 69 = .ok (.putfield 377, 3) by decide +kernel) rfl, ?_⟩
  refine List.forall_mem_cons.mpr ⟨ok_aload_n C (show decode cX11_operand 72 = .ok (.aload_n 0, 1) by decide +kernel) rfl rfl, ?_⟩
  refine List.forall_mem_cons.mpr ⟨ok_callV C h_X11_next ⟨rfl, rfl⟩ rfl kw_1322 kw_1319 kw_1321 kp_49 kw_11 rfl ds_X11_next ⟨by decide, by decide⟩ (show decode cX11_operand 73 = .ok (.invokevirtual 176, 3) by decide +kernel) rfl, ?_⟩
  refine List.forall_mem_cons.mpr ⟨ok_iload_n C (show decode cX11_operand 76 = .ok (.iload_n 1, 1) by decide +kernel) rfl rfl, ?_⟩
  refine List.forall_mem_cons.mpr ⟨ok_ifne C (show decode cX11_operand 77 = .ok (.ifCond .ne 7, 3) by decide +kernel) (tg := 84) (by decide) rfl rfl, ?_⟩
  refine List.forall_mem_cons.mpr ⟨ok_iload_n C (show decode cX11_operand 80 = .ok (.iload_n 2, 1) by decide +kernel) rfl rfl, ?_⟩
  refine List.forall_mem_cons.mpr ⟨ok_ifeq C (show decode cX11_operand 81 = .ok (.ifCond .eq 45, 3) by decide +kernel) (tg := 126) (by decide) rfl rfl, ?_⟩
  refine List.forall_mem_cons.mpr ⟨ok_aload_n C (show decode cX11_operand 84 = .ok (.aload_n 0, 1) by decide +kernel) rfl rfl, ?_⟩
  refine List.forall_mem_cons.mpr ⟨ok_getf C (wi_X11) rfl (by decide) kw_1213 (show decode cX11_operand 85 = .ok (.getfield 71, 3) by decide +kernel) rfl, ?_⟩
  refine List.forall_mem_cons.mpr ⟨ok_aload_n C (show decode cX11_operand 88 = .ok (.aload_n 0, 1) by decide +kernel) rfl rfl, ?_⟩
  refine List.forall_mem_cons.mpr ⟨ok_getf C (wi_X11) rfl (by decide) kw_1216 (show decode cX11_operand 89 = .ok (.getfield 364, 3) by decide +kernel) rfl, ?_⟩
  refine List.forall_mem_cons.mpr ⟨ok_iload_n C (show decode cX11_operand 92 = .ok (.iload_n 1, 1) by decide +kernel) rfl rfl, ?_⟩
  refine List.forall_mem_cons.mpr ⟨ok_ifeq C (show decode cX11_operand 93 = .ok (.ifCond .eq 8, 3) by decide +kernel) (tg := 101) (by decide) rfl rfl, ?_⟩
  refine List.forall_mem_cons.mpr ⟨ok_bipush C (show decode cX11_operand 96 = .ok (.bipush 20, 2) by decide +kernel) (by decide) rfl, ?_⟩
  refine List.forall_mem_cons.mpr ⟨ok_goto C (show decode cX11_operand 98 = .ok (.goto 5, 3) by decide +kernel) (tg := 103) (by decide) rfl, ?_⟩
  refine List.forall_mem_cons.mpr ⟨ok_bipush C (show decode cX11_operand 101 = .ok (.bipush 23, 2) by decide +kernel) (by decide) rfl, ?_⟩
  refine List.forall_mem_cons.mpr ⟨ok_iastore C (show decode cX11_operand 103 = .ok (.iastore, 1) by decide +kernel) rfl, ?_⟩
  refine List.forall_mem_cons.mpr ⟨ok_aload_n C (show decode cX11_operand 104 = .ok (.aload_n 0, 1) by decide +kernel) rfl rfl, ?_⟩
  refine List.forall_mem_cons.mpr ⟨ok_dup C (show decode cX11_operand 105 = .ok (.dup, 1) by decide +kernel) rfl, ?_⟩
  refine List.forall_mem_cons.mpr ⟨ok_getf C (wi_X11) rfl (by decide) kw_1216 (show decode cX11_operand 106 = .ok (.getfield 364, 3) by decide +kernel) rfl, ?_⟩
  refine List.forall_mem_cons.mpr ⟨ok_iconst C (show decode cX11_operand 109 = .ok (.iconst 1, 1) by decide +kernel) (by decide) rfl, ?_⟩
  refine List.forall_mem_cons.mpr ⟨ok_iadd C (show decode cX11_operand 110 = .ok (.iadd, 1) by decide +kernel) rfl, ?_⟩
  refine List.forall_mem_cons.mpr ⟨ok_putf C (wi_X11) tyX11 tyX11_ok nmX11 rfl (by decide) kw_1216 (Or.inl rfl) (Or.inl ⟨rfl, rfl⟩) (show decode cX11_operand 111 = .ok (.putfield 364, 3) by decide +kernel) rfl, ?_⟩
  refine List.forall_mem_cons.mpr ⟨ok_aload_n C (show decode cX11_operand 114 = .ok (.aload_n 0, 1) by decide +kernel) rfl rfl, ?_⟩
  refine List.forall_mem_cons.mpr ⟨ok_dup C (show decode cX11_operand 115 = .ok (.dup, 1) by decide +kernel) rfl, ?_⟩
  refine List.forall_mem_cons.mpr ⟨ok_getf C (wi_X11) rfl (by decide) kw_1217 (show decode cX11_operand 116 = .ok (.getfield 371, 3) by decide +kernel) rfl, ?_⟩
  refine List.forall_mem_cons.mpr ⟨ok_iconst C (show decode cX11_operand 119 = .ok (.iconst 1, 1) by decide +kernel) (by decide) rfl, ?_⟩
  refine List.forall_mem_cons.mpr ⟨ok_iadd C (show decode cX11_operand 120 = .ok (.iadd, 1) by decide +kernel) rfl, ?_⟩
  refine List.forall_mem_cons.mpr ⟨ok_putf C (wi_X11) tyX11 tyX11_ok nmX11 rfl (by decide) kw_1217 (Or.inl rfl) (Or.inl ⟨rfl, rfl⟩) (show decode cX11_operand 121 = .ok (.putfield 371, 3) by decide +kernel) rfl, ?_⟩
  refine List.forall_mem_cons.mpr ⟨ok_iconst C (show decode cX11_operand 124 = .ok (.iconst 1, 1) by decide +kernel) (by decide) rfl, ?_⟩
  refine List.forall_mem_cons.mpr ⟨ok_zret C rfl (show decode cX11_operand 125 = .ok (.ireturn, 1) by decide +kernel), ?_⟩
  refine List.forall_mem_cons.mpr ⟨ok_aload_n C (show decode cX11_operand 126 = .ok (.aload_n 0, 1) by decide +kernel) rfl rfl, ?_⟩
  refine List.forall_mem_cons.mpr ⟨ok_iconst C (show decode cX11_operand 127 = .ok (.iconst 1, 1) by decide +kernel) (by decide) rfl, ?_⟩
  refine List.forall_mem_cons.mpr ⟨ok_putf C (wi_X11) tyX11 tyX11_ok nmX11 rfl (by decide) kw_1218 (Or.inl rfl) (Or.inr (Or.inr (Or.inr ⟨rfl, rfl⟩))) (show decode cX11_operand 128 = .ok (.putfield 380, 3) by decide +kernel) rfl, ?_⟩
  refine List.forall_mem_cons.mpr ⟨ok_iload_n C (show decode cX11_operand 131 = .ok (.iload_n 3, 1) by decide +kernel) rfl rfl, ?_⟩
  refine List.forall_mem_cons.mpr ⟨ok_iconst C (show decode cX11_operand 132 = .ok (.iconst 5, 1) by decide +kernel) (by decide) rfl, ?_⟩
  refine List.forall_mem_cons.mpr ⟨ok_icmpge C (show decode cX11_operand 133 = .ok (.if_icmp .ge 26, 3) by decide +kernel) (tg := 159) (by decide) rfl rfl, ?_⟩
  refine List.forall_mem_cons.mpr ⟨ok_aload_n C (show decode cX11_operand 136 = .ok (.aload_n 0, 1) by decide +kernel) rfl rfl, ?_⟩
  refine List.forall_mem_cons.mpr ⟨ok_iconst C (show decode cX11_operand 137 = .ok (.iconst 0, 1) by decide +kernel) (by decide) rfl, ?_⟩
  refine List.forall_mem_cons.mpr ⟨ok_iconst C (show decode cX11_operand 138 = .ok (.iconst 1, 1) by decide +kernel) (by decide) rfl, ?_⟩
  refine List.forall_mem_cons.mpr ⟨ok_callV C h_X11_takes ⟨rfl, rfl⟩ rfl kw_1352 kw_1349 kw_1351 kp_55 kw_11 rfl ds_X11_takes ⟨by decide, by decide⟩ (show decode cX11_operand 139 = .ok (.invokevirtual 186, 3) by decide +kernel) rfl, ?_⟩
  refine List.forall_mem_cons.mpr ⟨ok_ifne C (show decode cX11_operand 142 = .ok (.ifCond .ne 5, 3) by decide +kernel) (tg := 147) (by decide) rfl rfl, ?_⟩
  refine List.forall_mem_cons.mpr ⟨ok_iconst C (show decode cX11_operand 145 = .ok (.iconst 0, 1) by decide +kernel) (by decide) rfl, ?_⟩
  refine List.forall_mem_cons.mpr ⟨ok_zret C rfl (show decode cX11_operand 146 = .ok (.ireturn, 1) by decide +kernel), ?_⟩
  refine List.forall_mem_cons.mpr ⟨ok_aload_n C (show decode cX11_operand 147 = .ok (.aload_n 0, 1) by decide +kernel) rfl rfl, ?_⟩
  refine List.forall_mem_cons.mpr ⟨ok_iload_n C (show decode cX11_operand 148 = .ok (.iload_n 3, 1) by decide +kernel) rfl rfl, ?_⟩
  refine List.forall_mem_cons.mpr ⟨ok_iconst C (show decode cX11_operand 149 = .ok (.iconst 0, 1) by decide +kernel) (by decide) rfl, ?_⟩
  refine List.forall_mem_cons.mpr ⟨ok_aload_n C (show decode cX11_operand 150 = .ok (.aload_n 0, 1) by decide +kernel) rfl rfl, ?_⟩
  refine List.forall_mem_cons.mpr ⟨ok_getf C (wi_X11) rfl (by decide) kw_1198 (show decode cX11_operand 151 = .ok (.getfield 183, 3) by decide +kernel) rfl, ?_⟩
  refine List.forall_mem_cons.mpr ⟨ok_callV C h_X11_code ⟨rfl, rfl⟩ rfl kw_1672 kw_1669 kw_1671 kp_97 kw_11 rfl ds_X11_code ⟨by decide, by decide⟩ (show decode cX11_operand 154 = .ok (.invokevirtual 367, 3) by decide +kernel) rfl, ?_⟩
  refine List.forall_mem_cons.mpr ⟨ok_iconst C (show decode cX11_operand 157 = .ok (.iconst 1, 1) by decide +kernel) (by decide) rfl, ?_⟩
  refine List.forall_mem_cons.mpr ⟨ok_zret C rfl (show decode cX11_operand 158 = .ok (.ireturn, 1) by decide +kernel), ?_⟩
  refine List.forall_mem_cons.mpr ⟨ok_aload_n C (show decode cX11_operand 159 = .ok (.aload_n 0, 1) by decide +kernel) rfl rfl, ?_⟩
  refine List.forall_mem_cons.mpr ⟨ok_getf C (wi_X11) rfl (by decide) kw_1191 (show decode cX11_operand 160 = .ok (.getfield 147, 3) by decide +kernel) rfl, ?_⟩
  refine List.forall_mem_cons.mpr ⟨ok_iconst C (show decode cX11_operand 163 = .ok (.iconst 3, 1) by decide +kernel) (by decide) rfl, ?_⟩
  refine List.forall_mem_cons.mpr ⟨ok_icmpne C (show decode cX11_operand 164 = .ok (.if_icmp .ne 21, 3) by decide +kernel) (tg := 185) (by decide) rfl rfl, ?_⟩
  refine List.forall_mem_cons.mpr ⟨ok_aload_n C (show decode cX11_operand 167 = .ok (.aload_n 0, 1) by decide +kernel) rfl rfl, ?_⟩
  refine List.forall_mem_cons.mpr ⟨ok_getf C (wi_X11) rfl (by decide) kw_1194 (show decode cX11_operand 168 = .ok (.getfield 157, 3) by decide +kernel) rfl, ?_⟩
  refine List.forall_mem_cons.mpr ⟨ok_bipush C (show decode cX11_operand 171 = .ok (.bipush 60, 2) by decide +kernel) (by decide) rfl, ?_⟩
  refine List.forall_mem_cons.mpr ⟨ok_icmplt C (show decode cX11_operand 173 = .ok (.if_icmp .lt 12, 3) by decide +kernel) (tg := 185) (by decide) rfl rfl, ?_⟩
  refine List.forall_mem_cons.mpr ⟨ok_aload_n C (show decode cX11_operand 176 = .ok (.aload_n 0, 1) by decide +kernel) rfl rfl, ?_⟩
  refine List.forall_mem_cons.mpr ⟨ok_getf C (wi_X11) rfl (by decide) kw_1194 (show decode cX11_operand 177 = .ok (.getfield 157, 3) by decide +kernel) rfl, ?_⟩
  refine List.forall_mem_cons.mpr ⟨ok_bipush C (show decode cX11_operand 180 = .ok (.bipush 62, 2) by decide +kernel) (by decide) rfl, ?_⟩
  refine List.forall_mem_cons.mpr ⟨ok_icmple C (show decode cX11_operand 182 = .ok (.if_icmp .le 9, 3) by decide +kernel) (tg := 191) (by decide) rfl rfl, ?_⟩
  refine List.forall_mem_cons.mpr ⟨ok_aload_n C (show decode cX11_operand 185 = .ok (.aload_n 0, 1) by decide +kernel) rfl rfl, ?_⟩
  refine List.forall_mem_cons.mpr ⟨ok_iconst C (show decode cX11_operand 186 = .ok (.iconst 1, 1) by decide +kernel) (by decide) rfl, ?_⟩
  refine List.forall_mem_cons.mpr ⟨ok_callV C h_X11_bad ⟨rfl, rfl⟩ rfl kw_1344 kw_1341 kw_1343 kp_53 kw_11 rfl ds_X11_bad ⟨by decide, by decide⟩ (show decode cX11_operand 187 = .ok (.invokevirtual 173, 3) by decide +kernel) rfl, ?_⟩
  refine List.forall_mem_cons.mpr ⟨ok_zret C rfl (show decode cX11_operand 190 = .ok (.ireturn, 1) by decide +kernel), ?_⟩
  refine List.forall_mem_cons.mpr ⟨ok_aload_n C (show decode cX11_operand 191 = .ok (.aload_n 0, 1) by decide +kernel) rfl rfl, ?_⟩
  refine List.forall_mem_cons.mpr ⟨ok_getf C (wi_X11) rfl (by decide) kw_1194 (show decode cX11_operand 192 = .ok (.getfield 157, 3) by decide +kernel) rfl, ?_⟩
  refine List.forall_mem_cons.mpr ⟨ok_istore C (show decode cX11_operand 195 = .ok (.istore 4, 2) by decide +kernel) (by decide) rfl, ?_⟩
  refine List.forall_mem_cons.mpr ⟨ok_aload_n C (show decode cX11_operand 197 = .ok (.aload_n 0, 1) by decide +kernel) rfl rfl, ?_⟩
  refine List.forall_mem_cons.mpr ⟨ok_callV C h_X11_next ⟨rfl, rfl⟩ rfl kw_1322 kw_1319 kw_1321 kp_49 kw_11 rfl ds_X11_next ⟨by decide, by decide⟩ (show decode cX11_operand 198 = .ok (.invokevirtual 176, 3) by decide +kernel) rfl, ?_⟩
  refine List.forall_mem_cons.mpr ⟨ok_aload_n C (show decode cX11_operand 201 = .ok (.aload_n 0, 1) by decide +kernel) rfl rfl, ?_⟩
  refine List.forall_mem_cons.mpr ⟨ok_getf C (wi_X11) rfl (by decide) kw_1191 (show decode cX11_operand 202 = .ok (.getfield 147, 3) by decide +kernel) rfl, ?_⟩
  refine List.forall_mem_cons.mpr ⟨ok_iconst C (show decode cX11_operand 205 = .ok (.iconst 2, 1) by decide +kernel) (by decide) rfl, ?_⟩
  refine List.forall_mem_cons.mpr ⟨ok_icmpeq C (show decode cX11_operand 206 = .ok (.if_icmp .eq 9, 3) by decide +kernel) (tg := 215) (by decide) rfl rfl, ?_⟩
  refine List.forall_mem_cons.mpr ⟨ok_aload_n C (show decode cX11_operand 209 = .ok (.aload_n 0, 1) by decide +kernel) rfl rfl, ?_⟩
  refine List.forall_mem_cons.mpr ⟨ok_iconst C (show decode cX11_operand 210 = .ok (.iconst 1, 1) by decide +kernel) (by decide) rfl, ?_⟩
  refine List.forall_mem_cons.mpr ⟨ok_callV C h_X11_bad ⟨rfl, rfl⟩ rfl kw_1344 kw_1341 kw_1343 kp_53 kw_11 rfl ds_X11_bad ⟨by decide, by decide⟩ (show decode cX11_operand 211 = .ok (.invokevirtual 173, 3) by decide +kernel) rfl, ?_⟩
  refine List.forall_mem_cons.mpr ⟨ok_zret C rfl (show decode cX11_operand 214 = .ok (.ireturn, 1) by decide +kernel), ?_⟩
  refine List.forall_mem_cons.mpr ⟨ok_aload_n C (show decode cX11_operand 215 = .ok (.aload_n 0, 1) by decide +kernel) rfl rfl, ?_⟩
  refine List.forall_mem_cons.mpr ⟨ok_iload_n C (show decode cX11_operand 216 = .ok (.iload_n 3, 1) by decide +kernel) rfl rfl, ?_⟩
  refine List.forall_mem_cons.mpr ⟨ok_iload C (show decode cX11_operand 217 = .ok (.iload 4, 2) by decide +kernel) rfl, ?_⟩
  refine List.forall_mem_cons.mpr ⟨ok_aload_n C (show decode cX11_operand 219 = .ok (.aload_n 0, 1) by decide +kernel) rfl rfl, ?_⟩
  refine List.forall_mem_cons.mpr ⟨ok_getf C (wi_X11) rfl (by decide) kw_1194 (show decode cX11_operand 220 = .ok (.getfield 157, 3) by decide +kernel) rfl, ?_⟩
  refine List.forall_mem_cons.mpr ⟨ok_callV C h_X11_code ⟨rfl, rfl⟩ rfl kw_1672 kw_1669 kw_1671 kp_97 kw_11 rfl ds_X11_code ⟨by decide, by decide⟩ (show decode cX11_operand 223 = .ok (.invokevirtual 367, 3) by decide +kernel) rfl, ?_⟩
  refine List.forall_mem_cons.mpr ⟨ok_aload_n C (show decode cX11_operand 226 = .ok (.aload_n 0, 1) by decide +kernel) rfl rfl, ?_⟩
  refine List.forall_mem_cons.mpr ⟨ok_callV C h_X11_next ⟨rfl, rfl⟩ rfl kw_1322 kw_1319 kw_1321 kp_49 kw_11 rfl ds_X11_next ⟨by decide, by decide⟩ (show decode cX11_operand 227 = .ok (.invokevirtual 176, 3) by decide +kernel) rfl, ?_⟩
  refine List.forall_mem_cons.mpr ⟨ok_iconst C (show decode cX11_operand 230 = .ok (.iconst 1, 1) by decide +kernel) (by decide) rfl, ?_⟩
  refine List.forall_mem_cons.mpr ⟨ok_zret C rfl (show decode cX11_operand 231 = .ok (.ireturn, 1) by decide +kernel), ?_⟩
  exact fun _ h => absurd h List.not_mem_nil
def L_X11_behind (f_X11_nots : List Value → ab_H → Option ab_O) (f_X11_isWord : List Value → ab_H → Option ab_O) (f_X11_joins : List Value → ab_H → Option ab_O) (f_X11_next : List Value → ab_H → Option ab_O) (f_X11_isSign : List Value → ab_H → Option ab_O) (f_X11_bad : List Value → ab_H → Option ab_O) : List (Nat × ab_A) := [
  (0, ab_nx 1 (ab_aload 0)),
  (1, ab_nx 4 (ab_callV 1 11 f_X11_nots 0 0 0 0)),
  (4, ab_nx 5 (ab_aload 0)),
  (5, ab_nx 8 (ab_lit (.long 6385252))),
  (8, ab_nx 11 (ab_callV 2 11 f_X11_isWord 0 0 0 0)),
  (11, ab_if 14 24 (fun x => !decide (x = 0))),
  (14, ab_nx 15 (ab_aload 0)),
  (15, ab_nx 18 (ab_lit (.long 28530))),
  (18, ab_nx 21 (ab_callV 2 11 f_X11_isWord 0 0 0 0)),
  (21, ab_if 24 92 (fun x => decide (x = 0))),
  (24, ab_nx 25 (ab_aload 0)),
  (25, ab_nx 26 (ab_aload 0)),
  (26, ab_nx 29 (ab_lit (.long 6385252))),
  (29, ab_nx 32 (ab_callV 2 11 f_X11_isWord 0 0 0 0)),
  (32, ab_if 35 40 (fun x => decide (x = 0))),
  (35, ab_nx 37 (ab_lit (.int 21))),
  (37, ab_goto 42),
  (40, ab_nx 42 (ab_lit (.int 22))),
  (42, ab_nx 45 (ab_callV 2 11 f_X11_joins 0 0 0 0)),
  (45, ab_nx 46 (ab_aload 0)),
  (46, ab_nx 49 (ab_getf 11 33)),
  (49, ab_nx 50 (ab_aload 0)),
  (50, ab_nx 53 (ab_getf 11 36)),
  (53, ab_nx 54 (ab_aload 0)),
  (54, ab_nx 57 (ab_lit (.long 6385252))),
  (57, ab_nx 60 (ab_callV 2 11 f_X11_isWord 0 0 0 0)),
  (60, ab_if 63 68 (fun x => decide (x = 0))),
  (63, ab_nx 65 (ab_lit (.int 21))),
  (65, ab_goto 70),
  (68, ab_nx 70 (ab_lit (.int 22))),
  (70, ab_nx 71 (ab_ast 1)),
  (71, ab_nx 72 (ab_aload 0)),
  (72, ab_nx 73 ab_dup),
  (73, ab_nx 76 (ab_getf 11 36)),
  (76, ab_nx 77 (ab_lit (.int 1))),
  (77, ab_nx 78 (ab_bin (fun x y => x + y))),
  (78, ab_nx 81 (ab_putf 11 36 0)),
  (81, ab_nx 82 (ab_aload 0)),
  (82, ab_nx 83 (ab_lit (.int 0))),
  (83, ab_nx 86 (ab_putf 11 38 3)),
  (86, ab_nx 87 (ab_aload 0)),
  (87, ab_nx 90 (ab_callV 1 11 f_X11_next 0 0 0 0)),
  (90, ab_nx 91 (ab_lit (.int 1))),
  (91, ab_zret 0 0),
  (92, ab_nx 93 (ab_aload 0)),
  (93, ab_nx 95 (ab_lit (.int 22))),
  (95, ab_nx 98 (ab_callV 2 11 f_X11_joins 0 0 0 0)),
  (98, ab_nx 99 (ab_aload 0)),
  (99, ab_nx 101 (ab_lit (.int 41))),
  (101, ab_nx 104 (ab_callV 2 11 f_X11_isSign 0 0 0 0)),
  (104, ab_if 107 114 (fun x => decide (x = 0))),
  (107, ab_nx 108 (ab_aload 0)),
  (108, ab_nx 111 (ab_getf 11 36)),
  (111, ab_if 114 120 (fun x => !decide (x = 0))),
  (114, ab_nx 115 (ab_aload 0)),
  (115, ab_nx 116 (ab_lit (.int 1))),
  (116, ab_nx 119 (ab_callV 2 11 f_X11_bad 0 0 0 0)),
  (119, ab_zret 0 0),
  (120, ab_nx 121 (ab_aload 0)),
  (121, ab_nx 122 ab_dup),
  (122, ab_nx 125 (ab_getf 11 36)),
  (125, ab_nx 126 (ab_lit (.int 1))),
  (126, ab_nx 127 (ab_bin (fun x y => x - y))),
  (127, ab_nx 130 (ab_putf 11 36 0)),
  (130, ab_nx 131 (ab_aload 0)),
  (131, ab_nx 132 ab_dup),
  (132, ab_nx 135 (ab_getf 11 37)),
  (135, ab_nx 136 (ab_lit (.int 1))),
  (136, ab_nx 137 (ab_bin (fun x y => x - y))),
  (137, ab_nx 140 (ab_putf 11 37 0)),
  (140, ab_nx 141 (ab_aload 0)),
  (141, ab_nx 144 (ab_callV 1 11 f_X11_next 0 0 0 0)),
  (144, ab_nx 145 (ab_lit (.int 1))),
  (145, ab_zret 0 0)]
set_option maxRecDepth 100000 in
set_option maxHeartbeats 4000000 in
theorem M_X11_behind {l : Launch} {b : ab_B} {D : va_G} {cA : Nat → ClassId} {f_X11_nots : List Value → ab_H → Option ab_O} (h_X11_nots : ab_M l b D ab_cl cA (ab_E0 b) yX11_nots (Cond.code yX11_nots cX11_nots 1 none :: ab_G) ({ frames := 2, cells := 0, slots := 0, locals := 200 } : Room) f_X11_nots) {f_X11_isWord : List Value → ab_H → Option ab_O} (h_X11_isWord : ab_M l b D ab_cl cA (ab_E0 b) yX11_isWord (Cond.code yX11_isWord cX11_isWord 3 (some .boolean) :: ab_G) ({ frames := 1, cells := 0, slots := 0, locals := 100 } : Room) f_X11_isWord) {f_X11_joins : List Value → ab_H → Option ab_O} (h_X11_joins : ab_M l b D ab_cl cA (ab_E0 b) yX11_joins (Cond.code yX11_joins cX11_joins 2 none :: ab_G) ({ frames := 2, cells := 0, slots := 0, locals := 200 } : Room) f_X11_joins) {f_X11_next : List Value → ab_H → Option ab_O} (h_X11_next : ab_M l b D ab_cl cA (ab_E0 b) yX11_next (Cond.code yX11_next cX11_next 4 none :: ab_G) ({ frames := 2, cells := 0, slots := 0, locals := 200 } : Room) f_X11_next) {f_X11_isSign : List Value → ab_H → Option ab_O} (h_X11_isSign : ab_M l b D ab_cl cA (ab_E0 b) yX11_isSign (Cond.code yX11_isSign cX11_isSign 2 (some .boolean) :: ab_G) ({ frames := 1, cells := 0, slots := 0, locals := 100 } : Room) f_X11_isSign) {f_X11_bad : List Value → ab_H → Option ab_O} (h_X11_bad : ab_M l b D ab_cl cA (ab_E0 b) yX11_bad (Cond.code yX11_bad cX11_bad 2 (some .boolean) :: ab_G) ({ frames := 1, cells := 0, slots := 0, locals := 100 } : Room) f_X11_bad) : ab_M l b D ab_cl cA (ab_E0 b) yX11_behind (Cond.code yX11_behind cX11_behind 1 (some .boolean) :: ab_G) ({ frames := 3, cells := 0, slots := 0, locals := 300 } : Room) (ab_X (ab_T (L_X11_behind f_X11_nots f_X11_isWord f_X11_joins f_X11_next f_X11_isSign f_X11_bad)) 1) := by
  refine ab_meth (ret := (some .boolean)) (L_X11_behind f_X11_nots f_X11_isWord f_X11_joins f_X11_next f_X11_isSign f_X11_bad) (by decide) rfl fun p e R s m args below meth c o C => ?_
  unfold L_X11_behind
  refine List.forall_mem_cons.mpr ⟨ok_aload_n C (show decode cX11_behind 0 = .ok (.aload_n 0, 1) by decide +kernel) rfl rfl, ?_⟩
  refine List.forall_mem_cons.mpr ⟨ok_callV C h_X11_nots ⟨rfl, rfl⟩ rfl kw_1668 kw_1665 kw_1667 kp_96 kw_11 rfl ds_X11_nots ⟨by decide, by decide⟩ (show decode cX11_behind 1 = .ok (.invokevirtual 383, 3) by decide +kernel) rfl, ?_⟩
  refine List.forall_mem_cons.mpr ⟨ok_aload_n C (show decode cX11_behind 4 = .ok (.aload_n 0, 1) by decide +kernel) rfl rfl, ?_⟩
  refine List.forall_mem_cons.mpr ⟨ok_ldc2 C (show decode cX11_behind 5 = .ok (.ldc2_w 115, 3) by decide +kernel) (gm kw_1169) rfl, ?_⟩
  refine List.forall_mem_cons.mpr ⟨ok_callV C h_X11_isWord ⟨rfl, rfl⟩ rfl kw_1340 kw_1337 kw_1339 kp_52 kw_11 rfl ds_X11_isWord ⟨by decide, by decide⟩ (show decode cX11_behind 8 = .ok (.invokevirtual 201, 3) by decide +kernel) rfl, ?_⟩
  refine List.forall_mem_cons.mpr ⟨ok_ifne C (show decode cX11_behind 11 = .ok (.ifCond .ne 13, 3) by decide +kernel) (tg := 24) (by decide) rfl rfl, ?_⟩
  refine List.forall_mem_cons.mpr ⟨ok_aload_n C (show decode cX11_behind 14 = .ok (.aload_n 0, 1) by decide +kernel) rfl rfl, ?_⟩
  refine List.forall_mem_cons.mpr ⟨ok_ldc2 C (show decode cX11_behind 15 = .ok (.ldc2_w 113, 3) by decide +kernel) (gm kw_1168) rfl, ?_⟩
  refine List.forall_mem_cons.mpr ⟨ok_callV C h_X11_isWord ⟨rfl, rfl⟩ rfl kw_1340 kw_1337 kw_1339 kp_52 kw_11 rfl ds_X11_isWord ⟨by decide, by decide⟩ (show decode cX11_behind 18 = .ok (.invokevirtual 201, 3) by decide +kernel) rfl, ?_⟩
  refine List.forall_mem_cons.mpr ⟨ok_ifeq C (show decode cX11_behind 21 = .ok (.ifCond .eq 71, 3) by decide +kernel) (tg := 92) (by decide) rfl rfl, ?_⟩
  refine List.forall_mem_cons.mpr ⟨ok_aload_n C (show decode cX11_behind 24 = .ok (.aload_n 0, 1) by decide +kernel) rfl rfl, ?_⟩
  refine List.forall_mem_cons.mpr ⟨ok_aload_n C (show decode cX11_behind 25 = .ok (.aload_n 0, 1) by decide +kernel) rfl rfl, ?_⟩
  refine List.forall_mem_cons.mpr ⟨ok_ldc2 C (show decode cX11_behind 26 = .ok (.ldc2_w 115, 3) by decide +kernel) (gm kw_1169) rfl, ?_⟩
  refine List.forall_mem_cons.mpr ⟨ok_callV C h_X11_isWord ⟨rfl, rfl⟩ rfl kw_1340 kw_1337 kw_1339 kp_52 kw_11 rfl ds_X11_isWord ⟨by decide, by decide⟩ (show decode cX11_behind 29 = .ok (.invokevirtual 201, 3) by decide +kernel) rfl, ?_⟩
  refine List.forall_mem_cons.mpr ⟨ok_ifeq C (show decode cX11_behind 32 = .ok (.ifCond .eq 8, 3) by decide +kernel) (tg := 40) (by decide) rfl rfl, ?_⟩
  refine List.forall_mem_cons.mpr ⟨ok_bipush C (show decode cX11_behind 35 = .ok (.bipush 21, 2) by decide +kernel) (by decide) rfl, ?_⟩
  refine List.forall_mem_cons.mpr ⟨ok_goto C (show decode cX11_behind 37 = .ok (.goto 5, 3) by decide +kernel) (tg := 42) (by decide) rfl, ?_⟩
  refine List.forall_mem_cons.mpr ⟨ok_bipush C (show decode cX11_behind 40 = .ok (.bipush 22, 2) by decide +kernel) (by decide) rfl, ?_⟩
  refine List.forall_mem_cons.mpr ⟨ok_callV C h_X11_joins ⟨rfl, rfl⟩ rfl kw_1676 kw_1673 kw_1675 kp_98 kw_11 rfl ds_X11_joins ⟨by decide, by decide⟩ (show decode cX11_behind 42 = .ok (.invokevirtual 386, 3) by decide +kernel) rfl, ?_⟩
  refine List.forall_mem_cons.mpr ⟨ok_aload_n C (show decode cX11_behind 45 = .ok (.aload_n 0, 1) by decide +kernel) rfl rfl, ?_⟩
  refine List.forall_mem_cons.mpr ⟨ok_getf C (wi_X11) rfl (by decide) kw_1213 (show decode cX11_behind 46 = .ok (.getfield 71, 3) by decide +kernel) rfl, ?_⟩
  refine List.forall_mem_cons.mpr ⟨ok_aload_n C (show decode cX11_behind 49 = .ok (.aload_n 0, 1) by decide +kernel) rfl rfl, ?_⟩
  refine List.forall_mem_cons.mpr ⟨ok_getf C (wi_X11) rfl (by decide) kw_1216 (show decode cX11_behind 50 = .ok (.getfield 364, 3) by decide +kernel) rfl, ?_⟩
  refine List.forall_mem_cons.mpr ⟨ok_aload_n C (show decode cX11_behind 53 = .ok (.aload_n 0, 1) by decide +kernel) rfl rfl, ?_⟩
  refine List.forall_mem_cons.mpr ⟨ok_ldc2 C (show decode cX11_behind 54 = .ok (.ldc2_w 115, 3) by decide +kernel) (gm kw_1169) rfl, ?_⟩
  refine List.forall_mem_cons.mpr ⟨ok_callV C h_X11_isWord ⟨rfl, rfl⟩ rfl kw_1340 kw_1337 kw_1339 kp_52 kw_11 rfl ds_X11_isWord ⟨by decide, by decide⟩ (show decode cX11_behind 57 = .ok (.invokevirtual 201, 3) by decide +kernel) rfl, ?_⟩
  refine List.forall_mem_cons.mpr ⟨ok_ifeq C (show decode cX11_behind 60 = .ok (.ifCond .eq 8, 3) by decide +kernel) (tg := 68) (by decide) rfl rfl, ?_⟩
  refine List.forall_mem_cons.mpr ⟨ok_bipush C (show decode cX11_behind 63 = .ok (.bipush 21, 2) by decide +kernel) (by decide) rfl, ?_⟩
  refine List.forall_mem_cons.mpr ⟨ok_goto C (show decode cX11_behind 65 = .ok (.goto 5, 3) by decide +kernel) (tg := 70) (by decide) rfl, ?_⟩
  refine List.forall_mem_cons.mpr ⟨ok_bipush C (show decode cX11_behind 68 = .ok (.bipush 22, 2) by decide +kernel) (by decide) rfl, ?_⟩
  refine List.forall_mem_cons.mpr ⟨ok_iastore C (show decode cX11_behind 70 = .ok (.iastore, 1) by decide +kernel) rfl, ?_⟩
  refine List.forall_mem_cons.mpr ⟨ok_aload_n C (show decode cX11_behind 71 = .ok (.aload_n 0, 1) by decide +kernel) rfl rfl, ?_⟩
  refine List.forall_mem_cons.mpr ⟨ok_dup C (show decode cX11_behind 72 = .ok (.dup, 1) by decide +kernel) rfl, ?_⟩
  refine List.forall_mem_cons.mpr ⟨ok_getf C (wi_X11) rfl (by decide) kw_1216 (show decode cX11_behind 73 = .ok (.getfield 364, 3) by decide +kernel) rfl, ?_⟩
  refine List.forall_mem_cons.mpr ⟨ok_iconst C (show decode cX11_behind 76 = .ok (.iconst 1, 1) by decide +kernel) (by decide) rfl, ?_⟩
  refine List.forall_mem_cons.mpr ⟨ok_iadd C (show decode cX11_behind 77 = .ok (.iadd, 1) by decide +kernel) rfl, ?_⟩
  refine List.forall_mem_cons.mpr ⟨ok_putf C (wi_X11) tyX11 tyX11_ok nmX11 rfl (by decide) kw_1216 (Or.inl rfl) (Or.inl ⟨rfl, rfl⟩) (show decode cX11_behind 78 = .ok (.putfield 364, 3) by decide +kernel) rfl, ?_⟩
  refine List.forall_mem_cons.mpr ⟨ok_aload_n C (show decode cX11_behind 81 = .ok (.aload_n 0, 1) by decide +kernel) rfl rfl, ?_⟩
  refine List.forall_mem_cons.mpr ⟨ok_iconst C (show decode cX11_behind 82 = .ok (.iconst 0, 1) by decide +kernel) (by decide) rfl, ?_⟩
  refine List.forall_mem_cons.mpr ⟨ok_putf C (wi_X11) tyX11 tyX11_ok nmX11 rfl (by decide) kw_1218 (Or.inl rfl) (Or.inr (Or.inr (Or.inr ⟨rfl, rfl⟩))) (show decode cX11_behind 83 = .ok (.putfield 380, 3) by decide +kernel) rfl, ?_⟩
  refine List.forall_mem_cons.mpr ⟨ok_aload_n C (show decode cX11_behind 86 = .ok (.aload_n 0, 1) by decide +kernel) rfl rfl, ?_⟩
  refine List.forall_mem_cons.mpr ⟨ok_callV C h_X11_next ⟨rfl, rfl⟩ rfl kw_1322 kw_1319 kw_1321 kp_49 kw_11 rfl ds_X11_next ⟨by decide, by decide⟩ (show decode cX11_behind 87 = .ok (.invokevirtual 176, 3) by decide +kernel) rfl, ?_⟩
  refine List.forall_mem_cons.mpr ⟨ok_iconst C (show decode cX11_behind 90 = .ok (.iconst 1, 1) by decide +kernel) (by decide) rfl, ?_⟩
  refine List.forall_mem_cons.mpr ⟨ok_zret C rfl (show decode cX11_behind 91 = .ok (.ireturn, 1) by decide +kernel), ?_⟩
  refine List.forall_mem_cons.mpr ⟨ok_aload_n C (show decode cX11_behind 92 = .ok (.aload_n 0, 1) by decide +kernel) rfl rfl, ?_⟩
  refine List.forall_mem_cons.mpr ⟨ok_bipush C (show decode cX11_behind 93 = .ok (.bipush 22, 2) by decide +kernel) (by decide) rfl, ?_⟩
  refine List.forall_mem_cons.mpr ⟨ok_callV C h_X11_joins ⟨rfl, rfl⟩ rfl kw_1676 kw_1673 kw_1675 kp_98 kw_11 rfl ds_X11_joins ⟨by decide, by decide⟩ (show decode cX11_behind 95 = .ok (.invokevirtual 386, 3) by decide +kernel) rfl, ?_⟩
  refine List.forall_mem_cons.mpr ⟨ok_aload_n C (show decode cX11_behind 98 = .ok (.aload_n 0, 1) by decide +kernel) rfl rfl, ?_⟩
  refine List.forall_mem_cons.mpr ⟨ok_bipush C (show decode cX11_behind 99 = .ok (.bipush 41, 2) by decide +kernel) (by decide) rfl, ?_⟩
  refine List.forall_mem_cons.mpr ⟨ok_callV C h_X11_isSign ⟨rfl, rfl⟩ rfl kw_1390 kw_1387 kw_1389 kp_63 kw_11 rfl ds_X11_isSign ⟨by decide, by decide⟩ (show decode cX11_behind 101 = .ok (.invokevirtual 170, 3) by decide +kernel) rfl, ?_⟩
  refine List.forall_mem_cons.mpr ⟨ok_ifeq C (show decode cX11_behind 104 = .ok (.ifCond .eq 10, 3) by decide +kernel) (tg := 114) (by decide) rfl rfl, ?_⟩
  refine List.forall_mem_cons.mpr ⟨ok_aload_n C (show decode cX11_behind 107 = .ok (.aload_n 0, 1) by decide +kernel) rfl rfl, ?_⟩
  refine List.forall_mem_cons.mpr ⟨ok_getf C (wi_X11) rfl (by decide) kw_1216 (show decode cX11_behind 108 = .ok (.getfield 364, 3) by decide +kernel) rfl, ?_⟩
  refine List.forall_mem_cons.mpr ⟨ok_ifne C (show decode cX11_behind 111 = .ok (.ifCond .ne 9, 3) by decide +kernel) (tg := 120) (by decide) rfl rfl, ?_⟩
  refine List.forall_mem_cons.mpr ⟨ok_aload_n C (show decode cX11_behind 114 = .ok (.aload_n 0, 1) by decide +kernel) rfl rfl, ?_⟩
  refine List.forall_mem_cons.mpr ⟨ok_iconst C (show decode cX11_behind 115 = .ok (.iconst 1, 1) by decide +kernel) (by decide) rfl, ?_⟩
  refine List.forall_mem_cons.mpr ⟨ok_callV C h_X11_bad ⟨rfl, rfl⟩ rfl kw_1344 kw_1341 kw_1343 kp_53 kw_11 rfl ds_X11_bad ⟨by decide, by decide⟩ (show decode cX11_behind 116 = .ok (.invokevirtual 173, 3) by decide +kernel) rfl, ?_⟩
  refine List.forall_mem_cons.mpr ⟨ok_zret C rfl (show decode cX11_behind 119 = .ok (.ireturn, 1) by decide +kernel), ?_⟩
  refine List.forall_mem_cons.mpr ⟨ok_aload_n C (show decode cX11_behind 120 = .ok (.aload_n 0, 1) by decide +kernel) rfl rfl, ?_⟩
  refine List.forall_mem_cons.mpr ⟨ok_dup C (show decode cX11_behind 121 = .ok (.dup, 1) by decide +kernel) rfl, ?_⟩
  refine List.forall_mem_cons.mpr ⟨ok_getf C (wi_X11) rfl (by decide) kw_1216 (show decode cX11_behind 122 = .ok (.getfield 364, 3) by decide +kernel) rfl, ?_⟩
  refine List.forall_mem_cons.mpr ⟨ok_iconst C (show decode cX11_behind 125 = .ok (.iconst 1, 1) by decide +kernel) (by decide) rfl, ?_⟩
  refine List.forall_mem_cons.mpr ⟨ok_isub C (show decode cX11_behind 126 = .ok (.isub, 1) by decide +kernel) rfl, ?_⟩
  refine List.forall_mem_cons.mpr ⟨ok_putf C (wi_X11) tyX11 tyX11_ok nmX11 rfl (by decide) kw_1216 (Or.inl rfl) (Or.inl ⟨rfl, rfl⟩) (show decode cX11_behind 127 = .ok (.putfield 364, 3) by decide +kernel) rfl, ?_⟩
  refine List.forall_mem_cons.mpr ⟨ok_aload_n C (show decode cX11_behind 130 = .ok (.aload_n 0, 1) by decide +kernel) rfl rfl, ?_⟩
  refine List.forall_mem_cons.mpr ⟨ok_dup C (show decode cX11_behind 131 = .ok (.dup, 1) by decide +kernel) rfl, ?_⟩
  refine List.forall_mem_cons.mpr ⟨ok_getf C (wi_X11) rfl (by decide) kw_1217 (show decode cX11_behind 132 = .ok (.getfield 371, 3) by decide +kernel) rfl, ?_⟩
  refine List.forall_mem_cons.mpr ⟨ok_iconst C (show decode cX11_behind 135 = .ok (.iconst 1, 1) by decide +kernel) (by decide) rfl, ?_⟩
  refine List.forall_mem_cons.mpr ⟨ok_isub C (show decode cX11_behind 136 = .ok (.isub, 1) by decide +kernel) rfl, ?_⟩
  refine List.forall_mem_cons.mpr ⟨ok_putf C (wi_X11) tyX11 tyX11_ok nmX11 rfl (by decide) kw_1217 (Or.inl rfl) (Or.inl ⟨rfl, rfl⟩) (show decode cX11_behind 137 = .ok (.putfield 371, 3) by decide +kernel) rfl, ?_⟩
  refine List.forall_mem_cons.mpr ⟨ok_aload_n C (show decode cX11_behind 140 = .ok (.aload_n 0, 1) by decide +kernel) rfl rfl, ?_⟩
  refine List.forall_mem_cons.mpr ⟨ok_callV C h_X11_next ⟨rfl, rfl⟩ rfl kw_1322 kw_1319 kw_1321 kp_49 kw_11 rfl ds_X11_next ⟨by decide, by decide⟩ (show decode cX11_behind 141 = .ok (.invokevirtual 176, 3) by decide +kernel) rfl, ?_⟩
  refine List.forall_mem_cons.mpr ⟨ok_iconst C (show decode cX11_behind 144 = .ok (.iconst 1, 1) by decide +kernel) (by decide) rfl, ?_⟩
  refine List.forall_mem_cons.mpr ⟨ok_zret C rfl (show decode cX11_behind 145 = .ok (.ireturn, 1) by decide +kernel), ?_⟩
  exact fun _ h => absurd h List.not_mem_nil
def L_X11_sentence (f_X11_taken : List Value → ab_H → Option ab_O) (f_X11_next : List Value → ab_H → Option ab_O) (f_X11_nots : List Value → ab_H → Option ab_O) (f_X11_joins : List Value → ab_H → Option ab_O) (f_X11_bad : List Value → ab_H → Option ab_O) (f_X11_behind : List Value → ab_H → Option ab_O) (f_X11_operand : List Value → ab_H → Option ab_O) : List (Nat × ab_A) := [
  (0, ab_nx 1 (ab_aload 0)),
  (1, ab_nx 2 (ab_lit (.int 0))),
  (2, ab_nx 5 (ab_putf 11 0 0)),
  (5, ab_nx 6 (ab_aload 0)),
  (6, ab_nx 9 (ab_lit (.int 200))),
  (9, ab_nx 12 (ab_callV 2 11 f_X11_taken 0 0 0 0)),
  (12, ab_nx 13 (ab_aload 0)),
  (13, ab_nx 14 (ab_lit (.int 0))),
  (14, ab_nx 17 (ab_putf 11 15 0)),
  (17, ab_nx 18 (ab_aload 0)),
  (18, ab_nx 19 (ab_lit (.int 0))),
  (19, ab_nx 22 (ab_putf 11 34 0)),
  (22, ab_nx 23 (ab_aload 0)),
  (23, ab_nx 24 (ab_lit (.int 0))),
  (24, ab_nx 27 (ab_putf 11 35 0)),
  (27, ab_nx 28 (ab_aload 0)),
  (28, ab_nx 29 (ab_lit (.int 0))),
  (29, ab_nx 32 (ab_putf 11 36 0)),
  (32, ab_nx 33 (ab_aload 0)),
  (33, ab_nx 34 (ab_lit (.int 1))),
  (34, ab_nx 37 (ab_putf 11 37 0)),
  (37, ab_nx 38 (ab_aload 0)),
  (38, ab_nx 39 (ab_lit (.int 0))),
  (39, ab_nx 42 (ab_putf 11 38 3)),
  (42, ab_nx 43 (ab_aload 0)),
  (43, ab_nx 46 (ab_callV 1 11 f_X11_next 0 0 0 0)),
  (46, ab_nx 47 (ab_lit (.int 1))),
  (47, ab_nx 48 (ab_istore 1)),
  (48, ab_nx 49 (ab_iload 1)),
  (49, ab_if 52 132 (fun x => decide (x = 0))),
  (52, ab_nx 53 (ab_aload 0)),
  (53, ab_nx 56 (ab_getf 11 38)),
  (56, ab_if 59 101 (fun x => decide (x = 0))),
  (59, ab_nx 60 (ab_aload 0)),
  (60, ab_nx 63 (ab_getf 11 11)),
  (63, ab_if 66 101 (fun x => !decide (x = 0))),
  (66, ab_nx 67 (ab_aload 0)),
  (67, ab_nx 70 (ab_callV 1 11 f_X11_nots 0 0 0 0)),
  (70, ab_nx 71 (ab_aload 0)),
  (71, ab_nx 73 (ab_lit (.int 22))),
  (73, ab_nx 76 (ab_callV 2 11 f_X11_joins 0 0 0 0)),
  (76, ab_nx 77 (ab_aload 0)),
  (77, ab_nx 80 (ab_getf 11 36)),
  (80, ab_if 83 96 (fun x => decide (x ≤ 0))),
  (83, ab_nx 84 (ab_aload 0)),
  (84, ab_nx 85 (ab_lit (.int 1))),
  (85, ab_nx 88 (ab_callV 2 11 f_X11_bad 0 0 0 0)),
  (88, ab_nx 89 ab_pop),
  (89, ab_nx 90 (ab_lit (.int (-1)))),
  (90, ab_nx 91 (ab_aload 0)),
  (91, ab_nx 94 (ab_getf 11 16)),
  (94, ab_nx 95 (ab_bin (fun x y => x - y))),
  (95, ab_ret 0 0),
  (96, ab_nx 97 (ab_lit (.int 0))),
  (97, ab_nx 98 (ab_istore 1)),
  (98, ab_goto 48),
  (101, ab_nx 102 (ab_aload 0)),
  (102, ab_nx 105 (ab_getf 11 38)),
  (105, ab_if 108 118 (fun x => decide (x = 0))),
  (108, ab_nx 109 (ab_aload 0)),
  (109, ab_nx 112 (ab_callV 1 11 f_X11_behind 0 0 0 0)),
  (112, ab_if 115 48 (fun x => !decide (x = 0))),
  (115, ab_goto 125),
  (118, ab_nx 119 (ab_aload 0)),
  (119, ab_nx 122 (ab_callV 1 11 f_X11_operand 0 0 0 0)),
  (122, ab_if 125 48 (fun x => !decide (x = 0))),
  (125, ab_nx 126 (ab_lit (.int (-1)))),
  (126, ab_nx 127 (ab_aload 0)),
  (127, ab_nx 130 (ab_getf 11 16)),
  (130, ab_nx 131 (ab_bin (fun x y => x - y))),
  (131, ab_ret 0 0),
  (132, ab_nx 133 (ab_aload 0)),
  (133, ab_nx 136 (ab_getf 11 6)),
  (136, ab_nx 139 (ab_lit (.int 253))),
  (139, ab_nx 140 (ab_aload 0)),
  (140, ab_nx 143 (ab_getf 11 34)),
  (143, ab_nx 144 (ab_ast 1)),
  (144, ab_nx 145 (ab_lit (.int 0))),
  (145, ab_nx 146 (ab_istore 2)),
  (146, ab_nx 147 (ab_iload 2)),
  (147, ab_nx 148 (ab_lit (.int 3))),
  (148, ab_nx 149 (ab_aload 0)),
  (149, ab_nx 152 (ab_getf 11 34)),
  (152, ab_nx 153 (ab_bin (fun x y => x * y))),
  (153, ab_icmp 156 178 (fun x y => decide (y ≤ x))),
  (156, ab_nx 157 (ab_aload 0)),
  (157, ab_nx 160 (ab_getf 11 6)),
  (160, ab_nx 163 (ab_lit (.int 254))),
  (163, ab_nx 164 (ab_iload 2)),
  (164, ab_nx 165 (ab_bin (fun x y => x + y))),
  (165, ab_nx 166 (ab_aload 0)),
  (166, ab_nx 169 (ab_getf 11 8)),
  (169, ab_nx 170 (ab_iload 2)),
  (170, ab_nx 171 (ab_ald 1)),
  (171, ab_nx 172 (ab_ast 1)),
  (172, ab_nx 175 (ab_iinc 2 1)),
  (175, ab_goto 146),
  (178, ab_nx 179 (ab_aload 0)),
  (179, ab_nx 182 (ab_getf 11 35)),
  (182, ab_ret 0 0)]
set_option maxRecDepth 100000 in
set_option maxHeartbeats 4000000 in
theorem M_X11_sentence {l : Launch} {b : ab_B} {D : va_G} {cA : Nat → ClassId} {f_X11_taken : List Value → ab_H → Option ab_O} (h_X11_taken : ab_M l b D ab_cl cA (ab_E0 b) yX11_taken (Cond.code yX11_taken cX11_taken 2 none :: ab_G) ({ frames := 1, cells := 0, slots := 0, locals := 100 } : Room) f_X11_taken) {f_X11_next : List Value → ab_H → Option ab_O} (h_X11_next : ab_M l b D ab_cl cA (ab_E0 b) yX11_next (Cond.code yX11_next cX11_next 4 none :: ab_G) ({ frames := 2, cells := 0, slots := 0, locals := 200 } : Room) f_X11_next) {f_X11_nots : List Value → ab_H → Option ab_O} (h_X11_nots : ab_M l b D ab_cl cA (ab_E0 b) yX11_nots (Cond.code yX11_nots cX11_nots 1 none :: ab_G) ({ frames := 2, cells := 0, slots := 0, locals := 200 } : Room) f_X11_nots) {f_X11_joins : List Value → ab_H → Option ab_O} (h_X11_joins : ab_M l b D ab_cl cA (ab_E0 b) yX11_joins (Cond.code yX11_joins cX11_joins 2 none :: ab_G) ({ frames := 2, cells := 0, slots := 0, locals := 200 } : Room) f_X11_joins) {f_X11_bad : List Value → ab_H → Option ab_O} (h_X11_bad : ab_M l b D ab_cl cA (ab_E0 b) yX11_bad (Cond.code yX11_bad cX11_bad 2 (some .boolean) :: ab_G) ({ frames := 1, cells := 0, slots := 0, locals := 100 } : Room) f_X11_bad) {f_X11_behind : List Value → ab_H → Option ab_O} (h_X11_behind : ab_M l b D ab_cl cA (ab_E0 b) yX11_behind (Cond.code yX11_behind cX11_behind 1 (some .boolean) :: ab_G) ({ frames := 3, cells := 0, slots := 0, locals := 300 } : Room) f_X11_behind) {f_X11_operand : List Value → ab_H → Option ab_O} (h_X11_operand : ab_M l b D ab_cl cA (ab_E0 b) yX11_operand (Cond.code yX11_operand cX11_operand 5 (some .boolean) :: ab_G) ({ frames := 4, cells := 0, slots := 0, locals := 400 } : Room) f_X11_operand) : ab_M l b D ab_cl cA (ab_E0 b) yX11_sentence (Cond.code yX11_sentence cX11_sentence 3 (some .int) :: ab_G) ({ frames := 5, cells := 0, slots := 0, locals := 500 } : Room) (ab_X (ab_T (L_X11_sentence f_X11_taken f_X11_next f_X11_nots f_X11_joins f_X11_bad f_X11_behind f_X11_operand)) 3) := by
  refine ab_meth (ret := (some .int)) (L_X11_sentence f_X11_taken f_X11_next f_X11_nots f_X11_joins f_X11_bad f_X11_behind f_X11_operand) (by decide) rfl fun p e R s m args below meth c o C => ?_
  unfold L_X11_sentence
  refine List.forall_mem_cons.mpr ⟨ok_aload_n C (show decode cX11_sentence 0 = .ok (.aload_n 0, 1) by decide +kernel) rfl rfl, ?_⟩
  refine List.forall_mem_cons.mpr ⟨ok_iconst C (show decode cX11_sentence 1 = .ok (.iconst 0, 1) by decide +kernel) (by decide) rfl, ?_⟩
  refine List.forall_mem_cons.mpr ⟨ok_putf C (wi_X11) tyX11 tyX11_ok nmX11 rfl (by decide) kw_1180 (Or.inl rfl) (Or.inl ⟨rfl, rfl⟩) (show decode cX11_sentence 2 = .ok (.putfield 1, 3) by decide +kernel) rfl, ?_⟩
  refine List.forall_mem_cons.mpr ⟨ok_aload_n C (show decode cX11_sentence 5 = .ok (.aload_n 0, 1) by decide +kernel) rfl rfl, ?_⟩
  refine List.forall_mem_cons.mpr ⟨ok_sipush C (show decode cX11_sentence 6 = .ok (.sipush 200, 3) by decide +kernel) (by decide) rfl, ?_⟩
  refine List.forall_mem_cons.mpr ⟨ok_callV C h_X11_taken ⟨rfl, rfl⟩ rfl kw_1318 kw_1315 kw_1317 kp_48 kw_11 rfl ds_X11_taken ⟨by decide, by decide⟩ (show decode cX11_sentence 9 = .ok (.invokevirtual 224, 3) by decide +kernel) rfl, ?_⟩
  refine List.forall_mem_cons.mpr ⟨ok_aload_n C (show decode cX11_sentence 12 = .ok (.aload_n 0, 1) by decide +kernel) rfl rfl, ?_⟩
  refine List.forall_mem_cons.mpr ⟨ok_iconst C (show decode cX11_sentence 13 = .ok (.iconst 0, 1) by decide +kernel) (by decide) rfl, ?_⟩
  refine List.forall_mem_cons.mpr ⟨ok_putf C (wi_X11) tyX11 tyX11_ok nmX11 rfl (by decide) kw_1195 (Or.inl rfl) (Or.inl ⟨rfl, rfl⟩) (show decode cX11_sentence 14 = .ok (.putfield 164, 3) by decide +kernel) rfl, ?_⟩
  refine List.forall_mem_cons.mpr ⟨ok_aload_n C (show decode cX11_sentence 17 = .ok (.aload_n 0, 1) by decide +kernel) rfl rfl, ?_⟩
  refine List.forall_mem_cons.mpr ⟨ok_iconst C (show decode cX11_sentence 18 = .ok (.iconst 0, 1) by decide +kernel) (by decide) rfl, ?_⟩
  refine List.forall_mem_cons.mpr ⟨ok_putf C (wi_X11) tyX11 tyX11_ok nmX11 rfl (by decide) kw_1214 (Or.inl rfl) (Or.inl ⟨rfl, rfl⟩) (show decode cX11_sentence 19 = .ok (.putfield 361, 3) by decide +kernel) rfl, ?_⟩
  refine List.forall_mem_cons.mpr ⟨ok_aload_n C (show decode cX11_sentence 22 = .ok (.aload_n 0, 1) by decide +kernel) rfl rfl, ?_⟩
  refine List.forall_mem_cons.mpr ⟨ok_iconst C (show decode cX11_sentence 23 = .ok (.iconst 0, 1) by decide +kernel) (by decide) rfl, ?_⟩
  refine List.forall_mem_cons.mpr ⟨ok_putf C (wi_X11) tyX11 tyX11_ok nmX11 rfl (by decide) kw_1215 (Or.inl rfl) (Or.inl ⟨rfl, rfl⟩) (show decode cX11_sentence 24 = .ok (.putfield 377, 3) by decide +kernel) rfl, ?_⟩
  refine List.forall_mem_cons.mpr ⟨ok_aload_n C (show decode cX11_sentence 27 = .ok (.aload_n 0, 1) by decide +kernel) rfl rfl, ?_⟩
  refine List.forall_mem_cons.mpr ⟨ok_iconst C (show decode cX11_sentence 28 = .ok (.iconst 0, 1) by decide +kernel) (by decide) rfl, ?_⟩
  refine List.forall_mem_cons.mpr ⟨ok_putf C (wi_X11) tyX11 tyX11_ok nmX11 rfl (by decide) kw_1216 (Or.inl rfl) (Or.inl ⟨rfl, rfl⟩) (show decode cX11_sentence 29 = .ok (.putfield 364, 3) by decide +kernel) rfl, ?_⟩
  refine List.forall_mem_cons.mpr ⟨ok_aload_n C (show decode cX11_sentence 32 = .ok (.aload_n 0, 1) by decide +kernel) rfl rfl, ?_⟩
  refine List.forall_mem_cons.mpr ⟨ok_iconst C (show decode cX11_sentence 33 = .ok (.iconst 1, 1) by decide +kernel) (by decide) rfl, ?_⟩
  refine List.forall_mem_cons.mpr ⟨ok_putf C (wi_X11) tyX11 tyX11_ok nmX11 rfl (by decide) kw_1217 (Or.inl rfl) (Or.inl ⟨rfl, rfl⟩) (show decode cX11_sentence 34 = .ok (.putfield 371, 3) by decide +kernel) rfl, ?_⟩
  refine List.forall_mem_cons.mpr ⟨ok_aload_n C (show decode cX11_sentence 37 = .ok (.aload_n 0, 1) by decide +kernel) rfl rfl, ?_⟩
  refine List.forall_mem_cons.mpr ⟨ok_iconst C (show decode cX11_sentence 38 = .ok (.iconst 0, 1) by decide +kernel) (by decide) rfl, ?_⟩
  refine List.forall_mem_cons.mpr ⟨ok_putf C (wi_X11) tyX11 tyX11_ok nmX11 rfl (by decide) kw_1218 (Or.inl rfl) (Or.inr (Or.inr (Or.inr ⟨rfl, rfl⟩))) (show decode cX11_sentence 39 = .ok (.putfield 380, 3) by decide +kernel) rfl, ?_⟩
  refine List.forall_mem_cons.mpr ⟨ok_aload_n C (show decode cX11_sentence 42 = .ok (.aload_n 0, 1) by decide +kernel) rfl rfl, ?_⟩
  refine List.forall_mem_cons.mpr ⟨ok_callV C h_X11_next ⟨rfl, rfl⟩ rfl kw_1322 kw_1319 kw_1321 kp_49 kw_11 rfl ds_X11_next ⟨by decide, by decide⟩ (show decode cX11_sentence 43 = .ok (.invokevirtual 176, 3) by decide +kernel) rfl, ?_⟩
  refine List.forall_mem_cons.mpr ⟨ok_iconst C (show decode cX11_sentence 46 = .ok (.iconst 1, 1) by decide +kernel) (by decide) rfl, ?_⟩
  refine List.forall_mem_cons.mpr ⟨ok_istore_n C (show decode cX11_sentence 47 = .ok (.istore_n 1, 1) by decide +kernel) rfl (by decide) rfl, ?_⟩
  refine List.forall_mem_cons.mpr ⟨ok_iload_n C (show decode cX11_sentence 48 = .ok (.iload_n 1, 1) by decide +kernel) rfl rfl, ?_⟩
  refine List.forall_mem_cons.mpr ⟨ok_ifeq C (show decode cX11_sentence 49 = .ok (.ifCond .eq 83, 3) by decide +kernel) (tg := 132) (by decide) rfl rfl, ?_⟩
  refine List.forall_mem_cons.mpr ⟨ok_aload_n C (show decode cX11_sentence 52 = .ok (.aload_n 0, 1) by decide +kernel) rfl rfl, ?_⟩
  refine List.forall_mem_cons.mpr ⟨ok_getf C (wi_X11) rfl (by decide) kw_1218 (show decode cX11_sentence 53 = .ok (.getfield 380, 3) by decide +kernel) rfl, ?_⟩
  refine List.forall_mem_cons.mpr ⟨ok_ifeq C (show decode cX11_sentence 56 = .ok (.ifCond .eq 45, 3) by decide +kernel) (tg := 101) (by decide) rfl rfl, ?_⟩
  refine List.forall_mem_cons.mpr ⟨ok_aload_n C (show decode cX11_sentence 59 = .ok (.aload_n 0, 1) by decide +kernel) rfl rfl, ?_⟩
  refine List.forall_mem_cons.mpr ⟨ok_getf C (wi_X11) rfl (by decide) kw_1191 (show decode cX11_sentence 60 = .ok (.getfield 147, 3) by decide +kernel) rfl, ?_⟩
  refine List.forall_mem_cons.mpr ⟨ok_ifne C (show decode cX11_sentence 63 = .ok (.ifCond .ne 38, 3) by decide +kernel) (tg := 101) (by decide) rfl rfl, ?_⟩
  refine List.forall_mem_cons.mpr ⟨ok_aload_n C (show decode cX11_sentence 66 = .ok (.aload_n 0, 1) by decide +kernel) rfl rfl, ?_⟩
  refine List.forall_mem_cons.mpr ⟨ok_callV C h_X11_nots ⟨rfl, rfl⟩ rfl kw_1668 kw_1665 kw_1667 kp_96 kw_11 rfl ds_X11_nots ⟨by decide, by decide⟩ (show decode cX11_sentence 67 = .ok (.invokevirtual 383, 3) by decide +kernel) rfl, ?_⟩
  refine List.forall_mem_cons.mpr ⟨ok_aload_n C (show decode cX11_sentence 70 = .ok (.aload_n 0, 1) by decide +kernel) rfl rfl, ?_⟩
  refine List.forall_mem_cons.mpr ⟨ok_bipush C (show decode cX11_sentence 71 = .ok (.bipush 22, 2) by decide +kernel) (by decide) rfl, ?_⟩
  refine List.forall_mem_cons.mpr ⟨ok_callV C h_X11_joins ⟨rfl, rfl⟩ rfl kw_1676 kw_1673 kw_1675 kp_98 kw_11 rfl ds_X11_joins ⟨by decide, by decide⟩ (show decode cX11_sentence 73 = .ok (.invokevirtual 386, 3) by decide +kernel) rfl, ?_⟩
  refine List.forall_mem_cons.mpr ⟨ok_aload_n C (show decode cX11_sentence 76 = .ok (.aload_n 0, 1) by decide +kernel) rfl rfl, ?_⟩
  refine List.forall_mem_cons.mpr ⟨ok_getf C (wi_X11) rfl (by decide) kw_1216 (show decode cX11_sentence 77 = .ok (.getfield 364, 3) by decide +kernel) rfl, ?_⟩
  refine List.forall_mem_cons.mpr ⟨ok_ifle C (show decode cX11_sentence 80 = .ok (.ifCond .le 16, 3) by decide +kernel) (tg := 96) (by decide) rfl rfl, ?_⟩
  refine List.forall_mem_cons.mpr ⟨ok_aload_n C (show decode cX11_sentence 83 = .ok (.aload_n 0, 1) by decide +kernel) rfl rfl, ?_⟩
  refine List.forall_mem_cons.mpr ⟨ok_iconst C (show decode cX11_sentence 84 = .ok (.iconst 1, 1) by decide +kernel) (by decide) rfl, ?_⟩
  refine List.forall_mem_cons.mpr ⟨ok_callV C h_X11_bad ⟨rfl, rfl⟩ rfl kw_1344 kw_1341 kw_1343 kp_53 kw_11 rfl ds_X11_bad ⟨by decide, by decide⟩ (show decode cX11_sentence 85 = .ok (.invokevirtual 173, 3) by decide +kernel) rfl, ?_⟩
  refine List.forall_mem_cons.mpr ⟨ok_pop C (show decode cX11_sentence 88 = .ok (.pop, 1) by decide +kernel) rfl, ?_⟩
  refine List.forall_mem_cons.mpr ⟨ok_iconst C (show decode cX11_sentence 89 = .ok (.iconst (-1), 1) by decide +kernel) (by decide) rfl, ?_⟩
  refine List.forall_mem_cons.mpr ⟨ok_aload_n C (show decode cX11_sentence 90 = .ok (.aload_n 0, 1) by decide +kernel) rfl rfl, ?_⟩
  refine List.forall_mem_cons.mpr ⟨ok_getf C (wi_X11) rfl (by decide) kw_1196 (show decode cX11_sentence 91 = .ok (.getfield 167, 3) by decide +kernel) rfl, ?_⟩
  refine List.forall_mem_cons.mpr ⟨ok_isub C (show decode cX11_sentence 94 = .ok (.isub, 1) by decide +kernel) rfl, ?_⟩
  refine List.forall_mem_cons.mpr ⟨ok_ret C rfl (show decode cX11_sentence 95 = .ok (.ireturn, 1) by decide +kernel), ?_⟩
  refine List.forall_mem_cons.mpr ⟨ok_iconst C (show decode cX11_sentence 96 = .ok (.iconst 0, 1) by decide +kernel) (by decide) rfl, ?_⟩
  refine List.forall_mem_cons.mpr ⟨ok_istore_n C (show decode cX11_sentence 97 = .ok (.istore_n 1, 1) by decide +kernel) rfl (by decide) rfl, ?_⟩
  refine List.forall_mem_cons.mpr ⟨ok_goto C (show decode cX11_sentence 98 = .ok (.goto (-50), 3) by decide +kernel) (tg := 48) (by decide) rfl, ?_⟩
  refine List.forall_mem_cons.mpr ⟨ok_aload_n C (show decode cX11_sentence 101 = .ok (.aload_n 0, 1) by decide +kernel) rfl rfl, ?_⟩
  refine List.forall_mem_cons.mpr ⟨ok_getf C (wi_X11) rfl (by decide) kw_1218 (show decode cX11_sentence 102 = .ok (.getfield 380, 3) by decide +kernel) rfl, ?_⟩
  refine List.forall_mem_cons.mpr ⟨ok_ifeq C (show decode cX11_sentence 105 = .ok (.ifCond .eq 13, 3) by decide +kernel) (tg := 118) (by decide) rfl rfl, ?_⟩
  refine List.forall_mem_cons.mpr ⟨ok_aload_n C (show decode cX11_sentence 108 = .ok (.aload_n 0, 1) by decide +kernel) rfl rfl, ?_⟩
  refine List.forall_mem_cons.mpr ⟨ok_callV C h_X11_behind ⟨rfl, rfl⟩ rfl kw_1680 kw_1677 kw_1679 kp_99 kw_11 rfl ds_X11_behind ⟨by decide, by decide⟩ (show decode cX11_sentence 109 = .ok (.invokevirtual 389, 3) by decide +kernel) rfl, ?_⟩
  refine List.forall_mem_cons.mpr ⟨ok_ifne C (show decode cX11_sentence 112 = .ok (.ifCond .ne (-64), 3) by decide +kernel) (tg := 48) (by decide) rfl rfl, ?_⟩
  refine List.forall_mem_cons.mpr ⟨ok_goto C (show decode cX11_sentence 115 = .ok (.goto 10, 3) by decide +kernel) (tg := 125) (by decide) rfl, ?_⟩
  refine List.forall_mem_cons.mpr ⟨ok_aload_n C (show decode cX11_sentence 118 = .ok (.aload_n 0, 1) by decide +kernel) rfl rfl, ?_⟩
  refine List.forall_mem_cons.mpr ⟨ok_callV C h_X11_operand ⟨rfl, rfl⟩ rfl kw_1684 kw_1681 kw_1683 kp_100 kw_11 rfl ds_X11_operand ⟨by decide, by decide⟩ (show decode cX11_sentence 119 = .ok (.invokevirtual 392, 3) by decide +kernel) rfl, ?_⟩
  refine List.forall_mem_cons.mpr ⟨ok_ifne C (show decode cX11_sentence 122 = .ok (.ifCond .ne (-74), 3) by decide +kernel) (tg := 48) (by decide) rfl rfl, ?_⟩
  refine List.forall_mem_cons.mpr ⟨ok_iconst C (show decode cX11_sentence 125 = .ok (.iconst (-1), 1) by decide +kernel) (by decide) rfl, ?_⟩
  refine List.forall_mem_cons.mpr ⟨ok_aload_n C (show decode cX11_sentence 126 = .ok (.aload_n 0, 1) by decide +kernel) rfl rfl, ?_⟩
  refine List.forall_mem_cons.mpr ⟨ok_getf C (wi_X11) rfl (by decide) kw_1196 (show decode cX11_sentence 127 = .ok (.getfield 167, 3) by decide +kernel) rfl, ?_⟩
  refine List.forall_mem_cons.mpr ⟨ok_isub C (show decode cX11_sentence 130 = .ok (.isub, 1) by decide +kernel) rfl, ?_⟩
  refine List.forall_mem_cons.mpr ⟨ok_ret C rfl (show decode cX11_sentence 131 = .ok (.ireturn, 1) by decide +kernel), ?_⟩
  refine List.forall_mem_cons.mpr ⟨ok_aload_n C (show decode cX11_sentence 132 = .ok (.aload_n 0, 1) by decide +kernel) rfl rfl, ?_⟩
  refine List.forall_mem_cons.mpr ⟨ok_getf C (wi_X11) rfl (by decide) kw_1186 (show decode cX11_sentence 133 = .ok (.getfield 33, 3) by decide +kernel) rfl, ?_⟩
  refine List.forall_mem_cons.mpr ⟨ok_sipush C (show decode cX11_sentence 136 = .ok (.sipush 253, 3) by decide +kernel) (by decide) rfl, ?_⟩
  refine List.forall_mem_cons.mpr ⟨ok_aload_n C (show decode cX11_sentence 139 = .ok (.aload_n 0, 1) by decide +kernel) rfl rfl, ?_⟩
  refine List.forall_mem_cons.mpr ⟨ok_getf C (wi_X11) rfl (by decide) kw_1214 (show decode cX11_sentence 140 = .ok (.getfield 361, 3) by decide +kernel) rfl, ?_⟩
  refine List.forall_mem_cons.mpr ⟨ok_iastore C (show decode cX11_sentence 143 = .ok (.iastore, 1) by decide +kernel) rfl, ?_⟩
  refine List.forall_mem_cons.mpr ⟨ok_iconst C (show decode cX11_sentence 144 = .ok (.iconst 0, 1) by decide +kernel) (by decide) rfl, ?_⟩
  refine List.forall_mem_cons.mpr ⟨ok_istore_n C (show decode cX11_sentence 145 = .ok (.istore_n 2, 1) by decide +kernel) rfl (by decide) rfl, ?_⟩
  refine List.forall_mem_cons.mpr ⟨ok_iload_n C (show decode cX11_sentence 146 = .ok (.iload_n 2, 1) by decide +kernel) rfl rfl, ?_⟩
  refine List.forall_mem_cons.mpr ⟨ok_iconst C (show decode cX11_sentence 147 = .ok (.iconst 3, 1) by decide +kernel) (by decide) rfl, ?_⟩
  refine List.forall_mem_cons.mpr ⟨ok_aload_n C (show decode cX11_sentence 148 = .ok (.aload_n 0, 1) by decide +kernel) rfl rfl, ?_⟩
  refine List.forall_mem_cons.mpr ⟨ok_getf C (wi_X11) rfl (by decide) kw_1214 (show decode cX11_sentence 149 = .ok (.getfield 361, 3) by decide +kernel) rfl, ?_⟩
  refine List.forall_mem_cons.mpr ⟨ok_imul C (show decode cX11_sentence 152 = .ok (.imul, 1) by decide +kernel) rfl, ?_⟩
  refine List.forall_mem_cons.mpr ⟨ok_icmpge C (show decode cX11_sentence 153 = .ok (.if_icmp .ge 25, 3) by decide +kernel) (tg := 178) (by decide) rfl rfl, ?_⟩
  refine List.forall_mem_cons.mpr ⟨ok_aload_n C (show decode cX11_sentence 156 = .ok (.aload_n 0, 1) by decide +kernel) rfl rfl, ?_⟩
  refine List.forall_mem_cons.mpr ⟨ok_getf C (wi_X11) rfl (by decide) kw_1186 (show decode cX11_sentence 157 = .ok (.getfield 33, 3) by decide +kernel) rfl, ?_⟩
  refine List.forall_mem_cons.mpr ⟨ok_sipush C (show decode cX11_sentence 160 = .ok (.sipush 254, 3) by decide +kernel) (by decide) rfl, ?_⟩
  refine List.forall_mem_cons.mpr ⟨ok_iload_n C (show decode cX11_sentence 163 = .ok (.iload_n 2, 1) by decide +kernel) rfl rfl, ?_⟩
  refine List.forall_mem_cons.mpr ⟨ok_iadd C (show decode cX11_sentence 164 = .ok (.iadd, 1) by decide +kernel) rfl, ?_⟩
  refine List.forall_mem_cons.mpr ⟨ok_aload_n C (show decode cX11_sentence 165 = .ok (.aload_n 0, 1) by decide +kernel) rfl rfl, ?_⟩
  refine List.forall_mem_cons.mpr ⟨ok_getf C (wi_X11) rfl (by decide) kw_1188 (show decode cX11_sentence 166 = .ok (.getfield 40, 3) by decide +kernel) rfl, ?_⟩
  refine List.forall_mem_cons.mpr ⟨ok_iload_n C (show decode cX11_sentence 169 = .ok (.iload_n 2, 1) by decide +kernel) rfl rfl, ?_⟩
  refine List.forall_mem_cons.mpr ⟨ok_iaload C (show decode cX11_sentence 170 = .ok (.iaload, 1) by decide +kernel) rfl, ?_⟩
  refine List.forall_mem_cons.mpr ⟨ok_iastore C (show decode cX11_sentence 171 = .ok (.iastore, 1) by decide +kernel) rfl, ?_⟩
  refine List.forall_mem_cons.mpr ⟨ok_iinc C (show decode cX11_sentence 172 = .ok (.iinc 2 1, 3) by decide +kernel) (by decide) (by decide) rfl, ?_⟩
  refine List.forall_mem_cons.mpr ⟨ok_goto C (show decode cX11_sentence 175 = .ok (.goto (-29), 3) by decide +kernel) (tg := 146) (by decide) rfl, ?_⟩
  refine List.forall_mem_cons.mpr ⟨ok_aload_n C (show decode cX11_sentence 178 = .ok (.aload_n 0, 1) by decide +kernel) rfl rfl, ?_⟩
  refine List.forall_mem_cons.mpr ⟨ok_getf C (wi_X11) rfl (by decide) kw_1215 (show decode cX11_sentence 179 = .ok (.getfield 377, 3) by decide +kernel) rfl, ?_⟩
  refine List.forall_mem_cons.mpr ⟨ok_ret C rfl (show decode cX11_sentence 182 = .ok (.ireturn, 1) by decide +kernel), ?_⟩
  exact fun _ h => absurd h List.not_mem_nil
def L_X11_isLeaf (f_X11_lackOf : List Value → ab_H → Option ab_O) (f_X11_cell : List Value → ab_H → Option ab_O) (f_X11_isFalse : List Value → ab_H → Option ab_O) : List (Nat × ab_A) := [
  (0, ab_nx 1 (ab_iload 2)),
  (1, ab_tab 0 [36, 52, 76, 99, 122] 130),
  (36, ab_nx 37 (ab_aload 0)),
  (37, ab_nx 38 (ab_iload 1)),
  (38, ab_nx 40 (ab_iload 4)),
  (40, ab_nx 43 (ab_callV 3 11 f_X11_lackOf 0 0 0 0)),
  (43, ab_if 46 50 (fun x => decide (x ≤ 0))),
  (46, ab_nx 47 (ab_lit (.int 1))),
  (47, ab_goto 51),
  (50, ab_nx 51 (ab_lit (.int 0))),
  (51, ab_zret 0 0),
  (52, ab_nx 53 (ab_aload 0)),
  (53, ab_nx 56 (ab_getf 11 6)),
  (56, ab_nx 59 (ab_lit (.int 136))),
  (59, ab_nx 60 (ab_iload 1)),
  (60, ab_nx 62 (ab_iload 4)),
  (62, ab_nx 65 (ab_call 2 f_X11_cell 0 0 0 0)),
  (65, ab_nx 66 (ab_bin (fun x y => x + y))),
  (66, ab_nx 67 (ab_ald 1)),
  (67, ab_if 70 74 (fun x => decide (x ≤ 0))),
  (70, ab_nx 71 (ab_lit (.int 1))),
  (71, ab_goto 75),
  (74, ab_nx 75 (ab_lit (.int 0))),
  (75, ab_zret 0 0),
  (76, ab_nx 77 (ab_aload 0)),
  (77, ab_nx 80 (ab_getf 11 6)),
  (80, ab_nx 82 (ab_lit (.int 40))),
  (82, ab_nx 83 (ab_iload 1)),
  (83, ab_nx 85 (ab_iload 4)),
  (85, ab_nx 88 (ab_call 2 f_X11_cell 0 0 0 0)),
  (88, ab_nx 89 (ab_bin (fun x y => x + y))),
  (89, ab_nx 90 (ab_ald 1)),
  (90, ab_if 93 97 (fun x => decide (x ≤ 0))),
  (93, ab_nx 94 (ab_lit (.int 1))),
  (94, ab_goto 98),
  (97, ab_nx 98 (ab_lit (.int 0))),
  (98, ab_zret 0 0),
  (99, ab_nx 100 (ab_aload 0)),
  (100, ab_nx 103 (ab_getf 11 6)),
  (103, ab_nx 105 (ab_lit (.int 28))),
  (105, ab_nx 106 (ab_iload 1)),
  (106, ab_nx 108 (ab_iload 4)),
  (108, ab_nx 111 (ab_call 2 f_X11_cell 0 0 0 0)),
  (111, ab_nx 112 (ab_bin (fun x y => x + y))),
  (112, ab_nx 113 (ab_ald 1)),
  (113, ab_if 116 120 (fun x => decide (x ≤ 0))),
  (116, ab_nx 117 (ab_lit (.int 1))),
  (117, ab_goto 121),
  (120, ab_nx 121 (ab_lit (.int 0))),
  (121, ab_zret 0 0),
  (122, ab_nx 123 (ab_aload 0)),
  (123, ab_nx 124 (ab_iload 1)),
  (124, ab_nx 126 (ab_iload 4)),
  (126, ab_nx 129 (ab_callV 3 11 f_X11_isFalse 0 0 0 0)),
  (129, ab_zret 0 0),
  (130, ab_nx 131 (ab_iload 2)),
  (131, ab_nx 132 (ab_lit (.int 5))),
  (132, ab_icmp 135 151 (fun x y => !decide (x = y))),
  (135, ab_nx 136 (ab_aload 0)),
  (136, ab_nx 139 (ab_getf 11 6)),
  (139, ab_nx 141 (ab_lit (.int 124))),
  (141, ab_nx 142 (ab_iload 1)),
  (142, ab_nx 143 (ab_lit (.int 0))),
  (143, ab_nx 146 (ab_call 2 f_X11_cell 0 0 0 0)),
  (146, ab_nx 147 (ab_bin (fun x y => x + y))),
  (147, ab_nx 148 (ab_ald 1)),
  (148, ab_goto 212),
  (151, ab_nx 152 (ab_iload 2)),
  (152, ab_nx 154 (ab_lit (.int 6))),
  (154, ab_icmp 157 173 (fun x y => !decide (x = y))),
  (157, ab_nx 158 (ab_aload 0)),
  (158, ab_nx 161 (ab_getf 11 6)),
  (161, ab_nx 163 (ab_lit (.int 124))),
  (163, ab_nx 164 (ab_iload 1)),
  (164, ab_nx 165 (ab_lit (.int 1))),
  (165, ab_nx 168 (ab_call 2 f_X11_cell 0 0 0 0)),
  (168, ab_nx 169 (ab_bin (fun x y => x + y))),
  (169, ab_nx 170 (ab_ald 1)),
  (170, ab_goto 212),
  (173, ab_nx 174 (ab_iload 2)),
  (174, ab_nx 176 (ab_lit (.int 7))),
  (176, ab_icmp 179 211 (fun x y => !decide (x = y))),
  (179, ab_nx 180 (ab_aload 0)),
  (180, ab_nx 183 (ab_getf 11 6)),
  (183, ab_nx 186 (ab_lit (.int 160))),
  (186, ab_nx 187 (ab_iload 1)),
  (187, ab_nx 188 (ab_lit (.int 0))),
  (188, ab_nx 191 (ab_call 2 f_X11_cell 0 0 0 0)),
  (191, ab_nx 192 (ab_bin (fun x y => x + y))),
  (192, ab_nx 193 (ab_ald 1)),
  (193, ab_nx 194 (ab_aload 0)),
  (194, ab_nx 197 (ab_getf 11 6)),
  (197, ab_nx 200 (ab_lit (.int 160))),
  (200, ab_nx 201 (ab_iload 1)),
  (201, ab_nx 202 (ab_lit (.int 1))),
  (202, ab_nx 205 (ab_call 2 f_X11_cell 0 0 0 0)),
  (205, ab_nx 206 (ab_bin (fun x y => x + y))),
  (206, ab_nx 207 (ab_ald 1)),
  (207, ab_nx 208 (ab_bin (fun x y => x + y))),
  (208, ab_goto 212),
  (211, ab_nx 212 (ab_iload 1)),
  (212, ab_nx 214 (ab_istore 5)),
  (214, ab_nx 215 (ab_iload 3)),
  (215, ab_nx 217 (ab_lit (.int 60))),
  (217, ab_icmp 220 235 (fun x y => !decide (x = y))),
  (220, ab_nx 222 (ab_iload 5)),
  (222, ab_nx 224 (ab_iload 4)),
  (224, ab_icmp 227 231 (fun x y => decide (y ≤ x))),
  (227, ab_nx 228 (ab_lit (.int 1))),
  (228, ab_goto 268),
  (231, ab_nx 232 (ab_lit (.int 0))),
  (232, ab_goto 268),
  (235, ab_nx 236 (ab_iload 3)),
  (236, ab_nx 238 (ab_lit (.int 61))),
  (238, ab_icmp 241 256 (fun x y => !decide (x = y))),
  (241, ab_nx 243 (ab_iload 5)),
  (243, ab_nx 245 (ab_iload 4)),
  (245, ab_icmp 248 252 (fun x y => !decide (x = y))),
  (248, ab_nx 249 (ab_lit (.int 1))),
  (249, ab_goto 268),
  (252, ab_nx 253 (ab_lit (.int 0))),
  (253, ab_goto 268),
  (256, ab_nx 258 (ab_iload 5)),
  (258, ab_nx 260 (ab_iload 4)),
  (260, ab_icmp 263 267 (fun x y => decide (x ≤ y))),
  (263, ab_nx 264 (ab_lit (.int 1))),
  (264, ab_goto 268),
  (267, ab_nx 268 (ab_lit (.int 0))),
  (268, ab_zret 0 0)]
set_option maxRecDepth 100000 in
set_option maxHeartbeats 4000000 in
theorem M_X11_isLeaf {l : Launch} {b : ab_B} {D : va_G} {cA : Nat → ClassId} {f_X11_lackOf : List Value → ab_H → Option ab_O} (h_X11_lackOf : ab_M l b D ab_cl cA (ab_E0 b) yX11_lackOf (Cond.code yX11_lackOf cX11_lackOf 4 (some .int) :: ab_G) ({ frames := 2, cells := 0, slots := 0, locals := 200 } : Room) f_X11_lackOf) {f_X11_cell : List Value → ab_H → Option ab_O} (h_X11_cell : ab_M l b D ab_cl cA (ab_E0 b) yX11_cell (Cond.code yX11_cell cX11_cell 2 (some .int) :: ab_G) ({ frames := 1, cells := 0, slots := 0, locals := 100 } : Room) f_X11_cell) {f_X11_isFalse : List Value → ab_H → Option ab_O} (h_X11_isFalse : ab_M l b D ab_cl cA (ab_E0 b) yX11_isFalse (Cond.code yX11_isFalse cX11_isFalse 3 (some .boolean) :: ab_G) ({ frames := 3, cells := 0, slots := 0, locals := 300 } : Room) f_X11_isFalse) : ab_M l b D ab_cl cA (ab_E0 b) yX11_isLeaf (Cond.code yX11_isLeaf cX11_isLeaf 6 (some .boolean) :: ab_G) ({ frames := 4, cells := 0, slots := 0, locals := 400 } : Room) (ab_X (ab_T (L_X11_isLeaf f_X11_lackOf f_X11_cell f_X11_isFalse)) 6) := by
  refine ab_meth (ret := (some .boolean)) (L_X11_isLeaf f_X11_lackOf f_X11_cell f_X11_isFalse) (by decide) rfl fun p e R s m args below meth c o C => ?_
  unfold L_X11_isLeaf
  refine List.forall_mem_cons.mpr ⟨ok_iload_n C (show decode cX11_isLeaf 0 = .ok (.iload_n 2, 1) by decide +kernel) rfl rfl, ?_⟩
  refine List.forall_mem_cons.mpr ⟨ok_tab C (show decode cX11_isLeaf 1 = .ok (.tableswitch 129 0 4 #[35, 51, 75, 98, 121], 35) by decide +kernel) (by decide) (by decide) (by decide), ?_⟩
  refine List.forall_mem_cons.mpr ⟨ok_aload_n C (show decode cX11_isLeaf 36 = .ok (.aload_n 0, 1) by decide +kernel) rfl rfl, ?_⟩
  refine List.forall_mem_cons.mpr ⟨ok_iload_n C (show decode cX11_isLeaf 37 = .ok (.iload_n 1, 1) by decide +kernel) rfl rfl, ?_⟩
  refine List.forall_mem_cons.mpr ⟨ok_iload C (show decode cX11_isLeaf 38 = .ok (.iload 4, 2) by decide +kernel) rfl, ?_⟩
  refine List.forall_mem_cons.mpr ⟨ok_callV C h_X11_lackOf ⟨rfl, rfl⟩ rfl kw_1417 kw_1414 kw_1416 kp_67 kw_11 rfl ds_X11_lackOf ⟨by decide, by decide⟩ (show decode cX11_isLeaf 40 = .ok (.invokevirtual 248, 3) by decide +kernel) rfl, ?_⟩
  refine List.forall_mem_cons.mpr ⟨ok_ifle C (show decode cX11_isLeaf 43 = .ok (.ifCond .le 7, 3) by decide +kernel) (tg := 50) (by decide) rfl rfl, ?_⟩
  refine List.forall_mem_cons.mpr ⟨ok_iconst C (show decode cX11_isLeaf 46 = .ok (.iconst 1, 1) by decide +kernel) (by decide) rfl, ?_⟩
  refine List.forall_mem_cons.mpr ⟨ok_goto C (show decode cX11_isLeaf 47 = .ok (.goto 4, 3) by decide +kernel) (tg := 51) (by decide) rfl, ?_⟩
  refine List.forall_mem_cons.mpr ⟨ok_iconst C (show decode cX11_isLeaf 50 = .ok (.iconst 0, 1) by decide +kernel) (by decide) rfl, ?_⟩
  refine List.forall_mem_cons.mpr ⟨ok_zret C rfl (show decode cX11_isLeaf 51 = .ok (.ireturn, 1) by decide +kernel), ?_⟩
  refine List.forall_mem_cons.mpr ⟨ok_aload_n C (show decode cX11_isLeaf 52 = .ok (.aload_n 0, 1) by decide +kernel) rfl rfl, ?_⟩
  refine List.forall_mem_cons.mpr ⟨ok_getf C (wi_X11) rfl (by decide) kw_1186 (show decode cX11_isLeaf 53 = .ok (.getfield 33, 3) by decide +kernel) rfl, ?_⟩
  refine List.forall_mem_cons.mpr ⟨ok_sipush C (show decode cX11_isLeaf 56 = .ok (.sipush 136, 3) by decide +kernel) (by decide) rfl, ?_⟩
  refine List.forall_mem_cons.mpr ⟨ok_iload_n C (show decode cX11_isLeaf 59 = .ok (.iload_n 1, 1) by decide +kernel) rfl rfl, ?_⟩
  refine List.forall_mem_cons.mpr ⟨ok_iload C (show decode cX11_isLeaf 60 = .ok (.iload 4, 2) by decide +kernel) rfl, ?_⟩
  refine List.forall_mem_cons.mpr ⟨ok_callS C h_X11_cell ⟨rfl, rfl⟩ kw_1413 kw_1411 kw_1412 kw_11 ds_X11_cell ⟨by decide, by decide⟩ (show decode cX11_isLeaf 62 = .ok (.invokestatic 245, 3) by decide +kernel) rfl, ?_⟩
  refine List.forall_mem_cons.mpr ⟨ok_iadd C (show decode cX11_isLeaf 65 = .ok (.iadd, 1) by decide +kernel) rfl, ?_⟩
  refine List.forall_mem_cons.mpr ⟨ok_iaload C (show decode cX11_isLeaf 66 = .ok (.iaload, 1) by decide +kernel) rfl, ?_⟩
  refine List.forall_mem_cons.mpr ⟨ok_ifle C (show decode cX11_isLeaf 67 = .ok (.ifCond .le 7, 3) by decide +kernel) (tg := 74) (by decide) rfl rfl, ?_⟩
  refine List.forall_mem_cons.mpr ⟨ok_iconst C (show decode cX11_isLeaf 70 = .ok (.iconst 1, 1) by decide +kernel) (by decide) rfl, ?_⟩
  refine List.forall_mem_cons.mpr ⟨ok_goto C (show decode cX11_isLeaf 71 = .ok (.goto 4, 3) by decide +kernel) (tg := 75) (by decide) rfl, ?_⟩
  refine List.forall_mem_cons.mpr ⟨ok_iconst C (show decode cX11_isLeaf 74 = .ok (.iconst 0, 1) by decide +kernel) (by decide) rfl, ?_⟩
  refine List.forall_mem_cons.mpr ⟨ok_zret C rfl (show decode cX11_isLeaf 75 = .ok (.ireturn, 1) by decide +kernel), ?_⟩
  refine List.forall_mem_cons.mpr ⟨ok_aload_n C (show decode cX11_isLeaf 76 = .ok (.aload_n 0, 1) by decide +kernel) rfl rfl, ?_⟩
  refine List.forall_mem_cons.mpr ⟨ok_getf C (wi_X11) rfl (by decide) kw_1186 (show decode cX11_isLeaf 77 = .ok (.getfield 33, 3) by decide +kernel) rfl, ?_⟩
  refine List.forall_mem_cons.mpr ⟨ok_bipush C (show decode cX11_isLeaf 80 = .ok (.bipush 40, 2) by decide +kernel) (by decide) rfl, ?_⟩
  refine List.forall_mem_cons.mpr ⟨ok_iload_n C (show decode cX11_isLeaf 82 = .ok (.iload_n 1, 1) by decide +kernel) rfl rfl, ?_⟩
  refine List.forall_mem_cons.mpr ⟨ok_iload C (show decode cX11_isLeaf 83 = .ok (.iload 4, 2) by decide +kernel) rfl, ?_⟩
  refine List.forall_mem_cons.mpr ⟨ok_callS C h_X11_cell ⟨rfl, rfl⟩ kw_1413 kw_1411 kw_1412 kw_11 ds_X11_cell ⟨by decide, by decide⟩ (show decode cX11_isLeaf 85 = .ok (.invokestatic 245, 3) by decide +kernel) rfl, ?_⟩
  refine List.forall_mem_cons.mpr ⟨ok_iadd C (show decode cX11_isLeaf 88 = .ok (.iadd, 1) by decide +kernel) rfl, ?_⟩
  refine List.forall_mem_cons.mpr ⟨ok_iaload C (show decode cX11_isLeaf 89 = .ok (.iaload, 1) by decide +kernel) rfl, ?_⟩
  refine List.forall_mem_cons.mpr ⟨ok_ifle C (show decode cX11_isLeaf 90 = .ok (.ifCond .le 7, 3) by decide +kernel) (tg := 97) (by decide) rfl rfl, ?_⟩
  refine List.forall_mem_cons.mpr ⟨ok_iconst C (show decode cX11_isLeaf 93 = .ok (.iconst 1, 1) by decide +kernel) (by decide) rfl, ?_⟩
  refine List.forall_mem_cons.mpr ⟨ok_goto C (show decode cX11_isLeaf 94 = .ok (.goto 4, 3) by decide +kernel) (tg := 98) (by decide) rfl, ?_⟩
  refine List.forall_mem_cons.mpr ⟨ok_iconst C (show decode cX11_isLeaf 97 = .ok (.iconst 0, 1) by decide +kernel) (by decide) rfl, ?_⟩
  refine List.forall_mem_cons.mpr ⟨ok_zret C rfl (show decode cX11_isLeaf 98 = .ok (.ireturn, 1) by decide +kernel), ?_⟩
  refine List.forall_mem_cons.mpr ⟨ok_aload_n C (show decode cX11_isLeaf 99 = .ok (.aload_n 0, 1) by decide +kernel) rfl rfl, ?_⟩
  refine List.forall_mem_cons.mpr ⟨ok_getf C (wi_X11) rfl (by decide) kw_1186 (show decode cX11_isLeaf 100 = .ok (.getfield 33, 3) by decide +kernel) rfl, ?_⟩
  refine List.forall_mem_cons.mpr ⟨ok_bipush C (show decode cX11_isLeaf 103 = .ok (.bipush 28, 2) by decide +kernel) (by decide) rfl, ?_⟩
  refine List.forall_mem_cons.mpr ⟨ok_iload_n C (show decode cX11_isLeaf 105 = .ok (.iload_n 1, 1) by decide +kernel) rfl rfl, ?_⟩
  refine List.forall_mem_cons.mpr ⟨ok_iload C (show decode cX11_isLeaf 106 = .ok (.iload 4, 2) by decide +kernel) rfl, ?_⟩
  refine List.forall_mem_cons.mpr ⟨ok_callS C h_X11_cell ⟨rfl, rfl⟩ kw_1413 kw_1411 kw_1412 kw_11 ds_X11_cell ⟨by decide, by decide⟩ (show decode cX11_isLeaf 108 = .ok (.invokestatic 245, 3) by decide +kernel) rfl, ?_⟩
  refine List.forall_mem_cons.mpr ⟨ok_iadd C (show decode cX11_isLeaf 111 = .ok (.iadd, 1) by decide +kernel) rfl, ?_⟩
  refine List.forall_mem_cons.mpr ⟨ok_iaload C (show decode cX11_isLeaf 112 = .ok (.iaload, 1) by decide +kernel) rfl, ?_⟩
  refine List.forall_mem_cons.mpr ⟨ok_ifle C (show decode cX11_isLeaf 113 = .ok (.ifCond .le 7, 3) by decide +kernel) (tg := 120) (by decide) rfl rfl, ?_⟩
  refine List.forall_mem_cons.mpr ⟨ok_iconst C (show decode cX11_isLeaf 116 = .ok (.iconst 1, 1) by decide +kernel) (by decide) rfl, ?_⟩
  refine List.forall_mem_cons.mpr ⟨ok_goto C (show decode cX11_isLeaf 117 = .ok (.goto 4, 3) by decide +kernel) (tg := 121) (by decide) rfl, ?_⟩
  refine List.forall_mem_cons.mpr ⟨ok_iconst C (show decode cX11_isLeaf 120 = .ok (.iconst 0, 1) by decide +kernel) (by decide) rfl, ?_⟩
  refine List.forall_mem_cons.mpr ⟨ok_zret C rfl (show decode cX11_isLeaf 121 = .ok (.ireturn, 1) by decide +kernel), ?_⟩
  refine List.forall_mem_cons.mpr ⟨ok_aload_n C (show decode cX11_isLeaf 122 = .ok (.aload_n 0, 1) by decide +kernel) rfl rfl, ?_⟩
  refine List.forall_mem_cons.mpr ⟨ok_iload_n C (show decode cX11_isLeaf 123 = .ok (.iload_n 1, 1) by decide +kernel) rfl rfl, ?_⟩
  refine List.forall_mem_cons.mpr ⟨ok_iload C (show decode cX11_isLeaf 124 = .ok (.iload 4, 2) by decide +kernel) rfl, ?_⟩
  refine List.forall_mem_cons.mpr ⟨ok_callV C h_X11_isFalse ⟨rfl, rfl⟩ rfl kw_1421 kw_1418 kw_1420 kp_68 kw_11 rfl ds_X11_isFalse ⟨by decide, by decide⟩ (show decode cX11_isLeaf 126 = .ok (.invokevirtual 254, 3) by decide +kernel) rfl, ?_⟩
  refine List.forall_mem_cons.mpr ⟨ok_zret C rfl (show decode cX11_isLeaf 129 = .ok (.ireturn, 1) by decide +kernel), ?_⟩
  refine List.forall_mem_cons.mpr ⟨ok_iload_n C (show decode cX11_isLeaf 130 = .ok (.iload_n 2, 1) by decide +kernel) rfl rfl, ?_⟩
  refine List.forall_mem_cons.mpr ⟨ok_iconst C (show decode cX11_isLeaf 131 = .ok (.iconst 5, 1) by decide +kernel) (by decide) rfl, ?_⟩
  refine List.forall_mem_cons.mpr ⟨ok_icmpne C (show decode cX11_isLeaf 132 = .ok (.if_icmp .ne 19, 3) by decide +kernel) (tg := 151) (by decide) rfl rfl, ?_⟩
  refine List.forall_mem_cons.mpr ⟨ok_aload_n C (show decode cX11_isLeaf 135 = .ok (.aload_n 0, 1) by decide +kernel) rfl rfl, ?_⟩
  refine List.forall_mem_cons.mpr ⟨ok_getf C (wi_X11) rfl (by decide) kw_1186 (show decode cX11_isLeaf 136 = .ok (.getfield 33, 3) by decide +kernel) rfl, ?_⟩
  refine List.forall_mem_cons.mpr ⟨ok_bipush C (show decode cX11_isLeaf 139 = .ok (.bipush 124, 2) by decide +kernel) (by decide) rfl, ?_⟩
  refine List.forall_mem_cons.mpr ⟨ok_iload_n C (show decode cX11_isLeaf 141 = .ok (.iload_n 1, 1) by decide +kernel) rfl rfl, ?_⟩
  refine List.forall_mem_cons.mpr ⟨ok_iconst C (show decode cX11_isLeaf 142 = .ok (.iconst 0, 1) by decide +kernel) (by decide) rfl, ?_⟩
  refine List.forall_mem_cons.mpr ⟨ok_callS C h_X11_cell ⟨rfl, rfl⟩ kw_1413 kw_1411 kw_1412 kw_11 ds_X11_cell ⟨by decide, by decide⟩ (show decode cX11_isLeaf 143 = .ok (.invokestatic 245, 3) by decide +kernel) rfl, ?_⟩
  refine List.forall_mem_cons.mpr ⟨ok_iadd C (show decode cX11_isLeaf 146 = .ok (.iadd, 1) by decide +kernel) rfl, ?_⟩
  refine List.forall_mem_cons.mpr ⟨ok_iaload C (show decode cX11_isLeaf 147 = .ok (.iaload, 1) by decide +kernel) rfl, ?_⟩
  refine List.forall_mem_cons.mpr ⟨ok_goto C (show decode cX11_isLeaf 148 = .ok (.goto 64, 3) by decide +kernel) (tg := 212) (by decide) rfl, ?_⟩
  refine List.forall_mem_cons.mpr ⟨ok_iload_n C (show decode cX11_isLeaf 151 = .ok (.iload_n 2, 1) by decide +kernel) rfl rfl, ?_⟩
  refine List.forall_mem_cons.mpr ⟨ok_bipush C (show decode cX11_isLeaf 152 = .ok (.bipush 6, 2) by decide +kernel) (by decide) rfl, ?_⟩
  refine List.forall_mem_cons.mpr ⟨ok_icmpne C (show decode cX11_isLeaf 154 = .ok (.if_icmp .ne 19, 3) by decide +kernel) (tg := 173) (by decide) rfl rfl, ?_⟩
  refine List.forall_mem_cons.mpr ⟨ok_aload_n C (show decode cX11_isLeaf 157 = .ok (.aload_n 0, 1) by decide +kernel) rfl rfl, ?_⟩
  refine List.forall_mem_cons.mpr ⟨ok_getf C (wi_X11) rfl (by decide) kw_1186 (show decode cX11_isLeaf 158 = .ok (.getfield 33, 3) by decide +kernel) rfl, ?_⟩
  refine List.forall_mem_cons.mpr ⟨ok_bipush C (show decode cX11_isLeaf 161 = .ok (.bipush 124, 2) by decide +kernel) (by decide) rfl, ?_⟩
  refine List.forall_mem_cons.mpr ⟨ok_iload_n C (show decode cX11_isLeaf 163 = .ok (.iload_n 1, 1) by decide +kernel) rfl rfl, ?_⟩
  refine List.forall_mem_cons.mpr ⟨ok_iconst C (show decode cX11_isLeaf 164 = .ok (.iconst 1, 1) by decide +kernel) (by decide) rfl, ?_⟩
  refine List.forall_mem_cons.mpr ⟨ok_callS C h_X11_cell ⟨rfl, rfl⟩ kw_1413 kw_1411 kw_1412 kw_11 ds_X11_cell ⟨by decide, by decide⟩ (show decode cX11_isLeaf 165 = .ok (.invokestatic 245, 3) by decide +kernel) rfl, ?_⟩
  refine List.forall_mem_cons.mpr ⟨ok_iadd C (show decode cX11_isLeaf 168 = .ok (.iadd, 1) by decide +kernel) rfl, ?_⟩
  refine List.forall_mem_cons.mpr ⟨ok_iaload C (show decode cX11_isLeaf 169 = .ok (.iaload, 1) by decide +kernel) rfl, ?_⟩
  refine List.forall_mem_cons.mpr ⟨ok_goto C (show decode cX11_isLeaf 170 = .ok (.goto 42, 3) by decide +kernel) (tg := 212) (by decide) rfl, ?_⟩
  refine List.forall_mem_cons.mpr ⟨ok_iload_n C (show decode cX11_isLeaf 173 = .ok (.iload_n 2, 1) by decide +kernel) rfl rfl, ?_⟩
  refine List.forall_mem_cons.mpr ⟨ok_bipush C (show decode cX11_isLeaf 174 = .ok (.bipush 7, 2) by decide +kernel) (by decide) rfl, ?_⟩
  refine List.forall_mem_cons.mpr ⟨ok_icmpne C (show decode cX11_isLeaf 176 = .ok (.if_icmp .ne 35, 3) by decide +kernel) (tg := 211) (by decide) rfl rfl, ?_⟩
  refine List.forall_mem_cons.mpr ⟨ok_aload_n C (show decode cX11_isLeaf 179 = .ok (.aload_n 0, 1) by decide +kernel) rfl rfl, ?_⟩
  refine List.forall_mem_cons.mpr ⟨ok_getf C (wi_X11) rfl (by decide) kw_1186 (show decode cX11_isLeaf 180 = .ok (.getfield 33, 3) by decide +kernel) rfl, ?_⟩
  refine List.forall_mem_cons.mpr ⟨ok_sipush C (show decode cX11_isLeaf 183 = .ok (.sipush 160, 3) by decide +kernel) (by decide) rfl, ?_⟩
  refine List.forall_mem_cons.mpr ⟨ok_iload_n C (show decode cX11_isLeaf 186 = .ok (.iload_n 1, 1) by decide +kernel) rfl rfl, ?_⟩
  refine List.forall_mem_cons.mpr ⟨ok_iconst C (show decode cX11_isLeaf 187 = .ok (.iconst 0, 1) by decide +kernel) (by decide) rfl, ?_⟩
  refine List.forall_mem_cons.mpr ⟨ok_callS C h_X11_cell ⟨rfl, rfl⟩ kw_1413 kw_1411 kw_1412 kw_11 ds_X11_cell ⟨by decide, by decide⟩ (show decode cX11_isLeaf 188 = .ok (.invokestatic 245, 3) by decide +kernel) rfl, ?_⟩
  refine List.forall_mem_cons.mpr ⟨ok_iadd C (show decode cX11_isLeaf 191 = .ok (.iadd, 1) by decide +kernel) rfl, ?_⟩
  refine List.forall_mem_cons.mpr ⟨ok_iaload C (show decode cX11_isLeaf 192 = .ok (.iaload, 1) by decide +kernel) rfl, ?_⟩
  refine List.forall_mem_cons.mpr ⟨ok_aload_n C (show decode cX11_isLeaf 193 = .ok (.aload_n 0, 1) by decide +kernel) rfl rfl, ?_⟩
  refine List.forall_mem_cons.mpr ⟨ok_getf C (wi_X11) rfl (by decide) kw_1186 (show decode cX11_isLeaf 194 = .ok (.getfield 33, 3) by decide +kernel) rfl, ?_⟩
  refine List.forall_mem_cons.mpr ⟨ok_sipush C (show decode cX11_isLeaf 197 = .ok (.sipush 160, 3) by decide +kernel) (by decide) rfl, ?_⟩
  refine List.forall_mem_cons.mpr ⟨ok_iload_n C (show decode cX11_isLeaf 200 = .ok (.iload_n 1, 1) by decide +kernel) rfl rfl, ?_⟩
  refine List.forall_mem_cons.mpr ⟨ok_iconst C (show decode cX11_isLeaf 201 = .ok (.iconst 1, 1) by decide +kernel) (by decide) rfl, ?_⟩
  refine List.forall_mem_cons.mpr ⟨ok_callS C h_X11_cell ⟨rfl, rfl⟩ kw_1413 kw_1411 kw_1412 kw_11 ds_X11_cell ⟨by decide, by decide⟩ (show decode cX11_isLeaf 202 = .ok (.invokestatic 245, 3) by decide +kernel) rfl, ?_⟩
  refine List.forall_mem_cons.mpr ⟨ok_iadd C (show decode cX11_isLeaf 205 = .ok (.iadd, 1) by decide +kernel) rfl, ?_⟩
  refine List.forall_mem_cons.mpr ⟨ok_iaload C (show decode cX11_isLeaf 206 = .ok (.iaload, 1) by decide +kernel) rfl, ?_⟩
  refine List.forall_mem_cons.mpr ⟨ok_iadd C (show decode cX11_isLeaf 207 = .ok (.iadd, 1) by decide +kernel) rfl, ?_⟩
  refine List.forall_mem_cons.mpr ⟨ok_goto C (show decode cX11_isLeaf 208 = .ok (.goto 4, 3) by decide +kernel) (tg := 212) (by decide) rfl, ?_⟩
  refine List.forall_mem_cons.mpr ⟨ok_iload_n C (show decode cX11_isLeaf 211 = .ok (.iload_n 1, 1) by decide +kernel) rfl rfl, ?_⟩
  refine List.forall_mem_cons.mpr ⟨ok_istore C (show decode cX11_isLeaf 212 = .ok (.istore 5, 2) by decide +kernel) (by decide) rfl, ?_⟩
  refine List.forall_mem_cons.mpr ⟨ok_iload_n C (show decode cX11_isLeaf 214 = .ok (.iload_n 3, 1) by decide +kernel) rfl rfl, ?_⟩
  refine List.forall_mem_cons.mpr ⟨ok_bipush C (show decode cX11_isLeaf 215 = .ok (.bipush 60, 2) by decide +kernel) (by decide) rfl, ?_⟩
  refine List.forall_mem_cons.mpr ⟨ok_icmpne C (show decode cX11_isLeaf 217 = .ok (.if_icmp .ne 18, 3) by decide +kernel) (tg := 235) (by decide) rfl rfl, ?_⟩
  refine List.forall_mem_cons.mpr ⟨ok_iload C (show decode cX11_isLeaf 220 = .ok (.iload 5, 2) by decide +kernel) rfl, ?_⟩
  refine List.forall_mem_cons.mpr ⟨ok_iload C (show decode cX11_isLeaf 222 = .ok (.iload 4, 2) by decide +kernel) rfl, ?_⟩
  refine List.forall_mem_cons.mpr ⟨ok_icmpge C (show decode cX11_isLeaf 224 = .ok (.if_icmp .ge 7, 3) by decide +kernel) (tg := 231) (by decide) rfl rfl, ?_⟩
  refine List.forall_mem_cons.mpr ⟨ok_iconst C (show decode cX11_isLeaf 227 = .ok (.iconst 1, 1) by decide +kernel) (by decide) rfl, ?_⟩
  refine List.forall_mem_cons.mpr ⟨ok_goto C (show decode cX11_isLeaf 228 = .ok (.goto 40, 3) by decide +kernel) (tg := 268) (by decide) rfl, ?_⟩
  refine List.forall_mem_cons.mpr ⟨ok_iconst C (show decode cX11_isLeaf 231 = .ok (.iconst 0, 1) by decide +kernel) (by decide) rfl, ?_⟩
  refine List.forall_mem_cons.mpr ⟨ok_goto C (show decode cX11_isLeaf 232 = .ok (.goto 36, 3) by decide +kernel) (tg := 268) (by decide) rfl, ?_⟩
  refine List.forall_mem_cons.mpr ⟨ok_iload_n C (show decode cX11_isLeaf 235 = .ok (.iload_n 3, 1) by decide +kernel) rfl rfl, ?_⟩
  refine List.forall_mem_cons.mpr ⟨ok_bipush C (show decode cX11_isLeaf 236 = .ok (.bipush 61, 2) by decide +kernel) (by decide) rfl, ?_⟩
  refine List.forall_mem_cons.mpr ⟨ok_icmpne C (show decode cX11_isLeaf 238 = .ok (.if_icmp .ne 18, 3) by decide +kernel) (tg := 256) (by decide) rfl rfl, ?_⟩
  refine List.forall_mem_cons.mpr ⟨ok_iload C (show decode cX11_isLeaf 241 = .ok (.iload 5, 2) by decide +kernel) rfl, ?_⟩
  refine List.forall_mem_cons.mpr ⟨ok_iload C (show decode cX11_isLeaf 243 = .ok (.iload 4, 2) by decide +kernel) rfl, ?_⟩
  refine List.forall_mem_cons.mpr ⟨ok_icmpne C (show decode cX11_isLeaf 245 = .ok (.if_icmp .ne 7, 3) by decide +kernel) (tg := 252) (by decide) rfl rfl, ?_⟩
  refine List.forall_mem_cons.mpr ⟨ok_iconst C (show decode cX11_isLeaf 248 = .ok (.iconst 1, 1) by decide +kernel) (by decide) rfl, ?_⟩
  refine List.forall_mem_cons.mpr ⟨ok_goto C (show decode cX11_isLeaf 249 = .ok (.goto 19, 3) by decide +kernel) (tg := 268) (by decide) rfl, ?_⟩
  refine List.forall_mem_cons.mpr ⟨ok_iconst C (show decode cX11_isLeaf 252 = .ok (.iconst 0, 1) by decide +kernel) (by decide) rfl, ?_⟩
  refine List.forall_mem_cons.mpr ⟨ok_goto C (show decode cX11_isLeaf 253 = .ok (.goto 15, 3) by decide +kernel) (tg := 268) (by decide) rfl, ?_⟩
  refine List.forall_mem_cons.mpr ⟨ok_iload C (show decode cX11_isLeaf 256 = .ok (.iload 5, 2) by decide +kernel) rfl, ?_⟩
  refine List.forall_mem_cons.mpr ⟨ok_iload C (show decode cX11_isLeaf 258 = .ok (.iload 4, 2) by decide +kernel) rfl, ?_⟩
  refine List.forall_mem_cons.mpr ⟨ok_icmple C (show decode cX11_isLeaf 260 = .ok (.if_icmp .le 7, 3) by decide +kernel) (tg := 267) (by decide) rfl rfl, ?_⟩
  refine List.forall_mem_cons.mpr ⟨ok_iconst C (show decode cX11_isLeaf 263 = .ok (.iconst 1, 1) by decide +kernel) (by decide) rfl, ?_⟩
  refine List.forall_mem_cons.mpr ⟨ok_goto C (show decode cX11_isLeaf 264 = .ok (.goto 4, 3) by decide +kernel) (tg := 268) (by decide) rfl, ?_⟩
  refine List.forall_mem_cons.mpr ⟨ok_iconst C (show decode cX11_isLeaf 267 = .ok (.iconst 0, 1) by decide +kernel) (by decide) rfl, ?_⟩
  refine List.forall_mem_cons.mpr ⟨ok_zret C rfl (show decode cX11_isLeaf 268 = .ok (.ireturn, 1) by decide +kernel), ?_⟩
  exact fun _ h => absurd h List.not_mem_nil
