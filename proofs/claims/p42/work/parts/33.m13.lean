def L_X11_next (f_X11_peek : List Value → ab_H → Option ab_O) (f_X11_isSmall : List Value → ab_H → Option ab_O) (f_X11_isDigit : List Value → ab_H → Option ab_O) : List (Nat × ab_A) := [
  (0, ab_nx 1 (ab_aload 0)),
  (1, ab_nx 4 (ab_callV 1 11 f_X11_peek 0 0 0 0)),
  (4, ab_nx 6 (ab_lit (.int 32))),
  (6, ab_icmp 9 18 (fun x y => decide (x = y))),
  (9, ab_nx 10 (ab_aload 0)),
  (10, ab_nx 13 (ab_callV 1 11 f_X11_peek 0 0 0 0)),
  (13, ab_nx 15 (ab_lit (.int 10))),
  (15, ab_icmp 18 31 (fun x y => !decide (x = y))),
  (18, ab_nx 19 (ab_aload 0)),
  (19, ab_nx 20 ab_dup),
  (20, ab_nx 23 (ab_getf 11 4)),
  (23, ab_nx 24 (ab_lit (.int 1))),
  (24, ab_nx 25 (ab_bin (fun x y => x + y))),
  (25, ab_nx 28 (ab_putf 11 4 0)),
  (28, ab_goto 0),
  (31, ab_nx 32 (ab_aload 0)),
  (32, ab_nx 33 (ab_aload 0)),
  (33, ab_nx 36 (ab_getf 11 4)),
  (36, ab_nx 39 (ab_putf 11 12 0)),
  (39, ab_nx 40 (ab_aload 0)),
  (40, ab_nx 41 (ab_lit (.int 0))),
  (41, ab_nx 44 (ab_putf 11 13 0)),
  (44, ab_nx 45 (ab_aload 0)),
  (45, ab_nx 48 (ab_getf 11 3)),
  (48, ab_nx 49 (ab_aload 0)),
  (49, ab_nx 52 (ab_getf 11 5)),
  (52, ab_icmp 55 80 (fun x y => decide (x ≤ y))),
  (55, ab_nx 56 (ab_aload 0)),
  (56, ab_nx 59 (ab_getf 11 4)),
  (59, ab_nx 60 (ab_aload 0)),
  (60, ab_nx 63 (ab_getf 11 5)),
  (63, ab_icmp 66 80 (fun x y => decide (x < y))),
  (66, ab_nx 67 (ab_aload 0)),
  (67, ab_nx 68 (ab_aload 0)),
  (68, ab_nx 71 (ab_getf 11 5)),
  (71, ab_nx 74 (ab_putf 11 12 0)),
  (74, ab_nx 75 (ab_aload 0)),
  (75, ab_nx 76 (ab_lit (.int 4))),
  (76, ab_nx 79 (ab_putf 11 11 0)),
  (79, ab_vret 0 0),
  (80, ab_nx 81 (ab_aload 0)),
  (81, ab_nx 84 (ab_callV 1 11 f_X11_peek 0 0 0 0)),
  (84, ab_nx 85 (ab_istore 1)),
  (85, ab_nx 86 (ab_iload 1)),
  (86, ab_if 89 95 (fun x => decide (0 ≤ x))),
  (89, ab_nx 90 (ab_aload 0)),
  (90, ab_nx 91 (ab_lit (.int 0))),
  (91, ab_nx 94 (ab_putf 11 11 0)),
  (94, ab_vret 0 0),
  (95, ab_nx 96 (ab_iload 1)),
  (96, ab_nx 99 (ab_call 1 f_X11_isSmall 0 0 0 0)),
  (99, ab_if 102 164 (fun x => !decide (x = 0))),
  (102, ab_nx 103 (ab_iload 1)),
  (103, ab_nx 106 (ab_call 1 f_X11_isDigit 0 0 0 0)),
  (106, ab_if 109 164 (fun x => !decide (x = 0))),
  (109, ab_nx 110 (ab_aload 0)),
  (110, ab_nx 111 (ab_iload 1)),
  (111, ab_nx 113 (ab_lit (.int 59))),
  (113, ab_icmp 116 140 (fun x y => decide (x = y))),
  (116, ab_nx 117 (ab_iload 1)),
  (117, ab_nx 119 (ab_lit (.int 40))),
  (119, ab_icmp 122 140 (fun x y => decide (x = y))),
  (122, ab_nx 123 (ab_iload 1)),
  (123, ab_nx 125 (ab_lit (.int 41))),
  (125, ab_icmp 128 140 (fun x y => decide (x = y))),
  (128, ab_nx 129 (ab_iload 1)),
  (129, ab_nx 131 (ab_lit (.int 60))),
  (131, ab_icmp 134 144 (fun x y => decide (x < y))),
  (134, ab_nx 135 (ab_iload 1)),
  (135, ab_nx 137 (ab_lit (.int 62))),
  (137, ab_icmp 140 144 (fun x y => decide (y < x))),
  (140, ab_nx 141 (ab_lit (.int 3))),
  (141, ab_goto 145),
  (144, ab_nx 145 (ab_lit (.int 4))),
  (145, ab_nx 148 (ab_putf 11 11 0)),
  (148, ab_nx 149 (ab_aload 0)),
  (149, ab_nx 150 (ab_iload 1)),
  (150, ab_nx 153 (ab_putf 11 14 0)),
  (153, ab_nx 154 (ab_aload 0)),
  (154, ab_nx 155 ab_dup),
  (155, ab_nx 158 (ab_getf 11 4)),
  (158, ab_nx 159 (ab_lit (.int 1))),
  (159, ab_nx 160 (ab_bin (fun x y => x + y))),
  (160, ab_nx 163 (ab_putf 11 4 0)),
  (163, ab_vret 0 0),
  (164, ab_nx 165 (ab_iload 1)),
  (165, ab_nx 168 (ab_call 1 f_X11_isSmall 0 0 0 0)),
  (168, ab_nx 169 (ab_istore 2)),
  (169, ab_nx 170 (ab_lit (.int 1))),
  (170, ab_nx 171 (ab_istore 3)),
  (171, ab_nx 172 (ab_aload 0)),
  (172, ab_nx 173 (ab_lit (.long 0))),
  (173, ab_nx 176 (ab_putf 11 17 1)),
  (176, ab_nx 177 (ab_aload 0)),
  (177, ab_nx 178 (ab_lit (.int 0))),
  (178, ab_nx 181 (ab_putf 11 14 0)),
  (181, ab_nx 182 (ab_aload 0)),
  (182, ab_nx 185 (ab_callV 1 11 f_X11_peek 0 0 0 0)),
  (185, ab_nx 188 (ab_call 1 f_X11_isSmall 0 0 0 0)),
  (188, ab_if 191 201 (fun x => !decide (x = 0))),
  (191, ab_nx 192 (ab_aload 0)),
  (192, ab_nx 195 (ab_callV 1 11 f_X11_peek 0 0 0 0)),
  (195, ab_nx 198 (ab_call 1 f_X11_isDigit 0 0 0 0)),
  (198, ab_if 201 298 (fun x => decide (x = 0))),
  (201, ab_nx 202 (ab_iload 3)),
  (202, ab_if 205 220 (fun x => decide (x = 0))),
  (205, ab_nx 206 (ab_aload 0)),
  (206, ab_nx 209 (ab_callV 1 11 f_X11_peek 0 0 0 0)),
  (209, ab_nx 212 (ab_call 1 f_X11_isSmall 0 0 0 0)),
  (212, ab_nx 213 (ab_iload 2)),
  (213, ab_icmp 216 220 (fun x y => !decide (x = y))),
  (216, ab_nx 217 (ab_lit (.int 1))),
  (217, ab_goto 221),
  (220, ab_nx 221 (ab_lit (.int 0))),
  (221, ab_nx 222 (ab_istore 3)),
  (222, ab_nx 223 (ab_aload 0)),
  (223, ab_nx 226 (ab_getf 11 13)),
  (226, ab_nx 228 (ab_lit (.int 7))),
  (228, ab_icmp 231 248 (fun x y => decide (y ≤ x))),
  (231, ab_nx 232 (ab_aload 0)),
  (232, ab_nx 233 (ab_aload 0)),
  (233, ab_nx 236 (ab_getf 11 17)),
  (236, ab_nx 238 (ab_lit (.int 8))),
  (238, ab_nx 239 (ab_lsh (fun x y => x <<< (y.toInt64 &&& 63)))),
  (239, ab_nx 240 (ab_aload 0)),
  (240, ab_nx 243 (ab_callV 1 11 f_X11_peek 0 0 0 0)),
  (243, ab_nx 244 ab_i2l),
  (244, ab_nx 245 (ab_lbin (fun x y => x ||| y))),
  (245, ab_nx 248 (ab_putf 11 17 1)),
  (248, ab_nx 249 (ab_aload 0)),
  (249, ab_nx 252 (ab_getf 11 13)),
  (252, ab_nx 253 (ab_lit (.int 3))),
  (253, ab_icmp 256 275 (fun x y => decide (y ≤ x))),
  (256, ab_nx 257 (ab_aload 0)),
  (257, ab_nx 259 (ab_lit (.int 10))),
  (259, ab_nx 260 (ab_aload 0)),
  (260, ab_nx 263 (ab_getf 11 14)),
  (263, ab_nx 264 (ab_bin (fun x y => x * y))),
  (264, ab_nx 265 (ab_aload 0)),
  (265, ab_nx 268 (ab_callV 1 11 f_X11_peek 0 0 0 0)),
  (268, ab_nx 269 (ab_bin (fun x y => x + y))),
  (269, ab_nx 271 (ab_lit (.int 48))),
  (271, ab_nx 272 (ab_bin (fun x y => x - y))),
  (272, ab_nx 275 (ab_putf 11 14 0)),
  (275, ab_nx 276 (ab_aload 0)),
  (276, ab_nx 277 ab_dup),
  (277, ab_nx 280 (ab_getf 11 13)),
  (280, ab_nx 281 (ab_lit (.int 1))),
  (281, ab_nx 282 (ab_bin (fun x y => x + y))),
  (282, ab_nx 285 (ab_putf 11 13 0)),
  (285, ab_nx 286 (ab_aload 0)),
  (286, ab_nx 287 ab_dup),
  (287, ab_nx 290 (ab_getf 11 4)),
  (290, ab_nx 291 (ab_lit (.int 1))),
  (291, ab_nx 292 (ab_bin (fun x y => x + y))),
  (292, ab_nx 295 (ab_putf 11 4 0)),
  (295, ab_goto 181),
  (298, ab_nx 299 (ab_aload 0)),
  (299, ab_nx 300 (ab_iload 3)),
  (300, ab_if 303 320 (fun x => decide (x = 0))),
  (303, ab_nx 304 (ab_aload 0)),
  (304, ab_nx 307 (ab_getf 11 13)),
  (307, ab_nx 308 (ab_iload 2)),
  (308, ab_if 311 316 (fun x => decide (x = 0))),
  (311, ab_nx 313 (ab_lit (.int 7))),
  (313, ab_goto 317),
  (316, ab_nx 317 (ab_lit (.int 3))),
  (317, ab_icmp 320 324 (fun x y => decide (x ≤ y))),
  (320, ab_nx 321 (ab_lit (.int 4))),
  (321, ab_goto 333),
  (324, ab_nx 325 (ab_iload 2)),
  (325, ab_if 328 332 (fun x => decide (x = 0))),
  (328, ab_nx 329 (ab_lit (.int 1))),
  (329, ab_goto 333),
  (332, ab_nx 333 (ab_lit (.int 2))),
  (333, ab_nx 336 (ab_putf 11 11 0)),
  (336, ab_vret 0 0)]
set_option maxRecDepth 100000 in
set_option maxHeartbeats 4000000 in
theorem M_X11_next {l : Launch} {b : ab_B} {D : va_G} {cA : Nat → ClassId} {f_X11_peek : List Value → ab_H → Option ab_O} (h_X11_peek : ab_M l b D ab_cl cA (ab_E0 b) yX11_peek (Cond.code yX11_peek cX11_peek 1 (some .int) :: ab_G) ({ frames := 1, cells := 0, slots := 0, locals := 100 } : Room) f_X11_peek) {f_X11_isSmall : List Value → ab_H → Option ab_O} (h_X11_isSmall : ab_M l b D ab_cl cA (ab_E0 b) yX11_isSmall (Cond.code yX11_isSmall cX11_isSmall 1 (some .boolean) :: ab_G) ({ frames := 1, cells := 0, slots := 0, locals := 100 } : Room) f_X11_isSmall) {f_X11_isDigit : List Value → ab_H → Option ab_O} (h_X11_isDigit : ab_M l b D ab_cl cA (ab_E0 b) yX11_isDigit (Cond.code yX11_isDigit cX11_isDigit 1 (some .boolean) :: ab_G) ({ frames := 1, cells := 0, slots := 0, locals := 100 } : Room) f_X11_isDigit) : ab_M l b D ab_cl cA (ab_E0 b) yX11_next (Cond.code yX11_next cX11_next 4 none :: ab_G) ({ frames := 2, cells := 0, slots := 0, locals := 200 } : Room) (ab_X (ab_T (L_X11_next f_X11_peek f_X11_isSmall f_X11_isDigit)) 4) := by
  refine ab_meth (ret := none) (L_X11_next f_X11_peek f_X11_isSmall f_X11_isDigit) (by decide) rfl fun p e R s m args below meth c o C => ?_
  unfold L_X11_next
  refine List.forall_mem_cons.mpr ⟨ok_aload_n C (show decode cX11_next 0 = .ok (.aload_n 0, 1) by decide +kernel) rfl rfl, ?_⟩
  refine List.forall_mem_cons.mpr ⟨ok_callV C h_X11_peek ⟨rfl, rfl⟩ rfl kw_1326 kw_1323 kw_1325 kp_50 kw_11 rfl ds_X11_peek ⟨by decide, by decide⟩ (show decode cX11_next 1 = .ok (.invokevirtual 137, 3) by decide +kernel) rfl, ?_⟩
  refine List.forall_mem_cons.mpr ⟨ok_bipush C (show decode cX11_next 4 = .ok (.bipush 32, 2) by decide +kernel) (by decide) rfl, ?_⟩
  refine List.forall_mem_cons.mpr ⟨ok_icmpeq C (show decode cX11_next 6 = .ok (.if_icmp .eq 12, 3) by decide +kernel) (tg := 18) (by decide) rfl rfl, ?_⟩
  refine List.forall_mem_cons.mpr ⟨ok_aload_n C (show decode cX11_next 9 = .ok (.aload_n 0, 1) by decide +kernel) rfl rfl, ?_⟩
  refine List.forall_mem_cons.mpr ⟨ok_callV C h_X11_peek ⟨rfl, rfl⟩ rfl kw_1326 kw_1323 kw_1325 kp_50 kw_11 rfl ds_X11_peek ⟨by decide, by decide⟩ (show decode cX11_next 10 = .ok (.invokevirtual 137, 3) by decide +kernel) rfl, ?_⟩
  refine List.forall_mem_cons.mpr ⟨ok_bipush C (show decode cX11_next 13 = .ok (.bipush 10, 2) by decide +kernel) (by decide) rfl, ?_⟩
  refine List.forall_mem_cons.mpr ⟨ok_icmpne C (show decode cX11_next 15 = .ok (.if_icmp .ne 16, 3) by decide +kernel) (tg := 31) (by decide) rfl rfl, ?_⟩
  refine List.forall_mem_cons.mpr ⟨ok_aload_n C (show decode cX11_next 18 = .ok (.aload_n 0, 1) by decide +kernel) rfl rfl, ?_⟩
  refine List.forall_mem_cons.mpr ⟨ok_dup C (show decode cX11_next 19 = .ok (.dup, 1) by decide +kernel) rfl, ?_⟩
  refine List.forall_mem_cons.mpr ⟨ok_getf C (wi_X11) rfl (by decide) kw_1184 (show decode cX11_next 20 = .ok (.getfield 21, 3) by decide +kernel) rfl, ?_⟩
  refine List.forall_mem_cons.mpr ⟨ok_iconst C (show decode cX11_next 23 = .ok (.iconst 1, 1) by decide +kernel) (by decide) rfl, ?_⟩
  refine List.forall_mem_cons.mpr ⟨ok_iadd C (show decode cX11_next 24 = .ok (.iadd, 1) by decide +kernel) rfl, ?_⟩
  refine List.forall_mem_cons.mpr ⟨ok_putf C (wi_X11) tyX11 tyX11_ok nmX11 rfl (by decide) kw_1184 (Or.inl rfl) (Or.inl ⟨rfl, rfl⟩) (show decode cX11_next 25 = .ok (.putfield 21, 3) by decide +kernel) rfl, ?_⟩
  refine List.forall_mem_cons.mpr ⟨ok_goto C (show decode cX11_next 28 = .ok (.goto (-28), 3) by decide +kernel) (tg := 0) (by decide) rfl, ?_⟩
  refine List.forall_mem_cons.mpr ⟨ok_aload_n C (show decode cX11_next 31 = .ok (.aload_n 0, 1) by decide +kernel) rfl rfl, ?_⟩
  refine List.forall_mem_cons.mpr ⟨ok_aload_n C (show decode cX11_next 32 = .ok (.aload_n 0, 1) by decide +kernel) rfl rfl, ?_⟩
  refine List.forall_mem_cons.mpr ⟨ok_getf C (wi_X11) rfl (by decide) kw_1184 (show decode cX11_next 33 = .ok (.getfield 21, 3) by decide +kernel) rfl, ?_⟩
  refine List.forall_mem_cons.mpr ⟨ok_putf C (wi_X11) tyX11 tyX11_ok nmX11 rfl (by decide) kw_1192 (Or.inl rfl) (Or.inl ⟨rfl, rfl⟩) (show decode cX11_next 36 = .ok (.putfield 141, 3) by decide +kernel) rfl, ?_⟩
  refine List.forall_mem_cons.mpr ⟨ok_aload_n C (show decode cX11_next 39 = .ok (.aload_n 0, 1) by decide +kernel) rfl rfl, ?_⟩
  refine List.forall_mem_cons.mpr ⟨ok_iconst C (show decode cX11_next 40 = .ok (.iconst 0, 1) by decide +kernel) (by decide) rfl, ?_⟩
  refine List.forall_mem_cons.mpr ⟨ok_putf C (wi_X11) tyX11 tyX11_ok nmX11 rfl (by decide) kw_1193 (Or.inl rfl) (Or.inl ⟨rfl, rfl⟩) (show decode cX11_next 41 = .ok (.putfield 144, 3) by decide +kernel) rfl, ?_⟩
  refine List.forall_mem_cons.mpr ⟨ok_aload_n C (show decode cX11_next 44 = .ok (.aload_n 0, 1) by decide +kernel) rfl rfl, ?_⟩
  refine List.forall_mem_cons.mpr ⟨ok_getf C (wi_X11) rfl (by decide) kw_1183 (show decode cX11_next 45 = .ok (.getfield 18, 3) by decide +kernel) rfl, ?_⟩
  refine List.forall_mem_cons.mpr ⟨ok_aload_n C (show decode cX11_next 48 = .ok (.aload_n 0, 1) by decide +kernel) rfl rfl, ?_⟩
  refine List.forall_mem_cons.mpr ⟨ok_getf C (wi_X11) rfl (by decide) kw_1185 (show decode cX11_next 49 = .ok (.getfield 24, 3) by decide +kernel) rfl, ?_⟩
  refine List.forall_mem_cons.mpr ⟨ok_icmple C (show decode cX11_next 52 = .ok (.if_icmp .le 28, 3) by decide +kernel) (tg := 80) (by decide) rfl rfl, ?_⟩
  refine List.forall_mem_cons.mpr ⟨ok_aload_n C (show decode cX11_next 55 = .ok (.aload_n 0, 1) by decide +kernel) rfl rfl, ?_⟩
  refine List.forall_mem_cons.mpr ⟨ok_getf C (wi_X11) rfl (by decide) kw_1184 (show decode cX11_next 56 = .ok (.getfield 21, 3) by decide +kernel) rfl, ?_⟩
  refine List.forall_mem_cons.mpr ⟨ok_aload_n C (show decode cX11_next 59 = .ok (.aload_n 0, 1) by decide +kernel) rfl rfl, ?_⟩
  refine List.forall_mem_cons.mpr ⟨ok_getf C (wi_X11) rfl (by decide) kw_1185 (show decode cX11_next 60 = .ok (.getfield 24, 3) by decide +kernel) rfl, ?_⟩
  refine List.forall_mem_cons.mpr ⟨ok_icmplt C (show decode cX11_next 63 = .ok (.if_icmp .lt 17, 3) by decide +kernel) (tg := 80) (by decide) rfl rfl, ?_⟩
  refine List.forall_mem_cons.mpr ⟨ok_aload_n C (show decode cX11_next 66 = .ok (.aload_n 0, 1) by decide +kernel) rfl rfl, ?_⟩
  refine List.forall_mem_cons.mpr ⟨ok_aload_n C (show decode cX11_next 67 = .ok (.aload_n 0, 1) by decide +kernel) rfl rfl, ?_⟩
  refine List.forall_mem_cons.mpr ⟨ok_getf C (wi_X11) rfl (by decide) kw_1185 (show decode cX11_next 68 = .ok (.getfield 24, 3) by decide +kernel) rfl, ?_⟩
  refine List.forall_mem_cons.mpr ⟨ok_putf C (wi_X11) tyX11 tyX11_ok nmX11 rfl (by decide) kw_1192 (Or.inl rfl) (Or.inl ⟨rfl, rfl⟩) (show decode cX11_next 71 = .ok (.putfield 141, 3) by decide +kernel) rfl, ?_⟩
  refine List.forall_mem_cons.mpr ⟨ok_aload_n C (show decode cX11_next 74 = .ok (.aload_n 0, 1) by decide +kernel) rfl rfl, ?_⟩
  refine List.forall_mem_cons.mpr ⟨ok_iconst C (show decode cX11_next 75 = .ok (.iconst 4, 1) by decide +kernel) (by decide) rfl, ?_⟩
  refine List.forall_mem_cons.mpr ⟨ok_putf C (wi_X11) tyX11 tyX11_ok nmX11 rfl (by decide) kw_1191 (Or.inl rfl) (Or.inl ⟨rfl, rfl⟩) (show decode cX11_next 76 = .ok (.putfield 147, 3) by decide +kernel) rfl, ?_⟩
  refine List.forall_mem_cons.mpr ⟨ok_vret C rfl (show decode cX11_next 79 = .ok (.return_, 1) by decide +kernel), ?_⟩
  refine List.forall_mem_cons.mpr ⟨ok_aload_n C (show decode cX11_next 80 = .ok (.aload_n 0, 1) by decide +kernel) rfl rfl, ?_⟩
  refine List.forall_mem_cons.mpr ⟨ok_callV C h_X11_peek ⟨rfl, rfl⟩ rfl kw_1326 kw_1323 kw_1325 kp_50 kw_11 rfl ds_X11_peek ⟨by decide, by decide⟩ (show decode cX11_next 81 = .ok (.invokevirtual 137, 3) by decide +kernel) rfl, ?_⟩
  refine List.forall_mem_cons.mpr ⟨ok_istore_n C (show decode cX11_next 84 = .ok (.istore_n 1, 1) by decide +kernel) rfl (by decide) rfl, ?_⟩
  refine List.forall_mem_cons.mpr ⟨ok_iload_n C (show decode cX11_next 85 = .ok (.iload_n 1, 1) by decide +kernel) rfl rfl, ?_⟩
  refine List.forall_mem_cons.mpr ⟨ok_ifge C (show decode cX11_next 86 = .ok (.ifCond .ge 9, 3) by decide +kernel) (tg := 95) (by decide) rfl rfl, ?_⟩
  refine List.forall_mem_cons.mpr ⟨ok_aload_n C (show decode cX11_next 89 = .ok (.aload_n 0, 1) by decide +kernel) rfl rfl, ?_⟩
  refine List.forall_mem_cons.mpr ⟨ok_iconst C (show decode cX11_next 90 = .ok (.iconst 0, 1) by decide +kernel) (by decide) rfl, ?_⟩
  refine List.forall_mem_cons.mpr ⟨ok_putf C (wi_X11) tyX11 tyX11_ok nmX11 rfl (by decide) kw_1191 (Or.inl rfl) (Or.inl ⟨rfl, rfl⟩) (show decode cX11_next 91 = .ok (.putfield 147, 3) by decide +kernel) rfl, ?_⟩
  refine List.forall_mem_cons.mpr ⟨ok_vret C rfl (show decode cX11_next 94 = .ok (.return_, 1) by decide +kernel), ?_⟩
  refine List.forall_mem_cons.mpr ⟨ok_iload_n C (show decode cX11_next 95 = .ok (.iload_n 1, 1) by decide +kernel) rfl rfl, ?_⟩
  refine List.forall_mem_cons.mpr ⟨ok_callS C h_X11_isSmall ⟨rfl, rfl⟩ kw_1329 kw_1327 kw_1328 kw_11 ds_X11_isSmall ⟨by decide, by decide⟩ (show decode cX11_next 96 = .ok (.invokestatic 150, 3) by decide +kernel) rfl, ?_⟩
  refine List.forall_mem_cons.mpr ⟨ok_ifne C (show decode cX11_next 99 = .ok (.ifCond .ne 65, 3) by decide +kernel) (tg := 164) (by decide) rfl rfl, ?_⟩
  refine List.forall_mem_cons.mpr ⟨ok_iload_n C (show decode cX11_next 102 = .ok (.iload_n 1, 1) by decide +kernel) rfl rfl, ?_⟩
  refine List.forall_mem_cons.mpr ⟨ok_callS C h_X11_isDigit ⟨rfl, rfl⟩ kw_1332 kw_1330 kw_1331 kw_11 ds_X11_isDigit ⟨by decide, by decide⟩ (show decode cX11_next 103 = .ok (.invokestatic 154, 3) by decide +kernel) rfl, ?_⟩
  refine List.forall_mem_cons.mpr ⟨ok_ifne C (show decode cX11_next 106 = .ok (.ifCond .ne 58, 3) by decide +kernel) (tg := 164) (by decide) rfl rfl, ?_⟩
  refine List.forall_mem_cons.mpr ⟨ok_aload_n C (show decode cX11_next 109 = .ok (.aload_n 0, 1) by decide +kernel) rfl rfl, ?_⟩
  refine List.forall_mem_cons.mpr ⟨ok_iload_n C (show decode cX11_next 110 = .ok (.iload_n 1, 1) by decide +kernel) rfl rfl, ?_⟩
  refine List.forall_mem_cons.mpr ⟨ok_bipush C (show decode cX11_next 111 = .ok (.bipush 59, 2) by decide +kernel) (by decide) rfl, ?_⟩
  refine List.forall_mem_cons.mpr ⟨ok_icmpeq C (show decode cX11_next 113 = .ok (.if_icmp .eq 27, 3) by decide +kernel) (tg := 140) (by decide) rfl rfl, ?_⟩
  refine List.forall_mem_cons.mpr ⟨ok_iload_n C (show decode cX11_next 116 = .ok (.iload_n 1, 1) by decide +kernel) rfl rfl, ?_⟩
  refine List.forall_mem_cons.mpr ⟨ok_bipush C (show decode cX11_next 117 = .ok (.bipush 40, 2) by decide +kernel) (by decide) rfl, ?_⟩
  refine List.forall_mem_cons.mpr ⟨ok_icmpeq C (show decode cX11_next 119 = .ok (.if_icmp .eq 21, 3) by decide +kernel) (tg := 140) (by decide) rfl rfl, ?_⟩
  refine List.forall_mem_cons.mpr ⟨ok_iload_n C (show decode cX11_next 122 = .ok (.iload_n 1, 1) by decide +kernel) rfl rfl, ?_⟩
  refine List.forall_mem_cons.mpr ⟨ok_bipush C (show decode cX11_next 123 = .ok (.bipush 41, 2) by decide +kernel) (by decide) rfl, ?_⟩
  refine List.forall_mem_cons.mpr ⟨ok_icmpeq C (show decode cX11_next 125 = .ok (.if_icmp .eq 15, 3) by decide +kernel) (tg := 140) (by decide) rfl rfl, ?_⟩
  refine List.forall_mem_cons.mpr ⟨ok_iload_n C (show decode cX11_next 128 = .ok (.iload_n 1, 1) by decide +kernel) rfl rfl, ?_⟩
  refine List.forall_mem_cons.mpr ⟨ok_bipush C (show decode cX11_next 129 = .ok (.bipush 60, 2) by decide +kernel) (by decide) rfl, ?_⟩
  refine List.forall_mem_cons.mpr ⟨ok_icmplt C (show decode cX11_next 131 = .ok (.if_icmp .lt 13, 3) by decide +kernel) (tg := 144) (by decide) rfl rfl, ?_⟩
  refine List.forall_mem_cons.mpr ⟨ok_iload_n C (show decode cX11_next 134 = .ok (.iload_n 1, 1) by decide +kernel) rfl rfl, ?_⟩
  refine List.forall_mem_cons.mpr ⟨ok_bipush C (show decode cX11_next 135 = .ok (.bipush 62, 2) by decide +kernel) (by decide) rfl, ?_⟩
  refine List.forall_mem_cons.mpr ⟨ok_icmpgt C (show decode cX11_next 137 = .ok (.if_icmp .gt 7, 3) by decide +kernel) (tg := 144) (by decide) rfl rfl, ?_⟩
  refine List.forall_mem_cons.mpr ⟨ok_iconst C (show decode cX11_next 140 = .ok (.iconst 3, 1) by decide +kernel) (by decide) rfl, ?_⟩
  refine List.forall_mem_cons.mpr ⟨ok_goto C (show decode cX11_next 141 = .ok (.goto 4, 3) by decide +kernel) (tg := 145) (by decide) rfl, ?_⟩
  refine List.forall_mem_cons.mpr ⟨ok_iconst C (show decode cX11_next 144 = .ok (.iconst 4, 1) by decide +kernel) (by decide) rfl, ?_⟩
  refine List.forall_mem_cons.mpr ⟨ok_putf C (wi_X11) tyX11 tyX11_ok nmX11 rfl (by decide) kw_1191 (Or.inl rfl) (Or.inl ⟨rfl, rfl⟩) (show decode cX11_next 145 = .ok (.putfield 147, 3) by decide +kernel) rfl, ?_⟩
  refine List.forall_mem_cons.mpr ⟨ok_aload_n C (show decode cX11_next 148 = .ok (.aload_n 0, 1) by decide +kernel) rfl rfl, ?_⟩
  refine List.forall_mem_cons.mpr ⟨ok_iload_n C (show decode cX11_next 149 = .ok (.iload_n 1, 1) by decide +kernel) rfl rfl, ?_⟩
  refine List.forall_mem_cons.mpr ⟨ok_putf C (wi_X11) tyX11 tyX11_ok nmX11 rfl (by decide) kw_1194 (Or.inl rfl) (Or.inl ⟨rfl, rfl⟩) (show decode cX11_next 150 = .ok (.putfield 157, 3) by decide +kernel) rfl, ?_⟩
  refine List.forall_mem_cons.mpr ⟨ok_aload_n C (show decode cX11_next 153 = .ok (.aload_n 0, 1) by decide +kernel) rfl rfl, ?_⟩
  refine List.forall_mem_cons.mpr ⟨ok_dup C (show decode cX11_next 154 = .ok (.dup, 1) by decide +kernel) rfl, ?_⟩
  refine List.forall_mem_cons.mpr ⟨ok_getf C (wi_X11) rfl (by decide) kw_1184 (show decode cX11_next 155 = .ok (.getfield 21, 3) by decide +kernel) rfl, ?_⟩
  refine List.forall_mem_cons.mpr ⟨ok_iconst C (show decode cX11_next 158 = .ok (.iconst 1, 1) by decide +kernel) (by decide) rfl, ?_⟩
  refine List.forall_mem_cons.mpr ⟨ok_iadd C (show decode cX11_next 159 = .ok (.iadd, 1) by decide +kernel) rfl, ?_⟩
  refine List.forall_mem_cons.mpr ⟨ok_putf C (wi_X11) tyX11 tyX11_ok nmX11 rfl (by decide) kw_1184 (Or.inl rfl) (Or.inl ⟨rfl, rfl⟩) (show decode cX11_next 160 = .ok (.putfield 21, 3) by decide +kernel) rfl, ?_⟩
  refine List.forall_mem_cons.mpr ⟨ok_vret C rfl (show decode cX11_next 163 = .ok (.return_, 1) by decide +kernel), ?_⟩
  refine List.forall_mem_cons.mpr ⟨ok_iload_n C (show decode cX11_next 164 = .ok (.iload_n 1, 1) by decide +kernel) rfl rfl, ?_⟩
  refine List.forall_mem_cons.mpr ⟨ok_callS C h_X11_isSmall ⟨rfl, rfl⟩ kw_1329 kw_1327 kw_1328 kw_11 ds_X11_isSmall ⟨by decide, by decide⟩ (show decode cX11_next 165 = .ok (.invokestatic 150, 3) by decide +kernel) rfl, ?_⟩
  refine List.forall_mem_cons.mpr ⟨ok_istore_n C (show decode cX11_next 168 = .ok (.istore_n 2, 1) by decide +kernel) rfl (by decide) rfl, ?_⟩
  refine List.forall_mem_cons.mpr ⟨ok_iconst C (show decode cX11_next 169 = .ok (.iconst 1, 1) by decide +kernel) (by decide) rfl, ?_⟩
  refine List.forall_mem_cons.mpr ⟨ok_istore_n C (show decode cX11_next 170 = .ok (.istore_n 3, 1) by decide +kernel) rfl (by decide) rfl, ?_⟩
  refine List.forall_mem_cons.mpr ⟨ok_aload_n C (show decode cX11_next 171 = .ok (.aload_n 0, 1) by decide +kernel) rfl rfl, ?_⟩
  refine List.forall_mem_cons.mpr ⟨ok_lconst C (show decode cX11_next 172 = .ok (.lconst 0, 1) by decide +kernel) (by decide) rfl, ?_⟩
  refine List.forall_mem_cons.mpr ⟨ok_putf C (wi_X11) tyX11 tyX11_ok nmX11 rfl (by decide) kw_1197 (Or.inl rfl) (Or.inr (Or.inl ⟨rfl, rfl⟩)) (show decode cX11_next 173 = .ok (.putfield 160, 3) by decide +kernel) rfl, ?_⟩
  refine List.forall_mem_cons.mpr ⟨ok_aload_n C (show decode cX11_next 176 = .ok (.aload_n 0, 1) by decide +kernel) rfl rfl, ?_⟩
  refine List.forall_mem_cons.mpr ⟨ok_iconst C (show decode cX11_next 177 = .ok (.iconst 0, 1) by decide +kernel) (by decide) rfl, ?_⟩
  refine List.forall_mem_cons.mpr ⟨ok_putf C (wi_X11) tyX11 tyX11_ok nmX11 rfl (by decide) kw_1194 (Or.inl rfl) (Or.inl ⟨rfl, rfl⟩) (show decode cX11_next 178 = .ok (.putfield 157, 3) by decide +kernel) rfl, ?_⟩
  refine List.forall_mem_cons.mpr ⟨ok_aload_n C (show decode cX11_next 181 = .ok (.aload_n 0, 1) by decide +kernel) rfl rfl, ?_⟩
  refine List.forall_mem_cons.mpr ⟨ok_callV C h_X11_peek ⟨rfl, rfl⟩ rfl kw_1326 kw_1323 kw_1325 kp_50 kw_11 rfl ds_X11_peek ⟨by decide, by decide⟩ (show decode cX11_next 182 = .ok (.invokevirtual 137, 3) by decide +kernel) rfl, ?_⟩
  refine List.forall_mem_cons.mpr ⟨ok_callS C h_X11_isSmall ⟨rfl, rfl⟩ kw_1329 kw_1327 kw_1328 kw_11 ds_X11_isSmall ⟨by decide, by decide⟩ (show decode cX11_next 185 = .ok (.invokestatic 150, 3) by decide +kernel) rfl, ?_⟩
  refine List.forall_mem_cons.mpr ⟨ok_ifne C (show decode cX11_next 188 = .ok (.ifCond .ne 13, 3) by decide +kernel) (tg := 201) (by decide) rfl rfl, ?_⟩
  refine List.forall_mem_cons.mpr ⟨ok_aload_n C (show decode cX11_next 191 = .ok (.aload_n 0, 1) by decide +kernel) rfl rfl, ?_⟩
  refine List.forall_mem_cons.mpr ⟨ok_callV C h_X11_peek ⟨rfl, rfl⟩ rfl kw_1326 kw_1323 kw_1325 kp_50 kw_11 rfl ds_X11_peek ⟨by decide, by decide⟩ (show decode cX11_next 192 = .ok (.invokevirtual 137, 3) by decide +kernel) rfl, ?_⟩
  refine List.forall_mem_cons.mpr ⟨ok_callS C h_X11_isDigit ⟨rfl, rfl⟩ kw_1332 kw_1330 kw_1331 kw_11 ds_X11_isDigit ⟨by decide, by decide⟩ (show decode cX11_next 195 = .ok (.invokestatic 154, 3) by decide +kernel) rfl, ?_⟩
  refine List.forall_mem_cons.mpr ⟨ok_ifeq C (show decode cX11_next 198 = .ok (.ifCond .eq 100, 3) by decide +kernel) (tg := 298) (by decide) rfl rfl, ?_⟩
  refine List.forall_mem_cons.mpr ⟨ok_iload_n C (show decode cX11_next 201 = .ok (.iload_n 3, 1) by decide +kernel) rfl rfl, ?_⟩
  refine List.forall_mem_cons.mpr ⟨ok_ifeq C (show decode cX11_next 202 = .ok (.ifCond .eq 18, 3) by decide +kernel) (tg := 220) (by decide) rfl rfl, ?_⟩
  refine List.forall_mem_cons.mpr ⟨ok_aload_n C (show decode cX11_next 205 = .ok (.aload_n 0, 1) by decide +kernel) rfl rfl, ?_⟩
  refine List.forall_mem_cons.mpr ⟨ok_callV C h_X11_peek ⟨rfl, rfl⟩ rfl kw_1326 kw_1323 kw_1325 kp_50 kw_11 rfl ds_X11_peek ⟨by decide, by decide⟩ (show decode cX11_next 206 = .ok (.invokevirtual 137, 3) by decide +kernel) rfl, ?_⟩
  refine List.forall_mem_cons.mpr ⟨ok_callS C h_X11_isSmall ⟨rfl, rfl⟩ kw_1329 kw_1327 kw_1328 kw_11 ds_X11_isSmall ⟨by decide, by decide⟩ (show decode cX11_next 209 = .ok (.invokestatic 150, 3) by decide +kernel) rfl, ?_⟩
  refine List.forall_mem_cons.mpr ⟨ok_iload_n C (show decode cX11_next 212 = .ok (.iload_n 2, 1) by decide +kernel) rfl rfl, ?_⟩
  refine List.forall_mem_cons.mpr ⟨ok_icmpne C (show decode cX11_next 213 = .ok (.if_icmp .ne 7, 3) by decide +kernel) (tg := 220) (by decide) rfl rfl, ?_⟩
  refine List.forall_mem_cons.mpr ⟨ok_iconst C (show decode cX11_next 216 = .ok (.iconst 1, 1) by decide +kernel) (by decide) rfl, ?_⟩
  refine List.forall_mem_cons.mpr ⟨ok_goto C (show decode cX11_next 217 = .ok (.goto 4, 3) by decide +kernel) (tg := 221) (by decide) rfl, ?_⟩
  refine List.forall_mem_cons.mpr ⟨ok_iconst C (show decode cX11_next 220 = .ok (.iconst 0, 1) by decide +kernel) (by decide) rfl, ?_⟩
  refine List.forall_mem_cons.mpr ⟨ok_istore_n C (show decode cX11_next 221 = .ok (.istore_n 3, 1) by decide +kernel) rfl (by decide) rfl, ?_⟩
  refine List.forall_mem_cons.mpr ⟨ok_aload_n C (show decode cX11_next 222 = .ok (.aload_n 0, 1) by decide +kernel) rfl rfl, ?_⟩
  refine List.forall_mem_cons.mpr ⟨ok_getf C (wi_X11) rfl (by decide) kw_1193 (show decode cX11_next 223 = .ok (.getfield 144, 3) by decide +kernel) rfl, ?_⟩
  refine List.forall_mem_cons.mpr ⟨ok_bipush C (show decode cX11_next 226 = .ok (.bipush 7, 2) by decide +kernel) (by decide) rfl, ?_⟩
  refine List.forall_mem_cons.mpr ⟨ok_icmpge C (show decode cX11_next 228 = .ok (.if_icmp .ge 20, 3) by decide +kernel) (tg := 248) (by decide) rfl rfl, ?_⟩
  refine List.forall_mem_cons.mpr ⟨ok_aload_n C (show decode cX11_next 231 = .ok (.aload_n 0, 1) by decide +kernel) rfl rfl, ?_⟩
  refine List.forall_mem_cons.mpr ⟨ok_aload_n C (show decode cX11_next 232 = .ok (.aload_n 0, 1) by decide +kernel) rfl rfl, ?_⟩
  refine List.forall_mem_cons.mpr ⟨ok_getf C (wi_X11) rfl (by decide) kw_1197 (show decode cX11_next 233 = .ok (.getfield 160, 3) by decide +kernel) rfl, ?_⟩
  refine List.forall_mem_cons.mpr ⟨ok_bipush C (show decode cX11_next 236 = .ok (.bipush 8, 2) by decide +kernel) (by decide) rfl, ?_⟩
  refine List.forall_mem_cons.mpr ⟨ok_lshl C (show decode cX11_next 238 = .ok (.lshl, 1) by decide +kernel) rfl, ?_⟩
  refine List.forall_mem_cons.mpr ⟨ok_aload_n C (show decode cX11_next 239 = .ok (.aload_n 0, 1) by decide +kernel) rfl rfl, ?_⟩
  refine List.forall_mem_cons.mpr ⟨ok_callV C h_X11_peek ⟨rfl, rfl⟩ rfl kw_1326 kw_1323 kw_1325 kp_50 kw_11 rfl ds_X11_peek ⟨by decide, by decide⟩ (show decode cX11_next 240 = .ok (.invokevirtual 137, 3) by decide +kernel) rfl, ?_⟩
  refine List.forall_mem_cons.mpr ⟨ok_i2l C (show decode cX11_next 243 = .ok (.i2l, 1) by decide +kernel) rfl, ?_⟩
  refine List.forall_mem_cons.mpr ⟨ok_lor C (show decode cX11_next 244 = .ok (.lor, 1) by decide +kernel) rfl, ?_⟩
  refine List.forall_mem_cons.mpr ⟨ok_putf C (wi_X11) tyX11 tyX11_ok nmX11 rfl (by decide) kw_1197 (Or.inl rfl) (Or.inr (Or.inl ⟨rfl, rfl⟩)) (show decode cX11_next 245 = .ok (.putfield 160, 3) by decide +kernel) rfl, ?_⟩
  refine List.forall_mem_cons.mpr ⟨ok_aload_n C (show decode cX11_next 248 = .ok (.aload_n 0, 1) by decide +kernel) rfl rfl, ?_⟩
  refine List.forall_mem_cons.mpr ⟨ok_getf C (wi_X11) rfl (by decide) kw_1193 (show decode cX11_next 249 = .ok (.getfield 144, 3) by decide +kernel) rfl, ?_⟩
  refine List.forall_mem_cons.mpr ⟨ok_iconst C (show decode cX11_next 252 = .ok (.iconst 3, 1) by decide +kernel) (by decide) rfl, ?_⟩
  refine List.forall_mem_cons.mpr ⟨ok_icmpge C (show decode cX11_next 253 = .ok (.if_icmp .ge 22, 3) by decide +kernel) (tg := 275) (by decide) rfl rfl, ?_⟩
  refine List.forall_mem_cons.mpr ⟨ok_aload_n C (show decode cX11_next 256 = .ok (.aload_n 0, 1) by decide +kernel) rfl rfl, ?_⟩
  refine List.forall_mem_cons.mpr ⟨ok_bipush C (show decode cX11_next 257 = .ok (.bipush 10, 2) by decide +kernel) (by decide) rfl, ?_⟩
  refine List.forall_mem_cons.mpr ⟨ok_aload_n C (show decode cX11_next 259 = .ok (.aload_n 0, 1) by decide +kernel) rfl rfl, ?_⟩
  refine List.forall_mem_cons.mpr ⟨ok_getf C (wi_X11) rfl (by decide) kw_1194 (show decode cX11_next 260 = .ok (.getfield 157, 3) by decide +kernel) rfl, ?_⟩
  refine List.forall_mem_cons.mpr ⟨ok_imul C (show decode cX11_next 263 = .ok (.imul, 1) by decide +kernel) rfl, ?_⟩
  refine List.forall_mem_cons.mpr ⟨ok_aload_n C (show decode cX11_next 264 = .ok (.aload_n 0, 1) by decide +kernel) rfl rfl, ?_⟩
  refine List.forall_mem_cons.mpr ⟨ok_callV C h_X11_peek ⟨rfl, rfl⟩ rfl kw_1326 kw_1323 kw_1325 kp_50 kw_11 rfl ds_X11_peek ⟨by decide, by decide⟩ (show decode cX11_next 265 = .ok (.invokevirtual 137, 3) by decide +kernel) rfl, ?_⟩
  refine List.forall_mem_cons.mpr ⟨ok_iadd C (show decode cX11_next 268 = .ok (.iadd, 1) by decide +kernel) rfl, ?_⟩
  refine List.forall_mem_cons.mpr ⟨ok_bipush C (show decode cX11_next 269 = .ok (.bipush 48, 2) by decide +kernel) (by decide) rfl, ?_⟩
  refine List.forall_mem_cons.mpr ⟨ok_isub C (show decode cX11_next 271 = .ok (.isub, 1) by decide +kernel) rfl, ?_⟩
  refine List.forall_mem_cons.mpr ⟨ok_putf C (wi_X11) tyX11 tyX11_ok nmX11 rfl (by decide) kw_1194 (Or.inl rfl) (Or.inl ⟨rfl, rfl⟩) (show decode cX11_next 272 = .ok (.putfield 157, 3) by decide +kernel) rfl, ?_⟩
  refine List.forall_mem_cons.mpr ⟨ok_aload_n C (show decode cX11_next 275 = .ok (.aload_n 0, 1) by decide +kernel) rfl rfl, ?_⟩
  refine List.forall_mem_cons.mpr ⟨ok_dup C (show decode cX11_next 276 = .ok (.dup, 1) by decide +kernel) rfl, ?_⟩
  refine List.forall_mem_cons.mpr ⟨ok_getf C (wi_X11) rfl (by decide) kw_1193 (show decode cX11_next 277 = .ok (.getfield 144, 3) by decide +kernel) rfl, ?_⟩
  refine List.forall_mem_cons.mpr ⟨ok_iconst C (show decode cX11_next 280 = .ok (.iconst 1, 1) by decide +kernel) (by decide) rfl, ?_⟩
  refine List.forall_mem_cons.mpr ⟨ok_iadd C (show decode cX11_next 281 = .ok (.iadd, 1) by decide +kernel) rfl, ?_⟩
  refine List.forall_mem_cons.mpr ⟨ok_putf C (wi_X11) tyX11 tyX11_ok nmX11 rfl (by decide) kw_1193 (Or.inl rfl) (Or.inl ⟨rfl, rfl⟩) (show decode cX11_next 282 = .ok (.putfield 144, 3) by decide +kernel) rfl, ?_⟩
  refine List.forall_mem_cons.mpr ⟨ok_aload_n C (show decode cX11_next 285 = .ok (.aload_n 0, 1) by decide +kernel) rfl rfl, ?_⟩
  refine List.forall_mem_cons.mpr ⟨ok_dup C (show decode cX11_next 286 = .ok (.dup, 1) by decide +kernel) rfl, ?_⟩
  refine List.forall_mem_cons.mpr ⟨ok_getf C (wi_X11) rfl (by decide) kw_1184 (show decode cX11_next 287 = .ok (.getfield 21, 3) by decide +kernel) rfl, ?_⟩
  refine List.forall_mem_cons.mpr ⟨ok_iconst C (show decode cX11_next 290 = .ok (.iconst 1, 1) by decide +kernel) (by decide) rfl, ?_⟩
  refine List.forall_mem_cons.mpr ⟨ok_iadd C (show decode cX11_next 291 = .ok (.iadd, 1) by decide +kernel) rfl, ?_⟩
  refine List.forall_mem_cons.mpr ⟨ok_putf C (wi_X11) tyX11 tyX11_ok nmX11 rfl (by decide) kw_1184 (Or.inl rfl) (Or.inl ⟨rfl, rfl⟩) (show decode cX11_next 292 = .ok (.putfield 21, 3) by decide +kernel) rfl, ?_⟩
  refine List.forall_mem_cons.mpr ⟨ok_goto C (show decode cX11_next 295 = .ok (.goto (-114), 3) by decide +kernel) (tg := 181) (by decide) rfl, ?_⟩
  refine List.forall_mem_cons.mpr ⟨ok_aload_n C (show decode cX11_next 298 = .ok (.aload_n 0, 1) by decide +kernel) rfl rfl, ?_⟩
  refine List.forall_mem_cons.mpr ⟨ok_iload_n C (show decode cX11_next 299 = .ok (.iload_n 3, 1) by decide +kernel) rfl rfl, ?_⟩
  refine List.forall_mem_cons.mpr ⟨ok_ifeq C (show decode cX11_next 300 = .ok (.ifCond .eq 20, 3) by decide +kernel) (tg := 320) (by decide) rfl rfl, ?_⟩
  refine List.forall_mem_cons.mpr ⟨ok_aload_n C (show decode cX11_next 303 = .ok (.aload_n 0, 1) by decide +kernel) rfl rfl, ?_⟩
  refine List.forall_mem_cons.mpr ⟨ok_getf C (wi_X11) rfl (by decide) kw_1193 (show decode cX11_next 304 = .ok (.getfield 144, 3) by decide +kernel) rfl, ?_⟩
  refine List.forall_mem_cons.mpr ⟨ok_iload_n C (show decode cX11_next 307 = .ok (.iload_n 2, 1) by decide +kernel) rfl rfl, ?_⟩
  refine List.forall_mem_cons.mpr ⟨ok_ifeq C (show decode cX11_next 308 = .ok (.ifCond .eq 8, 3) by decide +kernel) (tg := 316) (by decide) rfl rfl, ?_⟩
  refine List.forall_mem_cons.mpr ⟨ok_bipush C (show decode cX11_next 311 = .ok (.bipush 7, 2) by decide +kernel) (by decide) rfl, ?_⟩
  refine List.forall_mem_cons.mpr ⟨ok_goto C (show decode cX11_next 313 = .ok (.goto 4, 3) by decide +kernel) (tg := 317) (by decide) rfl, ?_⟩
  refine List.forall_mem_cons.mpr ⟨ok_iconst C (show decode cX11_next 316 = .ok (.iconst 3, 1) by decide +kernel) (by decide) rfl, ?_⟩
  refine List.forall_mem_cons.mpr ⟨ok_icmple C (show decode cX11_next 317 = .ok (.if_icmp .le 7, 3) by decide +kernel) (tg := 324) (by decide) rfl rfl, ?_⟩
  refine List.forall_mem_cons.mpr ⟨ok_iconst C (show decode cX11_next 320 = .ok (.iconst 4, 1) by decide +kernel) (by decide) rfl, ?_⟩
  refine List.forall_mem_cons.mpr ⟨ok_goto C (show decode cX11_next 321 = .ok (.goto 12, 3) by decide +kernel) (tg := 333) (by decide) rfl, ?_⟩
  refine List.forall_mem_cons.mpr ⟨ok_iload_n C (show decode cX11_next 324 = .ok (.iload_n 2, 1) by decide +kernel) rfl rfl, ?_⟩
  refine List.forall_mem_cons.mpr ⟨ok_ifeq C (show decode cX11_next 325 = .ok (.ifCond .eq 7, 3) by decide +kernel) (tg := 332) (by decide) rfl rfl, ?_⟩
  refine List.forall_mem_cons.mpr ⟨ok_iconst C (show decode cX11_next 328 = .ok (.iconst 1, 1) by decide +kernel) (by decide) rfl, ?_⟩
  refine List.forall_mem_cons.mpr ⟨ok_goto C (show decode cX11_next 329 = .ok (.goto 4, 3) by decide +kernel) (tg := 333) (by decide) rfl, ?_⟩
  refine List.forall_mem_cons.mpr ⟨ok_iconst C (show decode cX11_next 332 = .ok (.iconst 2, 1) by decide +kernel) (by decide) rfl, ?_⟩
  refine List.forall_mem_cons.mpr ⟨ok_putf C (wi_X11) tyX11 tyX11_ok nmX11 rfl (by decide) kw_1191 (Or.inl rfl) (Or.inl ⟨rfl, rfl⟩) (show decode cX11_next 333 = .ok (.putfield 147, 3) by decide +kernel) rfl, ?_⟩
  refine List.forall_mem_cons.mpr ⟨ok_vret C rfl (show decode cX11_next 336 = .ok (.return_, 1) by decide +kernel), ?_⟩
  exact fun _ h => absurd h List.not_mem_nil
def L_X11_bad : List (Nat × ab_A) := [
  (0, ab_nx 1 (ab_aload 0)),
  (1, ab_nx 2 (ab_iload 1)),
  (2, ab_nx 5 (ab_putf 11 15 0)),
  (5, ab_nx 6 (ab_aload 0)),
  (6, ab_nx 7 (ab_aload 0)),
  (7, ab_nx 10 (ab_getf 11 12)),
  (10, ab_nx 13 (ab_putf 11 16 0)),
  (13, ab_nx 14 (ab_lit (.int 0))),
  (14, ab_zret 0 0)]
set_option maxRecDepth 100000 in
set_option maxHeartbeats 4000000 in
theorem M_X11_bad {l : Launch} {b : ab_B} {D : va_G} {cA : Nat → ClassId} : ab_M l b D ab_cl cA (ab_E0 b) yX11_bad (Cond.code yX11_bad cX11_bad 2 (some .boolean) :: ab_G) ({ frames := 1, cells := 0, slots := 0, locals := 100 } : Room) (ab_X (ab_T L_X11_bad) 2) := by
  refine ab_meth (ret := (some .boolean)) L_X11_bad (by decide) rfl fun p e R s m args below meth c o C => ?_
  unfold L_X11_bad
  refine List.forall_mem_cons.mpr ⟨ok_aload_n C (show decode cX11_bad 0 = .ok (.aload_n 0, 1) by decide +kernel) rfl rfl, ?_⟩
  refine List.forall_mem_cons.mpr ⟨ok_iload_n C (show decode cX11_bad 1 = .ok (.iload_n 1, 1) by decide +kernel) rfl rfl, ?_⟩
  refine List.forall_mem_cons.mpr ⟨ok_putf C (wi_X11) tyX11 tyX11_ok nmX11 rfl (by decide) kw_1195 (Or.inl rfl) (Or.inl ⟨rfl, rfl⟩) (show decode cX11_bad 2 = .ok (.putfield 164, 3) by decide +kernel) rfl, ?_⟩
  refine List.forall_mem_cons.mpr ⟨ok_aload_n C (show decode cX11_bad 5 = .ok (.aload_n 0, 1) by decide +kernel) rfl rfl, ?_⟩
  refine List.forall_mem_cons.mpr ⟨ok_aload_n C (show decode cX11_bad 6 = .ok (.aload_n 0, 1) by decide +kernel) rfl rfl, ?_⟩
  refine List.forall_mem_cons.mpr ⟨ok_getf C (wi_X11) rfl (by decide) kw_1192 (show decode cX11_bad 7 = .ok (.getfield 141, 3) by decide +kernel) rfl, ?_⟩
  refine List.forall_mem_cons.mpr ⟨ok_putf C (wi_X11) tyX11 tyX11_ok nmX11 rfl (by decide) kw_1196 (Or.inl rfl) (Or.inl ⟨rfl, rfl⟩) (show decode cX11_bad 10 = .ok (.putfield 167, 3) by decide +kernel) rfl, ?_⟩
  refine List.forall_mem_cons.mpr ⟨ok_iconst C (show decode cX11_bad 13 = .ok (.iconst 0, 1) by decide +kernel) (by decide) rfl, ?_⟩
  refine List.forall_mem_cons.mpr ⟨ok_zret C rfl (show decode cX11_bad 14 = .ok (.ireturn, 1) by decide +kernel), ?_⟩
  exact fun _ h => absurd h List.not_mem_nil
def L_X11_isWord : List (Nat × ab_A) := [
  (0, ab_nx 1 (ab_aload 0)),
  (1, ab_nx 4 (ab_getf 11 11)),
  (4, ab_nx 5 (ab_lit (.int 1))),
  (5, ab_icmp 8 21 (fun x y => !decide (x = y))),
  (8, ab_nx 9 (ab_aload 0)),
  (9, ab_nx 12 (ab_getf 11 17)),
  (12, ab_nx 13 (ab_lload 1)),
  (13, ab_nx 14 ab_lcmp),
  (14, ab_if 17 21 (fun x => !decide (x = 0))),
  (17, ab_nx 18 (ab_lit (.int 1))),
  (18, ab_goto 22),
  (21, ab_nx 22 (ab_lit (.int 0))),
  (22, ab_zret 0 0)]
set_option maxRecDepth 100000 in
set_option maxHeartbeats 4000000 in
theorem M_X11_isWord {l : Launch} {b : ab_B} {D : va_G} {cA : Nat → ClassId} : ab_M l b D ab_cl cA (ab_E0 b) yX11_isWord (Cond.code yX11_isWord cX11_isWord 3 (some .boolean) :: ab_G) ({ frames := 1, cells := 0, slots := 0, locals := 100 } : Room) (ab_X (ab_T L_X11_isWord) 3) := by
  refine ab_meth (ret := (some .boolean)) L_X11_isWord (by decide) rfl fun p e R s m args below meth c o C => ?_
  unfold L_X11_isWord
  refine List.forall_mem_cons.mpr ⟨ok_aload_n C (show decode cX11_isWord 0 = .ok (.aload_n 0, 1) by decide +kernel) rfl rfl, ?_⟩
  refine List.forall_mem_cons.mpr ⟨ok_getf C (wi_X11) rfl (by decide) kw_1191 (show decode cX11_isWord 1 = .ok (.getfield 147, 3) by decide +kernel) rfl, ?_⟩
  refine List.forall_mem_cons.mpr ⟨ok_iconst C (show decode cX11_isWord 4 = .ok (.iconst 1, 1) by decide +kernel) (by decide) rfl, ?_⟩
  refine List.forall_mem_cons.mpr ⟨ok_icmpne C (show decode cX11_isWord 5 = .ok (.if_icmp .ne 16, 3) by decide +kernel) (tg := 21) (by decide) rfl rfl, ?_⟩
  refine List.forall_mem_cons.mpr ⟨ok_aload_n C (show decode cX11_isWord 8 = .ok (.aload_n 0, 1) by decide +kernel) rfl rfl, ?_⟩
  refine List.forall_mem_cons.mpr ⟨ok_getf C (wi_X11) rfl (by decide) kw_1197 (show decode cX11_isWord 9 = .ok (.getfield 160, 3) by decide +kernel) rfl, ?_⟩
  refine List.forall_mem_cons.mpr ⟨ok_lload_n C (show decode cX11_isWord 12 = .ok (.lload_n 1, 1) by decide +kernel) rfl rfl, ?_⟩
  refine List.forall_mem_cons.mpr ⟨ok_lcmp C (show decode cX11_isWord 13 = .ok (.lcmp, 1) by decide +kernel) rfl, ?_⟩
  refine List.forall_mem_cons.mpr ⟨ok_ifne C (show decode cX11_isWord 14 = .ok (.ifCond .ne 7, 3) by decide +kernel) (tg := 21) (by decide) rfl rfl, ?_⟩
  refine List.forall_mem_cons.mpr ⟨ok_iconst C (show decode cX11_isWord 17 = .ok (.iconst 1, 1) by decide +kernel) (by decide) rfl, ?_⟩
  refine List.forall_mem_cons.mpr ⟨ok_goto C (show decode cX11_isWord 18 = .ok (.goto 4, 3) by decide +kernel) (tg := 22) (by decide) rfl, ?_⟩
  refine List.forall_mem_cons.mpr ⟨ok_iconst C (show decode cX11_isWord 21 = .ok (.iconst 0, 1) by decide +kernel) (by decide) rfl, ?_⟩
  refine List.forall_mem_cons.mpr ⟨ok_zret C rfl (show decode cX11_isWord 22 = .ok (.ireturn, 1) by decide +kernel), ?_⟩
  exact fun _ h => absurd h List.not_mem_nil
def L_X11_isSign : List (Nat × ab_A) := [
  (0, ab_nx 1 (ab_aload 0)),
  (1, ab_nx 4 (ab_getf 11 11)),
  (4, ab_nx 5 (ab_lit (.int 3))),
  (5, ab_icmp 8 20 (fun x y => !decide (x = y))),
  (8, ab_nx 9 (ab_aload 0)),
  (9, ab_nx 12 (ab_getf 11 14)),
  (12, ab_nx 13 (ab_iload 1)),
  (13, ab_icmp 16 20 (fun x y => !decide (x = y))),
  (16, ab_nx 17 (ab_lit (.int 1))),
  (17, ab_goto 21),
  (20, ab_nx 21 (ab_lit (.int 0))),
  (21, ab_zret 0 0)]
set_option maxRecDepth 100000 in
set_option maxHeartbeats 4000000 in
theorem M_X11_isSign {l : Launch} {b : ab_B} {D : va_G} {cA : Nat → ClassId} : ab_M l b D ab_cl cA (ab_E0 b) yX11_isSign (Cond.code yX11_isSign cX11_isSign 2 (some .boolean) :: ab_G) ({ frames := 1, cells := 0, slots := 0, locals := 100 } : Room) (ab_X (ab_T L_X11_isSign) 2) := by
  refine ab_meth (ret := (some .boolean)) L_X11_isSign (by decide) rfl fun p e R s m args below meth c o C => ?_
  unfold L_X11_isSign
  refine List.forall_mem_cons.mpr ⟨ok_aload_n C (show decode cX11_isSign 0 = .ok (.aload_n 0, 1) by decide +kernel) rfl rfl, ?_⟩
  refine List.forall_mem_cons.mpr ⟨ok_getf C (wi_X11) rfl (by decide) kw_1191 (show decode cX11_isSign 1 = .ok (.getfield 147, 3) by decide +kernel) rfl, ?_⟩
  refine List.forall_mem_cons.mpr ⟨ok_iconst C (show decode cX11_isSign 4 = .ok (.iconst 3, 1) by decide +kernel) (by decide) rfl, ?_⟩
  refine List.forall_mem_cons.mpr ⟨ok_icmpne C (show decode cX11_isSign 5 = .ok (.if_icmp .ne 15, 3) by decide +kernel) (tg := 20) (by decide) rfl rfl, ?_⟩
  refine List.forall_mem_cons.mpr ⟨ok_aload_n C (show decode cX11_isSign 8 = .ok (.aload_n 0, 1) by decide +kernel) rfl rfl, ?_⟩
  refine List.forall_mem_cons.mpr ⟨ok_getf C (wi_X11) rfl (by decide) kw_1194 (show decode cX11_isSign 9 = .ok (.getfield 157, 3) by decide +kernel) rfl, ?_⟩
  refine List.forall_mem_cons.mpr ⟨ok_iload_n C (show decode cX11_isSign 12 = .ok (.iload_n 1, 1) by decide +kernel) rfl rfl, ?_⟩
  refine List.forall_mem_cons.mpr ⟨ok_icmpne C (show decode cX11_isSign 13 = .ok (.if_icmp .ne 7, 3) by decide +kernel) (tg := 20) (by decide) rfl rfl, ?_⟩
  refine List.forall_mem_cons.mpr ⟨ok_iconst C (show decode cX11_isSign 16 = .ok (.iconst 1, 1) by decide +kernel) (by decide) rfl, ?_⟩
  refine List.forall_mem_cons.mpr ⟨ok_goto C (show decode cX11_isSign 17 = .ok (.goto 4, 3) by decide +kernel) (tg := 21) (by decide) rfl, ?_⟩
  refine List.forall_mem_cons.mpr ⟨ok_iconst C (show decode cX11_isSign 20 = .ok (.iconst 0, 1) by decide +kernel) (by decide) rfl, ?_⟩
  refine List.forall_mem_cons.mpr ⟨ok_zret C rfl (show decode cX11_isSign 21 = .ok (.ireturn, 1) by decide +kernel), ?_⟩
  exact fun _ h => absurd h List.not_mem_nil
def L_X11_sign (f_X11_isSign : List Value → ab_H → Option ab_O) (f_X11_bad : List Value → ab_H → Option ab_O) (f_X11_next : List Value → ab_H → Option ab_O) : List (Nat × ab_A) := [
  (0, ab_nx 1 (ab_aload 0)),
  (1, ab_nx 2 (ab_iload 1)),
  (2, ab_nx 5 (ab_callV 2 11 f_X11_isSign 0 0 0 0)),
  (5, ab_if 8 14 (fun x => !decide (x = 0))),
  (8, ab_nx 9 (ab_aload 0)),
  (9, ab_nx 10 (ab_lit (.int 1))),
  (10, ab_nx 13 (ab_callV 2 11 f_X11_bad 0 0 0 0)),
  (13, ab_zret 0 0),
  (14, ab_nx 15 (ab_aload 0)),
  (15, ab_nx 18 (ab_callV 1 11 f_X11_next 0 0 0 0)),
  (18, ab_nx 19 (ab_lit (.int 1))),
  (19, ab_zret 0 0)]
set_option maxRecDepth 100000 in
set_option maxHeartbeats 4000000 in
theorem M_X11_sign {l : Launch} {b : ab_B} {D : va_G} {cA : Nat → ClassId} {f_X11_isSign : List Value → ab_H → Option ab_O} (h_X11_isSign : ab_M l b D ab_cl cA (ab_E0 b) yX11_isSign (Cond.code yX11_isSign cX11_isSign 2 (some .boolean) :: ab_G) ({ frames := 1, cells := 0, slots := 0, locals := 100 } : Room) f_X11_isSign) {f_X11_bad : List Value → ab_H → Option ab_O} (h_X11_bad : ab_M l b D ab_cl cA (ab_E0 b) yX11_bad (Cond.code yX11_bad cX11_bad 2 (some .boolean) :: ab_G) ({ frames := 1, cells := 0, slots := 0, locals := 100 } : Room) f_X11_bad) {f_X11_next : List Value → ab_H → Option ab_O} (h_X11_next : ab_M l b D ab_cl cA (ab_E0 b) yX11_next (Cond.code yX11_next cX11_next 4 none :: ab_G) ({ frames := 2, cells := 0, slots := 0, locals := 200 } : Room) f_X11_next) : ab_M l b D ab_cl cA (ab_E0 b) yX11_sign (Cond.code yX11_sign cX11_sign 2 (some .boolean) :: ab_G) ({ frames := 3, cells := 0, slots := 0, locals := 300 } : Room) (ab_X (ab_T (L_X11_sign f_X11_isSign f_X11_bad f_X11_next)) 2) := by
  refine ab_meth (ret := (some .boolean)) (L_X11_sign f_X11_isSign f_X11_bad f_X11_next) (by decide) rfl fun p e R s m args below meth c o C => ?_
  unfold L_X11_sign
  refine List.forall_mem_cons.mpr ⟨ok_aload_n C (show decode cX11_sign 0 = .ok (.aload_n 0, 1) by decide +kernel) rfl rfl, ?_⟩
  refine List.forall_mem_cons.mpr ⟨ok_iload_n C (show decode cX11_sign 1 = .ok (.iload_n 1, 1) by decide +kernel) rfl rfl, ?_⟩
  refine List.forall_mem_cons.mpr ⟨ok_callV C h_X11_isSign ⟨rfl, rfl⟩ rfl kw_1390 kw_1387 kw_1389 kp_63 kw_11 rfl ds_X11_isSign ⟨by decide, by decide⟩ (show decode cX11_sign 2 = .ok (.invokevirtual 170, 3) by decide +kernel) rfl, ?_⟩
  refine List.forall_mem_cons.mpr ⟨ok_ifne C (show decode cX11_sign 5 = .ok (.ifCond .ne 9, 3) by decide +kernel) (tg := 14) (by decide) rfl rfl, ?_⟩
  refine List.forall_mem_cons.mpr ⟨ok_aload_n C (show decode cX11_sign 8 = .ok (.aload_n 0, 1) by decide +kernel) rfl rfl, ?_⟩
  refine List.forall_mem_cons.mpr ⟨ok_iconst C (show decode cX11_sign 9 = .ok (.iconst 1, 1) by decide +kernel) (by decide) rfl, ?_⟩
  refine List.forall_mem_cons.mpr ⟨ok_callV C h_X11_bad ⟨rfl, rfl⟩ rfl kw_1344 kw_1341 kw_1343 kp_53 kw_11 rfl ds_X11_bad ⟨by decide, by decide⟩ (show decode cX11_sign 10 = .ok (.invokevirtual 173, 3) by decide +kernel) rfl, ?_⟩
  refine List.forall_mem_cons.mpr ⟨ok_zret C rfl (show decode cX11_sign 13 = .ok (.ireturn, 1) by decide +kernel), ?_⟩
  refine List.forall_mem_cons.mpr ⟨ok_aload_n C (show decode cX11_sign 14 = .ok (.aload_n 0, 1) by decide +kernel) rfl rfl, ?_⟩
  refine List.forall_mem_cons.mpr ⟨ok_callV C h_X11_next ⟨rfl, rfl⟩ rfl kw_1322 kw_1319 kw_1321 kp_49 kw_11 rfl ds_X11_next ⟨by decide, by decide⟩ (show decode cX11_sign 15 = .ok (.invokevirtual 176, 3) by decide +kernel) rfl, ?_⟩
  refine List.forall_mem_cons.mpr ⟨ok_iconst C (show decode cX11_sign 18 = .ok (.iconst 1, 1) by decide +kernel) (by decide) rfl, ?_⟩
  refine List.forall_mem_cons.mpr ⟨ok_zret C rfl (show decode cX11_sign 19 = .ok (.ireturn, 1) by decide +kernel), ?_⟩
  exact fun _ h => absurd h List.not_mem_nil
def L_X11_isName : List (Nat × ab_A) := [
  (0, ab_nx 1 (ab_aload 0)),
  (1, ab_nx 4 (ab_getf 11 11)),
  (4, ab_nx 5 (ab_lit (.int 1))),
  (5, ab_icmp 8 12 (fun x y => !decide (x = y))),
  (8, ab_nx 9 (ab_lit (.int 1))),
  (9, ab_goto 13),
  (12, ab_nx 13 (ab_lit (.int 0))),
  (13, ab_nx 14 (ab_istore 1)),
  (14, ab_nx 15 (ab_lit (.int 0))),
  (15, ab_nx 16 (ab_istore 2)),
  (16, ab_nx 17 (ab_iload 2)),
  (17, ab_nx 19 (ab_lit (.int 25))),
  (19, ab_icmp 22 52 (fun x y => decide (y ≤ x))),
  (22, ab_nx 23 (ab_iload 1)),
  (23, ab_if 26 44 (fun x => decide (x = 0))),
  (26, ab_nx 27 (ab_aload 0)),
  (27, ab_nx 30 (ab_getf 11 17)),
  (30, ab_nx 31 (ab_aload 0)),
  (31, ab_nx 34 (ab_getf 11 10)),
  (34, ab_nx 35 (ab_iload 2)),
  (35, ab_nx 36 ab_lald),
  (36, ab_nx 37 ab_lcmp),
  (37, ab_if 40 44 (fun x => decide (x = 0))),
  (40, ab_nx 41 (ab_lit (.int 1))),
  (41, ab_goto 45),
  (44, ab_nx 45 (ab_lit (.int 0))),
  (45, ab_nx 46 (ab_istore 1)),
  (46, ab_nx 49 (ab_iinc 2 1)),
  (49, ab_goto 16),
  (52, ab_nx 53 (ab_iload 1)),
  (53, ab_zret 0 0)]
set_option maxRecDepth 100000 in
set_option maxHeartbeats 4000000 in
theorem M_X11_isName {l : Launch} {b : ab_B} {D : va_G} {cA : Nat → ClassId} : ab_M l b D ab_cl cA (ab_E0 b) yX11_isName (Cond.code yX11_isName cX11_isName 3 (some .boolean) :: ab_G) ({ frames := 1, cells := 0, slots := 0, locals := 100 } : Room) (ab_X (ab_T L_X11_isName) 3) := by
  refine ab_meth (ret := (some .boolean)) L_X11_isName (by decide) rfl fun p e R s m args below meth c o C => ?_
  unfold L_X11_isName
  refine List.forall_mem_cons.mpr ⟨ok_aload_n C (show decode cX11_isName 0 = .ok (.aload_n 0, 1) by decide +kernel) rfl rfl, ?_⟩
  refine List.forall_mem_cons.mpr ⟨ok_getf C (wi_X11) rfl (by decide) kw_1191 (show decode cX11_isName 1 = .ok (.getfield 147, 3) by decide +kernel) rfl, ?_⟩
  refine List.forall_mem_cons.mpr ⟨ok_iconst C (show decode cX11_isName 4 = .ok (.iconst 1, 1) by decide +kernel) (by decide) rfl, ?_⟩
  refine List.forall_mem_cons.mpr ⟨ok_icmpne C (show decode cX11_isName 5 = .ok (.if_icmp .ne 7, 3) by decide +kernel) (tg := 12) (by decide) rfl rfl, ?_⟩
  refine List.forall_mem_cons.mpr ⟨ok_iconst C (show decode cX11_isName 8 = .ok (.iconst 1, 1) by decide +kernel) (by decide) rfl, ?_⟩
  refine List.forall_mem_cons.mpr ⟨ok_goto C (show decode cX11_isName 9 = .ok (.goto 4, 3) by decide +kernel) (tg := 13) (by decide) rfl, ?_⟩
  refine List.forall_mem_cons.mpr ⟨ok_iconst C (show decode cX11_isName 12 = .ok (.iconst 0, 1) by decide +kernel) (by decide) rfl, ?_⟩
  refine List.forall_mem_cons.mpr ⟨ok_istore_n C (show decode cX11_isName 13 = .ok (.istore_n 1, 1) by decide +kernel) rfl (by decide) rfl, ?_⟩
  refine List.forall_mem_cons.mpr ⟨ok_iconst C (show decode cX11_isName 14 = .ok (.iconst 0, 1) by decide +kernel) (by decide) rfl, ?_⟩
  refine List.forall_mem_cons.mpr ⟨ok_istore_n C (show decode cX11_isName 15 = .ok (.istore_n 2, 1) by decide +kernel) rfl (by decide) rfl, ?_⟩
  refine List.forall_mem_cons.mpr ⟨ok_iload_n C (show decode cX11_isName 16 = .ok (.iload_n 2, 1) by decide +kernel) rfl rfl, ?_⟩
  refine List.forall_mem_cons.mpr ⟨ok_bipush C (show decode cX11_isName 17 = .ok (.bipush 25, 2) by decide +kernel) (by decide) rfl, ?_⟩
  refine List.forall_mem_cons.mpr ⟨ok_icmpge C (show decode cX11_isName 19 = .ok (.if_icmp .ge 33, 3) by decide +kernel) (tg := 52) (by decide) rfl rfl, ?_⟩
  refine List.forall_mem_cons.mpr ⟨ok_iload_n C (show decode cX11_isName 22 = .ok (.iload_n 1, 1) by decide +kernel) rfl rfl, ?_⟩
  refine List.forall_mem_cons.mpr ⟨ok_ifeq C (show decode cX11_isName 23 = .ok (.ifCond .eq 21, 3) by decide +kernel) (tg := 44) (by decide) rfl rfl, ?_⟩
  refine List.forall_mem_cons.mpr ⟨ok_aload_n C (show decode cX11_isName 26 = .ok (.aload_n 0, 1) by decide +kernel) rfl rfl, ?_⟩
  refine List.forall_mem_cons.mpr ⟨ok_getf C (wi_X11) rfl (by decide) kw_1197 (show decode cX11_isName 27 = .ok (.getfield 160, 3) by decide +kernel) rfl, ?_⟩
  refine List.forall_mem_cons.mpr ⟨ok_aload_n C (show decode cX11_isName 30 = .ok (.aload_n 0, 1) by decide +kernel) rfl rfl, ?_⟩
  refine List.forall_mem_cons.mpr ⟨ok_getf C (wi_X11) rfl (by decide) kw_1190 (show decode cX11_isName 31 = .ok (.getfield 47, 3) by decide +kernel) rfl, ?_⟩
  refine List.forall_mem_cons.mpr ⟨ok_iload_n C (show decode cX11_isName 34 = .ok (.iload_n 2, 1) by decide +kernel) rfl rfl, ?_⟩
  refine List.forall_mem_cons.mpr ⟨ok_laload C (show decode cX11_isName 35 = .ok (.laload, 1) by decide +kernel) rfl, ?_⟩
  refine List.forall_mem_cons.mpr ⟨ok_lcmp C (show decode cX11_isName 36 = .ok (.lcmp, 1) by decide +kernel) rfl, ?_⟩
  refine List.forall_mem_cons.mpr ⟨ok_ifeq C (show decode cX11_isName 37 = .ok (.ifCond .eq 7, 3) by decide +kernel) (tg := 44) (by decide) rfl rfl, ?_⟩
  refine List.forall_mem_cons.mpr ⟨ok_iconst C (show decode cX11_isName 40 = .ok (.iconst 1, 1) by decide +kernel) (by decide) rfl, ?_⟩
  refine List.forall_mem_cons.mpr ⟨ok_goto C (show decode cX11_isName 41 = .ok (.goto 4, 3) by decide +kernel) (tg := 45) (by decide) rfl, ?_⟩
  refine List.forall_mem_cons.mpr ⟨ok_iconst C (show decode cX11_isName 44 = .ok (.iconst 0, 1) by decide +kernel) (by decide) rfl, ?_⟩
  refine List.forall_mem_cons.mpr ⟨ok_istore_n C (show decode cX11_isName 45 = .ok (.istore_n 1, 1) by decide +kernel) rfl (by decide) rfl, ?_⟩
  refine List.forall_mem_cons.mpr ⟨ok_iinc C (show decode cX11_isName 46 = .ok (.iinc 2 1, 3) by decide +kernel) (by decide) (by decide) rfl, ?_⟩
  refine List.forall_mem_cons.mpr ⟨ok_goto C (show decode cX11_isName 49 = .ok (.goto (-33), 3) by decide +kernel) (tg := 16) (by decide) rfl, ?_⟩
  refine List.forall_mem_cons.mpr ⟨ok_iload_n C (show decode cX11_isName 52 = .ok (.iload_n 1, 1) by decide +kernel) rfl rfl, ?_⟩
  refine List.forall_mem_cons.mpr ⟨ok_zret C rfl (show decode cX11_isName 53 = .ok (.ireturn, 1) by decide +kernel), ?_⟩
  exact fun _ h => absurd h List.not_mem_nil
def L_X11_takes (f_X11_bad : List Value → ab_H → Option ab_O) (f_X11_isIn : List Value → ab_H → Option ab_O) (f_X11_next : List Value → ab_H → Option ab_O) : List (Nat × ab_A) := [
  (0, ab_nx 1 (ab_aload 0)),
  (1, ab_nx 4 (ab_getf 11 11)),
  (4, ab_nx 5 (ab_lit (.int 2))),
  (5, ab_icmp 8 14 (fun x y => decide (x = y))),
  (8, ab_nx 9 (ab_aload 0)),
  (9, ab_nx 10 (ab_lit (.int 1))),
  (10, ab_nx 13 (ab_callV 2 11 f_X11_bad 0 0 0 0)),
  (13, ab_zret 0 0),
  (14, ab_nx 15 (ab_aload 0)),
  (15, ab_nx 18 (ab_getf 11 14)),
  (18, ab_nx 19 (ab_iload 1)),
  (19, ab_nx 20 (ab_iload 2)),
  (20, ab_nx 23 (ab_call 3 f_X11_isIn 0 0 0 0)),
  (23, ab_if 26 32 (fun x => !decide (x = 0))),
  (26, ab_nx 27 (ab_aload 0)),
  (27, ab_nx 28 (ab_lit (.int 2))),
  (28, ab_nx 31 (ab_callV 2 11 f_X11_bad 0 0 0 0)),
  (31, ab_zret 0 0),
  (32, ab_nx 33 (ab_aload 0)),
  (33, ab_nx 34 (ab_aload 0)),
  (34, ab_nx 37 (ab_getf 11 14)),
  (37, ab_nx 40 (ab_putf 11 18 0)),
  (40, ab_nx 41 (ab_aload 0)),
  (41, ab_nx 44 (ab_callV 1 11 f_X11_next 0 0 0 0)),
  (44, ab_nx 45 (ab_lit (.int 1))),
  (45, ab_zret 0 0)]
set_option maxRecDepth 100000 in
set_option maxHeartbeats 4000000 in
theorem M_X11_takes {l : Launch} {b : ab_B} {D : va_G} {cA : Nat → ClassId} {f_X11_bad : List Value → ab_H → Option ab_O} (h_X11_bad : ab_M l b D ab_cl cA (ab_E0 b) yX11_bad (Cond.code yX11_bad cX11_bad 2 (some .boolean) :: ab_G) ({ frames := 1, cells := 0, slots := 0, locals := 100 } : Room) f_X11_bad) {f_X11_isIn : List Value → ab_H → Option ab_O} (h_X11_isIn : ab_M l b D ab_cl cA (ab_E0 b) yX11_isIn (Cond.code yX11_isIn cX11_isIn 3 (some .boolean) :: ab_G) ({ frames := 1, cells := 0, slots := 0, locals := 100 } : Room) f_X11_isIn) {f_X11_next : List Value → ab_H → Option ab_O} (h_X11_next : ab_M l b D ab_cl cA (ab_E0 b) yX11_next (Cond.code yX11_next cX11_next 4 none :: ab_G) ({ frames := 2, cells := 0, slots := 0, locals := 200 } : Room) f_X11_next) : ab_M l b D ab_cl cA (ab_E0 b) yX11_takes (Cond.code yX11_takes cX11_takes 3 (some .boolean) :: ab_G) ({ frames := 3, cells := 0, slots := 0, locals := 300 } : Room) (ab_X (ab_T (L_X11_takes f_X11_bad f_X11_isIn f_X11_next)) 3) := by
  refine ab_meth (ret := (some .boolean)) (L_X11_takes f_X11_bad f_X11_isIn f_X11_next) (by decide) rfl fun p e R s m args below meth c o C => ?_
  unfold L_X11_takes
  refine List.forall_mem_cons.mpr ⟨ok_aload_n C (show decode cX11_takes 0 = .ok (.aload_n 0, 1) by decide +kernel) rfl rfl, ?_⟩
  refine List.forall_mem_cons.mpr ⟨ok_getf C (wi_X11) rfl (by decide) kw_1191 (show decode cX11_takes 1 = .ok (.getfield 147, 3) by decide +kernel) rfl, ?_⟩
  refine List.forall_mem_cons.mpr ⟨ok_iconst C (show decode cX11_takes 4 = .ok (.iconst 2, 1) by decide +kernel) (by decide) rfl, ?_⟩
  refine List.forall_mem_cons.mpr ⟨ok_icmpeq C (show decode cX11_takes 5 = .ok (.if_icmp .eq 9, 3) by decide +kernel) (tg := 14) (by decide) rfl rfl, ?_⟩
  refine List.forall_mem_cons.mpr ⟨ok_aload_n C (show decode cX11_takes 8 = .ok (.aload_n 0, 1) by decide +kernel) rfl rfl, ?_⟩
  refine List.forall_mem_cons.mpr ⟨ok_iconst C (show decode cX11_takes 9 = .ok (.iconst 1, 1) by decide +kernel) (by decide) rfl, ?_⟩
  refine List.forall_mem_cons.mpr ⟨ok_callV C h_X11_bad ⟨rfl, rfl⟩ rfl kw_1344 kw_1341 kw_1343 kp_53 kw_11 rfl ds_X11_bad ⟨by decide, by decide⟩ (show decode cX11_takes 10 = .ok (.invokevirtual 173, 3) by decide +kernel) rfl, ?_⟩
  refine List.forall_mem_cons.mpr ⟨ok_zret C rfl (show decode cX11_takes 13 = .ok (.ireturn, 1) by decide +kernel), ?_⟩
  refine List.forall_mem_cons.mpr ⟨ok_aload_n C (show decode cX11_takes 14 = .ok (.aload_n 0, 1) by decide +kernel) rfl rfl, ?_⟩
  refine List.forall_mem_cons.mpr ⟨ok_getf C (wi_X11) rfl (by decide) kw_1194 (show decode cX11_takes 15 = .ok (.getfield 157, 3) by decide +kernel) rfl, ?_⟩
  refine List.forall_mem_cons.mpr ⟨ok_iload_n C (show decode cX11_takes 18 = .ok (.iload_n 1, 1) by decide +kernel) rfl rfl, ?_⟩
  refine List.forall_mem_cons.mpr ⟨ok_iload_n C (show decode cX11_takes 19 = .ok (.iload_n 2, 1) by decide +kernel) rfl rfl, ?_⟩
  refine List.forall_mem_cons.mpr ⟨ok_callS C h_X11_isIn ⟨rfl, rfl⟩ kw_1355 kw_1353 kw_1354 kw_11 ds_X11_isIn ⟨by decide, by decide⟩ (show decode cX11_takes 20 = .ok (.invokestatic 179, 3) by decide +kernel) rfl, ?_⟩
  refine List.forall_mem_cons.mpr ⟨ok_ifne C (show decode cX11_takes 23 = .ok (.ifCond .ne 9, 3) by decide +kernel) (tg := 32) (by decide) rfl rfl, ?_⟩
  refine List.forall_mem_cons.mpr ⟨ok_aload_n C (show decode cX11_takes 26 = .ok (.aload_n 0, 1) by decide +kernel) rfl rfl, ?_⟩
  refine List.forall_mem_cons.mpr ⟨ok_iconst C (show decode cX11_takes 27 = .ok (.iconst 2, 1) by decide +kernel) (by decide) rfl, ?_⟩
  refine List.forall_mem_cons.mpr ⟨ok_callV C h_X11_bad ⟨rfl, rfl⟩ rfl kw_1344 kw_1341 kw_1343 kp_53 kw_11 rfl ds_X11_bad ⟨by decide, by decide⟩ (show decode cX11_takes 28 = .ok (.invokevirtual 173, 3) by decide +kernel) rfl, ?_⟩
  refine List.forall_mem_cons.mpr ⟨ok_zret C rfl (show decode cX11_takes 31 = .ok (.ireturn, 1) by decide +kernel), ?_⟩
  refine List.forall_mem_cons.mpr ⟨ok_aload_n C (show decode cX11_takes 32 = .ok (.aload_n 0, 1) by decide +kernel) rfl rfl, ?_⟩
  refine List.forall_mem_cons.mpr ⟨ok_aload_n C (show decode cX11_takes 33 = .ok (.aload_n 0, 1) by decide +kernel) rfl rfl, ?_⟩
  refine List.forall_mem_cons.mpr ⟨ok_getf C (wi_X11) rfl (by decide) kw_1194 (show decode cX11_takes 34 = .ok (.getfield 157, 3) by decide +kernel) rfl, ?_⟩
  refine List.forall_mem_cons.mpr ⟨ok_putf C (wi_X11) tyX11 tyX11_ok nmX11 rfl (by decide) kw_1198 (Or.inl rfl) (Or.inl ⟨rfl, rfl⟩) (show decode cX11_takes 37 = .ok (.putfield 183, 3) by decide +kernel) rfl, ?_⟩
  refine List.forall_mem_cons.mpr ⟨ok_aload_n C (show decode cX11_takes 40 = .ok (.aload_n 0, 1) by decide +kernel) rfl rfl, ?_⟩
  refine List.forall_mem_cons.mpr ⟨ok_callV C h_X11_next ⟨rfl, rfl⟩ rfl kw_1322 kw_1319 kw_1321 kp_49 kw_11 rfl ds_X11_next ⟨by decide, by decide⟩ (show decode cX11_takes 41 = .ok (.invokevirtual 176, 3) by decide +kernel) rfl, ?_⟩
  refine List.forall_mem_cons.mpr ⟨ok_iconst C (show decode cX11_takes 44 = .ok (.iconst 1, 1) by decide +kernel) (by decide) rfl, ?_⟩
  refine List.forall_mem_cons.mpr ⟨ok_zret C rfl (show decode cX11_takes 45 = .ok (.ireturn, 1) by decide +kernel), ?_⟩
  exact fun _ h => absurd h List.not_mem_nil
def L_X11_puts (f_X11_takes : List Value → ab_H → Option ab_O) : List (Nat × ab_A) := [
  (0, ab_nx 1 (ab_aload 0)),
  (1, ab_nx 2 (ab_iload 2)),
  (2, ab_nx 3 (ab_iload 3)),
  (3, ab_nx 6 (ab_callV 3 11 f_X11_takes 0 0 0 0)),
  (6, ab_if 9 11 (fun x => !decide (x = 0))),
  (9, ab_nx 10 (ab_lit (.int 0))),
  (10, ab_zret 0 0),
  (11, ab_nx 12 (ab_aload 0)),
  (12, ab_nx 15 (ab_getf 11 7)),
  (15, ab_nx 16 (ab_iload 1)),
  (16, ab_nx 17 (ab_aload 0)),
  (17, ab_nx 20 (ab_getf 11 18)),
  (20, ab_nx 21 (ab_ast 1)),
  (21, ab_nx 22 (ab_lit (.int 1))),
  (22, ab_zret 0 0)]
set_option maxRecDepth 100000 in
set_option maxHeartbeats 4000000 in
theorem M_X11_puts {l : Launch} {b : ab_B} {D : va_G} {cA : Nat → ClassId} {f_X11_takes : List Value → ab_H → Option ab_O} (h_X11_takes : ab_M l b D ab_cl cA (ab_E0 b) yX11_takes (Cond.code yX11_takes cX11_takes 3 (some .boolean) :: ab_G) ({ frames := 3, cells := 0, slots := 0, locals := 300 } : Room) f_X11_takes) : ab_M l b D ab_cl cA (ab_E0 b) yX11_puts (Cond.code yX11_puts cX11_puts 4 (some .boolean) :: ab_G) ({ frames := 4, cells := 0, slots := 0, locals := 400 } : Room) (ab_X (ab_T (L_X11_puts f_X11_takes)) 4) := by
  refine ab_meth (ret := (some .boolean)) (L_X11_puts f_X11_takes) (by decide) rfl fun p e R s m args below meth c o C => ?_
  unfold L_X11_puts
  refine List.forall_mem_cons.mpr ⟨ok_aload_n C (show decode cX11_puts 0 = .ok (.aload_n 0, 1) by decide +kernel) rfl rfl, ?_⟩
  refine List.forall_mem_cons.mpr ⟨ok_iload_n C (show decode cX11_puts 1 = .ok (.iload_n 2, 1) by decide +kernel) rfl rfl, ?_⟩
  refine List.forall_mem_cons.mpr ⟨ok_iload_n C (show decode cX11_puts 2 = .ok (.iload_n 3, 1) by decide +kernel) rfl rfl, ?_⟩
  refine List.forall_mem_cons.mpr ⟨ok_callV C h_X11_takes ⟨rfl, rfl⟩ rfl kw_1352 kw_1349 kw_1351 kp_55 kw_11 rfl ds_X11_takes ⟨by decide, by decide⟩ (show decode cX11_puts 3 = .ok (.invokevirtual 186, 3) by decide +kernel) rfl, ?_⟩
  refine List.forall_mem_cons.mpr ⟨ok_ifne C (show decode cX11_puts 6 = .ok (.ifCond .ne 5, 3) by decide +kernel) (tg := 11) (by decide) rfl rfl, ?_⟩
  refine List.forall_mem_cons.mpr ⟨ok_iconst C (show decode cX11_puts 9 = .ok (.iconst 0, 1) by decide +kernel) (by decide) rfl, ?_⟩
  refine List.forall_mem_cons.mpr ⟨ok_zret C rfl (show decode cX11_puts 10 = .ok (.ireturn, 1) by decide +kernel), ?_⟩
  refine List.forall_mem_cons.mpr ⟨ok_aload_n C (show decode cX11_puts 11 = .ok (.aload_n 0, 1) by decide +kernel) rfl rfl, ?_⟩
  refine List.forall_mem_cons.mpr ⟨ok_getf C (wi_X11) rfl (by decide) kw_1187 (show decode cX11_puts 12 = .ok (.getfield 37, 3) by decide +kernel) rfl, ?_⟩
  refine List.forall_mem_cons.mpr ⟨ok_iload_n C (show decode cX11_puts 15 = .ok (.iload_n 1, 1) by decide +kernel) rfl rfl, ?_⟩
  refine List.forall_mem_cons.mpr ⟨ok_aload_n C (show decode cX11_puts 16 = .ok (.aload_n 0, 1) by decide +kernel) rfl rfl, ?_⟩
  refine List.forall_mem_cons.mpr ⟨ok_getf C (wi_X11) rfl (by decide) kw_1198 (show decode cX11_puts 17 = .ok (.getfield 183, 3) by decide +kernel) rfl, ?_⟩
  refine List.forall_mem_cons.mpr ⟨ok_iastore C (show decode cX11_puts 20 = .ok (.iastore, 1) by decide +kernel) rfl, ?_⟩
  refine List.forall_mem_cons.mpr ⟨ok_iconst C (show decode cX11_puts 21 = .ok (.iconst 1, 1) by decide +kernel) (by decide) rfl, ?_⟩
  refine List.forall_mem_cons.mpr ⟨ok_zret C rfl (show decode cX11_puts 22 = .ok (.ireturn, 1) by decide +kernel), ?_⟩
  exact fun _ h => absurd h List.not_mem_nil
def L_X11_find : List (Nat × ab_A) := [
  (0, ab_nx 1 (ab_lit (.int 0))),
  (1, ab_nx 2 (ab_istore 3)),
  (2, ab_nx 3 (ab_iload 3)),
  (3, ab_nx 4 (ab_iload 2)),
  (4, ab_icmp 7 31 (fun x y => decide (y ≤ x))),
  (7, ab_nx 8 (ab_aload 0)),
  (8, ab_nx 11 (ab_getf 11 9)),
  (11, ab_nx 12 (ab_iload 1)),
  (12, ab_nx 13 (ab_iload 3)),
  (13, ab_nx 14 (ab_bin (fun x y => x + y))),
  (14, ab_nx 15 ab_lald),
  (15, ab_nx 16 (ab_aload 0)),
  (16, ab_nx 19 (ab_getf 11 17)),
  (19, ab_nx 20 ab_lcmp),
  (20, ab_if 23 25 (fun x => !decide (x = 0))),
  (23, ab_nx 24 (ab_iload 3)),
  (24, ab_ret 0 0),
  (25, ab_nx 28 (ab_iinc 3 1)),
  (28, ab_goto 2),
  (31, ab_nx 32 (ab_lit (.int (-1)))),
  (32, ab_ret 0 0)]
set_option maxRecDepth 100000 in
set_option maxHeartbeats 4000000 in
theorem M_X11_find {l : Launch} {b : ab_B} {D : va_G} {cA : Nat → ClassId} : ab_M l b D ab_cl cA (ab_E0 b) yX11_find (Cond.code yX11_find cX11_find 4 (some .int) :: ab_G) ({ frames := 1, cells := 0, slots := 0, locals := 100 } : Room) (ab_X (ab_T L_X11_find) 4) := by
  refine ab_meth (ret := (some .int)) L_X11_find (by decide) rfl fun p e R s m args below meth c o C => ?_
  unfold L_X11_find
  refine List.forall_mem_cons.mpr ⟨ok_iconst C (show decode cX11_find 0 = .ok (.iconst 0, 1) by decide +kernel) (by decide) rfl, ?_⟩
  refine List.forall_mem_cons.mpr ⟨ok_istore_n C (show decode cX11_find 1 = .ok (.istore_n 3, 1) by decide +kernel) rfl (by decide) rfl, ?_⟩
  refine List.forall_mem_cons.mpr ⟨ok_iload_n C (show decode cX11_find 2 = .ok (.iload_n 3, 1) by decide +kernel) rfl rfl, ?_⟩
  refine List.forall_mem_cons.mpr ⟨ok_iload_n C (show decode cX11_find 3 = .ok (.iload_n 2, 1) by decide +kernel) rfl rfl, ?_⟩
  refine List.forall_mem_cons.mpr ⟨ok_icmpge C (show decode cX11_find 4 = .ok (.if_icmp .ge 27, 3) by decide +kernel) (tg := 31) (by decide) rfl rfl, ?_⟩
  refine List.forall_mem_cons.mpr ⟨ok_aload_n C (show decode cX11_find 7 = .ok (.aload_n 0, 1) by decide +kernel) rfl rfl, ?_⟩
  refine List.forall_mem_cons.mpr ⟨ok_getf C (wi_X11) rfl (by decide) kw_1189 (show decode cX11_find 8 = .ok (.getfield 43, 3) by decide +kernel) rfl, ?_⟩
  refine List.forall_mem_cons.mpr ⟨ok_iload_n C (show decode cX11_find 11 = .ok (.iload_n 1, 1) by decide +kernel) rfl rfl, ?_⟩
  refine List.forall_mem_cons.mpr ⟨ok_iload_n C (show decode cX11_find 12 = .ok (.iload_n 3, 1) by decide +kernel) rfl rfl, ?_⟩
  refine List.forall_mem_cons.mpr ⟨ok_iadd C (show decode cX11_find 13 = .ok (.iadd, 1) by decide +kernel) rfl, ?_⟩
  refine List.forall_mem_cons.mpr ⟨ok_laload C (show decode cX11_find 14 = .ok (.laload, 1) by decide +kernel) rfl, ?_⟩
  refine List.forall_mem_cons.mpr ⟨ok_aload_n C (show decode cX11_find 15 = .ok (.aload_n 0, 1) by decide +kernel) rfl rfl, ?_⟩
  refine List.forall_mem_cons.mpr ⟨ok_getf C (wi_X11) rfl (by decide) kw_1197 (show decode cX11_find 16 = .ok (.getfield 160, 3) by decide +kernel) rfl, ?_⟩
  refine List.forall_mem_cons.mpr ⟨ok_lcmp C (show decode cX11_find 19 = .ok (.lcmp, 1) by decide +kernel) rfl, ?_⟩
  refine List.forall_mem_cons.mpr ⟨ok_ifne C (show decode cX11_find 20 = .ok (.ifCond .ne 5, 3) by decide +kernel) (tg := 25) (by decide) rfl rfl, ?_⟩
  refine List.forall_mem_cons.mpr ⟨ok_iload_n C (show decode cX11_find 23 = .ok (.iload_n 3, 1) by decide +kernel) rfl rfl, ?_⟩
  refine List.forall_mem_cons.mpr ⟨ok_ret C rfl (show decode cX11_find 24 = .ok (.ireturn, 1) by decide +kernel), ?_⟩
  refine List.forall_mem_cons.mpr ⟨ok_iinc C (show decode cX11_find 25 = .ok (.iinc 3 1, 3) by decide +kernel) (by decide) (by decide) rfl, ?_⟩
  refine List.forall_mem_cons.mpr ⟨ok_goto C (show decode cX11_find 28 = .ok (.goto (-26), 3) by decide +kernel) (tg := 2) (by decide) rfl, ?_⟩
  refine List.forall_mem_cons.mpr ⟨ok_iconst C (show decode cX11_find 31 = .ok (.iconst (-1), 1) by decide +kernel) (by decide) rfl, ?_⟩
  refine List.forall_mem_cons.mpr ⟨ok_ret C rfl (show decode cX11_find 32 = .ok (.ireturn, 1) by decide +kernel), ?_⟩
  exact fun _ h => absurd h List.not_mem_nil
def L_X11_fresh (f_X11_isName : List Value → ab_H → Option ab_O) (f_X11_bad : List Value → ab_H → Option ab_O) (f_X11_find : List Value → ab_H → Option ab_O) (f_X11_next : List Value → ab_H → Option ab_O) : List (Nat × ab_A) := [
  (0, ab_nx 1 (ab_aload 0)),
  (1, ab_nx 4 (ab_callV 1 11 f_X11_isName 0 0 0 0)),
  (4, ab_if 7 13 (fun x => !decide (x = 0))),
  (7, ab_nx 8 (ab_aload 0)),
  (8, ab_nx 9 (ab_lit (.int 1))),
  (9, ab_nx 12 (ab_callV 2 11 f_X11_bad 0 0 0 0)),
  (12, ab_zret 0 0),
  (13, ab_nx 14 (ab_aload 0)),
  (14, ab_nx 16 (ab_lit (.int 14))),
  (16, ab_nx 17 (ab_aload 0)),
  (17, ab_nx 20 (ab_getf 11 7)),
  (20, ab_nx 21 (ab_lit (.int 0))),
  (21, ab_nx 22 (ab_ald 1)),
  (22, ab_nx 25 (ab_callV 3 11 f_X11_find 0 0 0 0)),
  (25, ab_if 28 43 (fun x => decide (0 ≤ x))),
  (28, ab_nx 29 (ab_aload 0)),
  (29, ab_nx 31 (ab_lit (.int 20))),
  (31, ab_nx 32 (ab_aload 0)),
  (32, ab_nx 35 (ab_getf 11 7)),
  (35, ab_nx 36 (ab_lit (.int 1))),
  (36, ab_nx 37 (ab_ald 1)),
  (37, ab_nx 40 (ab_callV 3 11 f_X11_find 0 0 0 0)),
  (40, ab_if 43 49 (fun x => decide (x < 0))),
  (43, ab_nx 44 (ab_aload 0)),
  (44, ab_nx 45 (ab_lit (.int 3))),
  (45, ab_nx 48 (ab_callV 2 11 f_X11_bad 0 0 0 0)),
  (48, ab_zret 0 0),
  (49, ab_nx 50 (ab_aload 0)),
  (50, ab_nx 53 (ab_getf 11 9)),
  (53, ab_nx 54 (ab_iload 1)),
  (54, ab_nx 55 (ab_aload 0)),
  (55, ab_nx 58 (ab_getf 11 17)),
  (58, ab_nx 59 ab_last),
  (59, ab_nx 60 (ab_aload 0)),
  (60, ab_nx 63 (ab_callV 1 11 f_X11_next 0 0 0 0)),
  (63, ab_nx 64 (ab_lit (.int 1))),
  (64, ab_zret 0 0)]
set_option maxRecDepth 100000 in
set_option maxHeartbeats 4000000 in
theorem M_X11_fresh {l : Launch} {b : ab_B} {D : va_G} {cA : Nat → ClassId} {f_X11_isName : List Value → ab_H → Option ab_O} (h_X11_isName : ab_M l b D ab_cl cA (ab_E0 b) yX11_isName (Cond.code yX11_isName cX11_isName 3 (some .boolean) :: ab_G) ({ frames := 1, cells := 0, slots := 0, locals := 100 } : Room) f_X11_isName) {f_X11_bad : List Value → ab_H → Option ab_O} (h_X11_bad : ab_M l b D ab_cl cA (ab_E0 b) yX11_bad (Cond.code yX11_bad cX11_bad 2 (some .boolean) :: ab_G) ({ frames := 1, cells := 0, slots := 0, locals := 100 } : Room) f_X11_bad) {f_X11_find : List Value → ab_H → Option ab_O} (h_X11_find : ab_M l b D ab_cl cA (ab_E0 b) yX11_find (Cond.code yX11_find cX11_find 4 (some .int) :: ab_G) ({ frames := 1, cells := 0, slots := 0, locals := 100 } : Room) f_X11_find) {f_X11_next : List Value → ab_H → Option ab_O} (h_X11_next : ab_M l b D ab_cl cA (ab_E0 b) yX11_next (Cond.code yX11_next cX11_next 4 none :: ab_G) ({ frames := 2, cells := 0, slots := 0, locals := 200 } : Room) f_X11_next) : ab_M l b D ab_cl cA (ab_E0 b) yX11_fresh (Cond.code yX11_fresh cX11_fresh 2 (some .boolean) :: ab_G) ({ frames := 3, cells := 0, slots := 0, locals := 300 } : Room) (ab_X (ab_T (L_X11_fresh f_X11_isName f_X11_bad f_X11_find f_X11_next)) 2) := by
  refine ab_meth (ret := (some .boolean)) (L_X11_fresh f_X11_isName f_X11_bad f_X11_find f_X11_next) (by decide) rfl fun p e R s m args below meth c o C => ?_
  unfold L_X11_fresh
  refine List.forall_mem_cons.mpr ⟨ok_aload_n C (show decode cX11_fresh 0 = .ok (.aload_n 0, 1) by decide +kernel) rfl rfl, ?_⟩
  refine List.forall_mem_cons.mpr ⟨ok_callV C h_X11_isName ⟨rfl, rfl⟩ rfl kw_1363 kw_1360 kw_1362 kp_57 kw_11 rfl ds_X11_isName ⟨by decide, by decide⟩ (show decode cX11_fresh 1 = .ok (.invokevirtual 190, 3) by decide +kernel) rfl, ?_⟩
  refine List.forall_mem_cons.mpr ⟨ok_ifne C (show decode cX11_fresh 4 = .ok (.ifCond .ne 9, 3) by decide +kernel) (tg := 13) (by decide) rfl rfl, ?_⟩
  refine List.forall_mem_cons.mpr ⟨ok_aload_n C (show decode cX11_fresh 7 = .ok (.aload_n 0, 1) by decide +kernel) rfl rfl, ?_⟩
  refine List.forall_mem_cons.mpr ⟨ok_iconst C (show decode cX11_fresh 8 = .ok (.iconst 1, 1) by decide +kernel) (by decide) rfl, ?_⟩
  refine List.forall_mem_cons.mpr ⟨ok_callV C h_X11_bad ⟨rfl, rfl⟩ rfl kw_1344 kw_1341 kw_1343 kp_53 kw_11 rfl ds_X11_bad ⟨by decide, by decide⟩ (show decode cX11_fresh 9 = .ok (.invokevirtual 173, 3) by decide +kernel) rfl, ?_⟩
  refine List.forall_mem_cons.mpr ⟨ok_zret C rfl (show decode cX11_fresh 12 = .ok (.ireturn, 1) by decide +kernel), ?_⟩
  refine List.forall_mem_cons.mpr ⟨ok_aload_n C (show decode cX11_fresh 13 = .ok (.aload_n 0, 1) by decide +kernel) rfl rfl, ?_⟩
  refine List.forall_mem_cons.mpr ⟨ok_bipush C (show decode cX11_fresh 14 = .ok (.bipush 14, 2) by decide +kernel) (by decide) rfl, ?_⟩
  refine List.forall_mem_cons.mpr ⟨ok_aload_n C (show decode cX11_fresh 16 = .ok (.aload_n 0, 1) by decide +kernel) rfl rfl, ?_⟩
  refine List.forall_mem_cons.mpr ⟨ok_getf C (wi_X11) rfl (by decide) kw_1187 (show decode cX11_fresh 17 = .ok (.getfield 37, 3) by decide +kernel) rfl, ?_⟩
  refine List.forall_mem_cons.mpr ⟨ok_iconst C (show decode cX11_fresh 20 = .ok (.iconst 0, 1) by decide +kernel) (by decide) rfl, ?_⟩
  refine List.forall_mem_cons.mpr ⟨ok_iaload C (show decode cX11_fresh 21 = .ok (.iaload, 1) by decide +kernel) rfl, ?_⟩
  refine List.forall_mem_cons.mpr ⟨ok_callV C h_X11_find ⟨rfl, rfl⟩ rfl kw_1367 kw_1364 kw_1366 kp_58 kw_11 rfl ds_X11_find ⟨by decide, by decide⟩ (show decode cX11_fresh 22 = .ok (.invokevirtual 194, 3) by decide +kernel) rfl, ?_⟩
  refine List.forall_mem_cons.mpr ⟨ok_ifge C (show decode cX11_fresh 25 = .ok (.ifCond .ge 18, 3) by decide +kernel) (tg := 43) (by decide) rfl rfl, ?_⟩
  refine List.forall_mem_cons.mpr ⟨ok_aload_n C (show decode cX11_fresh 28 = .ok (.aload_n 0, 1) by decide +kernel) rfl rfl, ?_⟩
  refine List.forall_mem_cons.mpr ⟨ok_bipush C (show decode cX11_fresh 29 = .ok (.bipush 20, 2) by decide +kernel) (by decide) rfl, ?_⟩
  refine List.forall_mem_cons.mpr ⟨ok_aload_n C (show decode cX11_fresh 31 = .ok (.aload_n 0, 1) by decide +kernel) rfl rfl, ?_⟩
  refine List.forall_mem_cons.mpr ⟨ok_getf C (wi_X11) rfl (by decide) kw_1187 (show decode cX11_fresh 32 = .ok (.getfield 37, 3) by decide +kernel) rfl, ?_⟩
  refine List.forall_mem_cons.mpr ⟨ok_iconst C (show decode cX11_fresh 35 = .ok (.iconst 1, 1) by decide +kernel) (by decide) rfl, ?_⟩
  refine List.forall_mem_cons.mpr ⟨ok_iaload C (show decode cX11_fresh 36 = .ok (.iaload, 1) by decide +kernel) rfl, ?_⟩
  refine List.forall_mem_cons.mpr ⟨ok_callV C h_X11_find ⟨rfl, rfl⟩ rfl kw_1367 kw_1364 kw_1366 kp_58 kw_11 rfl ds_X11_find ⟨by decide, by decide⟩ (show decode cX11_fresh 37 = .ok (.invokevirtual 194, 3) by decide +kernel) rfl, ?_⟩
  refine List.forall_mem_cons.mpr ⟨ok_iflt C (show decode cX11_fresh 40 = .ok (.ifCond .lt 9, 3) by decide +kernel) (tg := 49) (by decide) rfl rfl, ?_⟩
  refine List.forall_mem_cons.mpr ⟨ok_aload_n C (show decode cX11_fresh 43 = .ok (.aload_n 0, 1) by decide +kernel) rfl rfl, ?_⟩
  refine List.forall_mem_cons.mpr ⟨ok_iconst C (show decode cX11_fresh 44 = .ok (.iconst 3, 1) by decide +kernel) (by decide) rfl, ?_⟩
  refine List.forall_mem_cons.mpr ⟨ok_callV C h_X11_bad ⟨rfl, rfl⟩ rfl kw_1344 kw_1341 kw_1343 kp_53 kw_11 rfl ds_X11_bad ⟨by decide, by decide⟩ (show decode cX11_fresh 45 = .ok (.invokevirtual 173, 3) by decide +kernel) rfl, ?_⟩
  refine List.forall_mem_cons.mpr ⟨ok_zret C rfl (show decode cX11_fresh 48 = .ok (.ireturn, 1) by decide +kernel), ?_⟩
  refine List.forall_mem_cons.mpr ⟨ok_aload_n C (show decode cX11_fresh 49 = .ok (.aload_n 0, 1) by decide +kernel) rfl rfl, ?_⟩
  refine List.forall_mem_cons.mpr ⟨ok_getf C (wi_X11) rfl (by decide) kw_1189 (show decode cX11_fresh 50 = .ok (.getfield 43, 3) by decide +kernel) rfl, ?_⟩
  refine List.forall_mem_cons.mpr ⟨ok_iload_n C (show decode cX11_fresh 53 = .ok (.iload_n 1, 1) by decide +kernel) rfl rfl, ?_⟩
  refine List.forall_mem_cons.mpr ⟨ok_aload_n C (show decode cX11_fresh 54 = .ok (.aload_n 0, 1) by decide +kernel) rfl rfl, ?_⟩
  refine List.forall_mem_cons.mpr ⟨ok_getf C (wi_X11) rfl (by decide) kw_1197 (show decode cX11_fresh 55 = .ok (.getfield 160, 3) by decide +kernel) rfl, ?_⟩
  refine List.forall_mem_cons.mpr ⟨ok_lastore C (show decode cX11_fresh 58 = .ok (.lastore, 1) by decide +kernel) rfl, ?_⟩
  refine List.forall_mem_cons.mpr ⟨ok_aload_n C (show decode cX11_fresh 59 = .ok (.aload_n 0, 1) by decide +kernel) rfl rfl, ?_⟩
  refine List.forall_mem_cons.mpr ⟨ok_callV C h_X11_next ⟨rfl, rfl⟩ rfl kw_1322 kw_1319 kw_1321 kp_49 kw_11 rfl ds_X11_next ⟨by decide, by decide⟩ (show decode cX11_fresh 60 = .ok (.invokevirtual 176, 3) by decide +kernel) rfl, ?_⟩
  refine List.forall_mem_cons.mpr ⟨ok_iconst C (show decode cX11_fresh 63 = .ok (.iconst 1, 1) by decide +kernel) (by decide) rfl, ?_⟩
  refine List.forall_mem_cons.mpr ⟨ok_zret C rfl (show decode cX11_fresh 64 = .ok (.ireturn, 1) by decide +kernel), ?_⟩
  exact fun _ h => absurd h List.not_mem_nil
def L_X11_looksAt (f_X11_isName : List Value → ab_H → Option ab_O) (f_X11_bad : List Value → ab_H → Option ab_O) (f_X11_find : List Value → ab_H → Option ab_O) : List (Nat × ab_A) := [
  (0, ab_nx 1 (ab_aload 0)),
  (1, ab_nx 4 (ab_callV 1 11 f_X11_isName 0 0 0 0)),
  (4, ab_if 7 13 (fun x => !decide (x = 0))),
  (7, ab_nx 8 (ab_aload 0)),
  (8, ab_nx 9 (ab_lit (.int 1))),
  (9, ab_nx 12 (ab_callV 2 11 f_X11_bad 0 0 0 0)),
  (12, ab_zret 0 0),
  (13, ab_nx 14 (ab_aload 0)),
  (14, ab_nx 15 (ab_aload 0)),
  (15, ab_nx 16 (ab_iload 1)),
  (16, ab_nx 17 (ab_iload 2)),
  (17, ab_nx 20 (ab_callV 3 11 f_X11_find 0 0 0 0)),
  (20, ab_nx 23 (ab_putf 11 18 0)),
  (23, ab_nx 24 (ab_aload 0)),
  (24, ab_nx 27 (ab_getf 11 18)),
  (27, ab_if 30 38 (fun x => decide (0 ≤ x))),
  (30, ab_nx 31 (ab_aload 0)),
  (31, ab_nx 32 (ab_lit (.int 3))),
  (32, ab_nx 35 (ab_callV 2 11 f_X11_bad 0 0 0 0)),
  (35, ab_if 38 42 (fun x => decide (x = 0))),
  (38, ab_nx 39 (ab_lit (.int 1))),
  (39, ab_goto 43),
  (42, ab_nx 43 (ab_lit (.int 0))),
  (43, ab_zret 0 0)]
set_option maxRecDepth 100000 in
set_option maxHeartbeats 4000000 in
theorem M_X11_looksAt {l : Launch} {b : ab_B} {D : va_G} {cA : Nat → ClassId} {f_X11_isName : List Value → ab_H → Option ab_O} (h_X11_isName : ab_M l b D ab_cl cA (ab_E0 b) yX11_isName (Cond.code yX11_isName cX11_isName 3 (some .boolean) :: ab_G) ({ frames := 1, cells := 0, slots := 0, locals := 100 } : Room) f_X11_isName) {f_X11_bad : List Value → ab_H → Option ab_O} (h_X11_bad : ab_M l b D ab_cl cA (ab_E0 b) yX11_bad (Cond.code yX11_bad cX11_bad 2 (some .boolean) :: ab_G) ({ frames := 1, cells := 0, slots := 0, locals := 100 } : Room) f_X11_bad) {f_X11_find : List Value → ab_H → Option ab_O} (h_X11_find : ab_M l b D ab_cl cA (ab_E0 b) yX11_find (Cond.code yX11_find cX11_find 4 (some .int) :: ab_G) ({ frames := 1, cells := 0, slots := 0, locals := 100 } : Room) f_X11_find) : ab_M l b D ab_cl cA (ab_E0 b) yX11_looksAt (Cond.code yX11_looksAt cX11_looksAt 3 (some .boolean) :: ab_G) ({ frames := 2, cells := 0, slots := 0, locals := 200 } : Room) (ab_X (ab_T (L_X11_looksAt f_X11_isName f_X11_bad f_X11_find)) 3) := by
  refine ab_meth (ret := (some .boolean)) (L_X11_looksAt f_X11_isName f_X11_bad f_X11_find) (by decide) rfl fun p e R s m args below meth c o C => ?_
  unfold L_X11_looksAt
  refine List.forall_mem_cons.mpr ⟨ok_aload_n C (show decode cX11_looksAt 0 = .ok (.aload_n 0, 1) by decide +kernel) rfl rfl, ?_⟩
  refine List.forall_mem_cons.mpr ⟨ok_callV C h_X11_isName ⟨rfl, rfl⟩ rfl kw_1363 kw_1360 kw_1362 kp_57 kw_11 rfl ds_X11_isName ⟨by decide, by decide⟩ (show decode cX11_looksAt 1 = .ok (.invokevirtual 190, 3) by decide +kernel) rfl, ?_⟩
  refine List.forall_mem_cons.mpr ⟨ok_ifne C (show decode cX11_looksAt 4 = .ok (.ifCond .ne 9, 3) by decide +kernel) (tg := 13) (by decide) rfl rfl, ?_⟩
  refine List.forall_mem_cons.mpr ⟨ok_aload_n C (show decode cX11_looksAt 7 = .ok (.aload_n 0, 1) by decide +kernel) rfl rfl, ?_⟩
  refine List.forall_mem_cons.mpr ⟨ok_iconst C (show decode cX11_looksAt 8 = .ok (.iconst 1, 1) by decide +kernel) (by decide) rfl, ?_⟩
  refine List.forall_mem_cons.mpr ⟨ok_callV C h_X11_bad ⟨rfl, rfl⟩ rfl kw_1344 kw_1341 kw_1343 kp_53 kw_11 rfl ds_X11_bad ⟨by decide, by decide⟩ (show decode cX11_looksAt 9 = .ok (.invokevirtual 173, 3) by decide +kernel) rfl, ?_⟩
  refine List.forall_mem_cons.mpr ⟨ok_zret C rfl (show decode cX11_looksAt 12 = .ok (.ireturn, 1) by decide +kernel), ?_⟩
  refine List.forall_mem_cons.mpr ⟨ok_aload_n C (show decode cX11_looksAt 13 = .ok (.aload_n 0, 1) by decide +kernel) rfl rfl, ?_⟩
  refine List.forall_mem_cons.mpr ⟨ok_aload_n C (show decode cX11_looksAt 14 = .ok (.aload_n 0, 1) by decide +kernel) rfl rfl, ?_⟩
  refine List.forall_mem_cons.mpr ⟨ok_iload_n C (show decode cX11_looksAt 15 = .ok (.iload_n 1, 1) by decide +kernel) rfl rfl, ?_⟩
  refine List.forall_mem_cons.mpr ⟨ok_iload_n C (show decode cX11_looksAt 16 = .ok (.iload_n 2, 1) by decide +kernel) rfl rfl, ?_⟩
  refine List.forall_mem_cons.mpr ⟨ok_callV C h_X11_find ⟨rfl, rfl⟩ rfl kw_1367 kw_1364 kw_1366 kp_58 kw_11 rfl ds_X11_find ⟨by decide, by decide⟩ (show decode cX11_looksAt 17 = .ok (.invokevirtual 194, 3) by decide +kernel) rfl, ?_⟩
  refine List.forall_mem_cons.mpr ⟨ok_putf C (wi_X11) tyX11 tyX11_ok nmX11 rfl (by decide) kw_1198 (Or.inl rfl) (Or.inl ⟨rfl, rfl⟩) (show decode cX11_looksAt 20 = .ok (.putfield 183, 3) by decide +kernel) rfl, ?_⟩
  refine List.forall_mem_cons.mpr ⟨ok_aload_n C (show decode cX11_looksAt 23 = .ok (.aload_n 0, 1) by decide +kernel) rfl rfl, ?_⟩
  refine List.forall_mem_cons.mpr ⟨ok_getf C (wi_X11) rfl (by decide) kw_1198 (show decode cX11_looksAt 24 = .ok (.getfield 183, 3) by decide +kernel) rfl, ?_⟩
  refine List.forall_mem_cons.mpr ⟨ok_ifge C (show decode cX11_looksAt 27 = .ok (.ifCond .ge 11, 3) by decide +kernel) (tg := 38) (by decide) rfl rfl, ?_⟩
  refine List.forall_mem_cons.mpr ⟨ok_aload_n C (show decode cX11_looksAt 30 = .ok (.aload_n 0, 1) by decide +kernel) rfl rfl, ?_⟩
  refine List.forall_mem_cons.mpr ⟨ok_iconst C (show decode cX11_looksAt 31 = .ok (.iconst 3, 1) by decide +kernel) (by decide) rfl, ?_⟩
  refine List.forall_mem_cons.mpr ⟨ok_callV C h_X11_bad ⟨rfl, rfl⟩ rfl kw_1344 kw_1341 kw_1343 kp_53 kw_11 rfl ds_X11_bad ⟨by decide, by decide⟩ (show decode cX11_looksAt 32 = .ok (.invokevirtual 173, 3) by decide +kernel) rfl, ?_⟩
  refine List.forall_mem_cons.mpr ⟨ok_ifeq C (show decode cX11_looksAt 35 = .ok (.ifCond .eq 7, 3) by decide +kernel) (tg := 42) (by decide) rfl rfl, ?_⟩
  refine List.forall_mem_cons.mpr ⟨ok_iconst C (show decode cX11_looksAt 38 = .ok (.iconst 1, 1) by decide +kernel) (by decide) rfl, ?_⟩
  refine List.forall_mem_cons.mpr ⟨ok_goto C (show decode cX11_looksAt 39 = .ok (.goto 4, 3) by decide +kernel) (tg := 43) (by decide) rfl, ?_⟩
  refine List.forall_mem_cons.mpr ⟨ok_iconst C (show decode cX11_looksAt 42 = .ok (.iconst 0, 1) by decide +kernel) (by decide) rfl, ?_⟩
  refine List.forall_mem_cons.mpr ⟨ok_zret C rfl (show decode cX11_looksAt 43 = .ok (.ireturn, 1) by decide +kernel), ?_⟩
  exact fun _ h => absurd h List.not_mem_nil
def L_X11_takesName (f_X11_looksAt : List Value → ab_H → Option ab_O) (f_X11_next : List Value → ab_H → Option ab_O) : List (Nat × ab_A) := [
  (0, ab_nx 1 (ab_aload 0)),
  (1, ab_nx 2 (ab_iload 1)),
  (2, ab_nx 3 (ab_iload 2)),
  (3, ab_nx 6 (ab_callV 3 11 f_X11_looksAt 0 0 0 0)),
  (6, ab_if 9 11 (fun x => !decide (x = 0))),
  (9, ab_nx 10 (ab_lit (.int 0))),
  (10, ab_zret 0 0),
  (11, ab_nx 12 (ab_aload 0)),
  (12, ab_nx 15 (ab_callV 1 11 f_X11_next 0 0 0 0)),
  (15, ab_nx 16 (ab_lit (.int 1))),
  (16, ab_zret 0 0)]
set_option maxRecDepth 100000 in
set_option maxHeartbeats 4000000 in
theorem M_X11_takesName {l : Launch} {b : ab_B} {D : va_G} {cA : Nat → ClassId} {f_X11_looksAt : List Value → ab_H → Option ab_O} (h_X11_looksAt : ab_M l b D ab_cl cA (ab_E0 b) yX11_looksAt (Cond.code yX11_looksAt cX11_looksAt 3 (some .boolean) :: ab_G) ({ frames := 2, cells := 0, slots := 0, locals := 200 } : Room) f_X11_looksAt) {f_X11_next : List Value → ab_H → Option ab_O} (h_X11_next : ab_M l b D ab_cl cA (ab_E0 b) yX11_next (Cond.code yX11_next cX11_next 4 none :: ab_G) ({ frames := 2, cells := 0, slots := 0, locals := 200 } : Room) f_X11_next) : ab_M l b D ab_cl cA (ab_E0 b) yX11_takesName (Cond.code yX11_takesName cX11_takesName 3 (some .boolean) :: ab_G) ({ frames := 3, cells := 0, slots := 0, locals := 300 } : Room) (ab_X (ab_T (L_X11_takesName f_X11_looksAt f_X11_next)) 3) := by
  refine ab_meth (ret := (some .boolean)) (L_X11_takesName f_X11_looksAt f_X11_next) (by decide) rfl fun p e R s m args below meth c o C => ?_
  unfold L_X11_takesName
  refine List.forall_mem_cons.mpr ⟨ok_aload_n C (show decode cX11_takesName 0 = .ok (.aload_n 0, 1) by decide +kernel) rfl rfl, ?_⟩
  refine List.forall_mem_cons.mpr ⟨ok_iload_n C (show decode cX11_takesName 1 = .ok (.iload_n 1, 1) by decide +kernel) rfl rfl, ?_⟩
  refine List.forall_mem_cons.mpr ⟨ok_iload_n C (show decode cX11_takesName 2 = .ok (.iload_n 2, 1) by decide +kernel) rfl rfl, ?_⟩
  refine List.forall_mem_cons.mpr ⟨ok_callV C h_X11_looksAt ⟨rfl, rfl⟩ rfl kw_1379 kw_1376 kw_1378 kp_61 kw_11 rfl ds_X11_looksAt ⟨by decide, by decide⟩ (show decode cX11_takesName 3 = .ok (.invokevirtual 198, 3) by decide +kernel) rfl, ?_⟩
  refine List.forall_mem_cons.mpr ⟨ok_ifne C (show decode cX11_takesName 6 = .ok (.ifCond .ne 5, 3) by decide +kernel) (tg := 11) (by decide) rfl rfl, ?_⟩
  refine List.forall_mem_cons.mpr ⟨ok_iconst C (show decode cX11_takesName 9 = .ok (.iconst 0, 1) by decide +kernel) (by decide) rfl, ?_⟩
  refine List.forall_mem_cons.mpr ⟨ok_zret C rfl (show decode cX11_takesName 10 = .ok (.ireturn, 1) by decide +kernel), ?_⟩
  refine List.forall_mem_cons.mpr ⟨ok_aload_n C (show decode cX11_takesName 11 = .ok (.aload_n 0, 1) by decide +kernel) rfl rfl, ?_⟩
  refine List.forall_mem_cons.mpr ⟨ok_callV C h_X11_next ⟨rfl, rfl⟩ rfl kw_1322 kw_1319 kw_1321 kp_49 kw_11 rfl ds_X11_next ⟨by decide, by decide⟩ (show decode cX11_takesName 12 = .ok (.invokevirtual 176, 3) by decide +kernel) rfl, ?_⟩
  refine List.forall_mem_cons.mpr ⟨ok_iconst C (show decode cX11_takesName 15 = .ok (.iconst 1, 1) by decide +kernel) (by decide) rfl, ?_⟩
  refine List.forall_mem_cons.mpr ⟨ok_zret C rfl (show decode cX11_takesName 16 = .ok (.ireturn, 1) by decide +kernel), ?_⟩
  exact fun _ h => absurd h List.not_mem_nil
