def L_X11_prices (f_X11_tries : List Value → ab_H → Option ab_O) (f_X11_goesOn : List Value → ab_H → Option ab_O) (f_X11_back : List Value → ab_H → Option ab_O) : List (Nat × ab_A) := [
  (0, ab_nx 1 (ab_aload 0)),
  (1, ab_nx 2 (ab_lit (.int 0))),
  (2, ab_nx 5 (ab_putf 11 0 0)),
  (5, ab_nx 6 (ab_aload 0)),
  (6, ab_nx 7 (ab_aload 0)),
  (7, ab_nx 10 (ab_getf 11 6)),
  (10, ab_nx 11 (ab_lit (.int 0))),
  (11, ab_nx 12 (ab_ald 1)),
  (12, ab_nx 15 (ab_putf 11 28 0)),
  (15, ab_nx 16 (ab_lit (.int 0))),
  (16, ab_nx 17 (ab_istore 1)),
  (17, ab_nx 18 (ab_iload 1)),
  (18, ab_nx 20 (ab_lit (.int 12))),
  (20, ab_icmp 23 36 (fun x y => decide (y ≤ x))),
  (23, ab_nx 24 (ab_aload 0)),
  (24, ab_nx 27 (ab_getf 11 27)),
  (27, ab_nx 28 (ab_iload 1)),
  (28, ab_nx 29 (ab_lit (.int 5))),
  (29, ab_nx 30 (ab_ast 1)),
  (30, ab_nx 33 (ab_iinc 1 1)),
  (33, ab_goto 17),
  (36, ab_nx 37 (ab_aload 0)),
  (37, ab_nx 40 (ab_callV 1 11 f_X11_tries 0 0 0 0)),
  (40, ab_nx 41 (ab_lit (.int 0))),
  (41, ab_nx 42 (ab_istore 1)),
  (42, ab_nx 43 (ab_lit (.int 1))),
  (43, ab_nx 44 (ab_istore 2)),
  (44, ab_nx 45 (ab_iload 2)),
  (45, ab_if 48 187 (fun x => decide (x = 0))),
  (48, ab_nx 49 (ab_iload 1)),
  (49, ab_nx 51 (ab_lit (.int 60))),
  (51, ab_icmp 54 187 (fun x y => decide (y ≤ x))),
  (54, ab_nx 57 (ab_iinc 1 1)),
  (57, ab_nx 58 (ab_lit (.int 0))),
  (58, ab_nx 59 (ab_istore 2)),
  (59, ab_nx 60 (ab_lit (.int 0))),
  (60, ab_nx 61 (ab_istore 3)),
  (61, ab_nx 62 (ab_iload 3)),
  (62, ab_nx 63 (ab_lit (.int 2))),
  (63, ab_nx 64 (ab_aload 0)),
  (64, ab_nx 67 (ab_getf 11 6)),
  (67, ab_nx 68 (ab_lit (.int 0))),
  (68, ab_nx 69 (ab_ald 1)),
  (69, ab_nx 70 (ab_bin (fun x y => x * y))),
  (70, ab_icmp 73 178 (fun x y => decide (y ≤ x))),
  (73, ab_nx 74 (ab_aload 0)),
  (74, ab_nx 77 (ab_getf 11 27)),
  (77, ab_nx 78 (ab_iload 3)),
  (78, ab_nx 79 (ab_ald 1)),
  (79, ab_nx 81 (ab_istore 4)),
  (81, ab_nx 82 (ab_aload 0)),
  (82, ab_nx 85 (ab_getf 11 6)),
  (85, ab_nx 87 (ab_lit (.int 124))),
  (87, ab_nx 88 (ab_iload 3)),
  (88, ab_nx 89 (ab_bin (fun x y => x + y))),
  (89, ab_nx 90 (ab_ald 1)),
  (90, ab_nx 91 (ab_aload 0)),
  (91, ab_nx 94 (ab_getf 11 6)),
  (94, ab_nx 96 (ab_lit (.int 16))),
  (96, ab_nx 97 (ab_iload 3)),
  (97, ab_nx 98 (ab_bin (fun x y => x + y))),
  (98, ab_nx 99 (ab_ald 1)),
  (99, ab_icmp 102 115 (fun x y => decide (y ≤ x))),
  (102, ab_nx 103 (ab_aload 0)),
  (103, ab_nx 106 (ab_getf 11 27)),
  (106, ab_nx 107 (ab_iload 3)),
  (107, ab_nx 108 ab_dup2),
  (108, ab_nx 109 (ab_ald 1)),
  (109, ab_nx 110 (ab_lit (.int 1))),
  (110, ab_nx 111 (ab_bin (fun x y => x + y))),
  (111, ab_nx 112 (ab_ast 1)),
  (112, ab_goto 151),
  (115, ab_nx 116 (ab_aload 0)),
  (116, ab_nx 119 (ab_getf 11 6)),
  (119, ab_nx 121 (ab_lit (.int 124))),
  (121, ab_nx 122 (ab_iload 3)),
  (122, ab_nx 123 (ab_bin (fun x y => x + y))),
  (123, ab_nx 124 (ab_ald 1)),
  (124, ab_nx 125 (ab_aload 0)),
  (125, ab_nx 128 (ab_getf 11 6)),
  (128, ab_nx 130 (ab_lit (.int 16))),
  (130, ab_nx 131 (ab_iload 3)),
  (131, ab_nx 132 (ab_bin (fun x y => x + y))),
  (132, ab_nx 133 (ab_ald 1)),
  (133, ab_icmp 136 151 (fun x y => decide (x ≤ y))),
  (136, ab_nx 138 (ab_iload 4)),
  (138, ab_if 141 151 (fun x => decide (x ≤ 0))),
  (141, ab_nx 142 (ab_aload 0)),
  (142, ab_nx 145 (ab_getf 11 27)),
  (145, ab_nx 146 (ab_iload 3)),
  (146, ab_nx 147 ab_dup2),
  (147, ab_nx 148 (ab_ald 1)),
  (148, ab_nx 149 (ab_lit (.int 1))),
  (149, ab_nx 150 (ab_bin (fun x y => x - y))),
  (150, ab_nx 151 (ab_ast 1)),
  (151, ab_nx 152 (ab_iload 2)),
  (152, ab_if 155 166 (fun x => !decide (x = 0))),
  (155, ab_nx 156 (ab_aload 0)),
  (156, ab_nx 159 (ab_getf 11 27)),
  (159, ab_nx 160 (ab_iload 3)),
  (160, ab_nx 161 (ab_ald 1)),
  (161, ab_nx 163 (ab_iload 4)),
  (163, ab_icmp 166 170 (fun x y => decide (x = y))),
  (166, ab_nx 167 (ab_lit (.int 1))),
  (167, ab_goto 171),
  (170, ab_nx 171 (ab_lit (.int 0))),
  (171, ab_nx 172 (ab_istore 2)),
  (172, ab_nx 175 (ab_iinc 3 1)),
  (175, ab_goto 61),
  (178, ab_nx 179 (ab_aload 0)),
  (179, ab_nx 180 (ab_lit (.int 1))),
  (180, ab_nx 183 (ab_callV 2 11 f_X11_goesOn 0 0 0 0)),
  (183, ab_nx 184 ab_pop),
  (184, ab_goto 44),
  (187, ab_nx 188 (ab_aload 0)),
  (188, ab_nx 191 (ab_callV 1 11 f_X11_back 0 0 0 0)),
  (191, ab_nx 192 (ab_iload 1)),
  (192, ab_ret 0 0)]
set_option maxRecDepth 100000 in
set_option maxHeartbeats 4000000 in
theorem M_X11_prices {l : Launch} {b : ab_B} {D : va_G} {cA : Nat → ClassId} {f_X11_tries : List Value → ab_H → Option ab_O} (h_X11_tries : ab_M l b D ab_cl cA (ab_E0 b) yX11_tries (Cond.code yX11_tries cX11_tries 2 none :: ab_G) ({ frames := 1, cells := 0, slots := 0, locals := 100 } : Room) f_X11_tries) {f_X11_goesOn : List Value → ab_H → Option ab_O} (h_X11_goesOn : ab_M l b D ab_cl cA (ab_E0 b) yX11_goesOn (Cond.code yX11_goesOn cX11_goesOn 3 (some .int) :: ab_G) ({ frames := 8, cells := 0, slots := 0, locals := 800 } : Room) f_X11_goesOn) {f_X11_back : List Value → ab_H → Option ab_O} (h_X11_back : ab_M l b D ab_cl cA (ab_E0 b) yX11_back (Cond.code yX11_back cX11_back 2 none :: ab_G) ({ frames := 1, cells := 0, slots := 0, locals := 100 } : Room) f_X11_back) : ab_M l b D ab_cl cA (ab_E0 b) yX11_prices (Cond.code yX11_prices cX11_prices 5 (some .int) :: ab_G) ({ frames := 9, cells := 0, slots := 0, locals := 900 } : Room) (ab_X (ab_T (L_X11_prices f_X11_tries f_X11_goesOn f_X11_back)) 5) := by
  refine ab_meth (ret := (some .int)) (L_X11_prices f_X11_tries f_X11_goesOn f_X11_back) (by decide) rfl fun p e R s m args below meth c o C => ?_
  unfold L_X11_prices
  refine List.forall_mem_cons.mpr ⟨ok_aload_n C (show decode cX11_prices 0 = .ok (.aload_n 0, 1) by decide +kernel) rfl rfl, ?_⟩
  refine List.forall_mem_cons.mpr ⟨ok_iconst C (show decode cX11_prices 1 = .ok (.iconst 0, 1) by decide +kernel) (by decide) rfl, ?_⟩
  refine List.forall_mem_cons.mpr ⟨ok_putf C (wi_X11) tyX11 tyX11_ok nmX11 rfl (by decide) kw_1180 (Or.inl rfl) (Or.inl ⟨rfl, rfl⟩) (show decode cX11_prices 2 = .ok (.putfield 1, 3) by decide +kernel) rfl, ?_⟩
  refine List.forall_mem_cons.mpr ⟨ok_aload_n C (show decode cX11_prices 5 = .ok (.aload_n 0, 1) by decide +kernel) rfl rfl, ?_⟩
  refine List.forall_mem_cons.mpr ⟨ok_aload_n C (show decode cX11_prices 6 = .ok (.aload_n 0, 1) by decide +kernel) rfl rfl, ?_⟩
  refine List.forall_mem_cons.mpr ⟨ok_getf C (wi_X11) rfl (by decide) kw_1186 (show decode cX11_prices 7 = .ok (.getfield 33, 3) by decide +kernel) rfl, ?_⟩
  refine List.forall_mem_cons.mpr ⟨ok_iconst C (show decode cX11_prices 10 = .ok (.iconst 0, 1) by decide +kernel) (by decide) rfl, ?_⟩
  refine List.forall_mem_cons.mpr ⟨ok_iaload C (show decode cX11_prices 11 = .ok (.iaload, 1) by decide +kernel) rfl, ?_⟩
  refine List.forall_mem_cons.mpr ⟨ok_putf C (wi_X11) tyX11 tyX11_ok nmX11 rfl (by decide) kw_1208 (Or.inl rfl) (Or.inl ⟨rfl, rfl⟩) (show decode cX11_prices 12 = .ok (.putfield 65, 3) by decide +kernel) rfl, ?_⟩
  refine List.forall_mem_cons.mpr ⟨ok_iconst C (show decode cX11_prices 15 = .ok (.iconst 0, 1) by decide +kernel) (by decide) rfl, ?_⟩
  refine List.forall_mem_cons.mpr ⟨ok_istore_n C (show decode cX11_prices 16 = .ok (.istore_n 1, 1) by decide +kernel) rfl (by decide) rfl, ?_⟩
  refine List.forall_mem_cons.mpr ⟨ok_iload_n C (show decode cX11_prices 17 = .ok (.iload_n 1, 1) by decide +kernel) rfl rfl, ?_⟩
  refine List.forall_mem_cons.mpr ⟨ok_bipush C (show decode cX11_prices 18 = .ok (.bipush 12, 2) by decide +kernel) (by decide) rfl, ?_⟩
  refine List.forall_mem_cons.mpr ⟨ok_icmpge C (show decode cX11_prices 20 = .ok (.if_icmp .ge 16, 3) by decide +kernel) (tg := 36) (by decide) rfl rfl, ?_⟩
  refine List.forall_mem_cons.mpr ⟨ok_aload_n C (show decode cX11_prices 23 = .ok (.aload_n 0, 1) by decide +kernel) rfl rfl, ?_⟩
  refine List.forall_mem_cons.mpr ⟨ok_getf C (wi_X11) rfl (by decide) kw_1207 (show decode cX11_prices 24 = .ok (.getfield 62, 3) by decide +kernel) rfl, ?_⟩
  refine List.forall_mem_cons.mpr ⟨ok_iload_n C (show decode cX11_prices 27 = .ok (.iload_n 1, 1) by decide +kernel) rfl rfl, ?_⟩
  refine List.forall_mem_cons.mpr ⟨ok_iconst C (show decode cX11_prices 28 = .ok (.iconst 5, 1) by decide +kernel) (by decide) rfl, ?_⟩
  refine List.forall_mem_cons.mpr ⟨ok_iastore C (show decode cX11_prices 29 = .ok (.iastore, 1) by decide +kernel) rfl, ?_⟩
  refine List.forall_mem_cons.mpr ⟨ok_iinc C (show decode cX11_prices 30 = .ok (.iinc 1 1, 3) by decide +kernel) (by decide) (by decide) rfl, ?_⟩
  refine List.forall_mem_cons.mpr ⟨ok_goto C (show decode cX11_prices 33 = .ok (.goto (-16), 3) by decide +kernel) (tg := 17) (by decide) rfl, ?_⟩
  refine List.forall_mem_cons.mpr ⟨ok_aload_n C (show decode cX11_prices 36 = .ok (.aload_n 0, 1) by decide +kernel) rfl rfl, ?_⟩
  refine List.forall_mem_cons.mpr ⟨ok_callV C h_X11_tries ⟨rfl, rfl⟩ rfl kw_1556 kw_1553 kw_1555 kp_86 kw_11 rfl ds_X11_tries ⟨by decide, by decide⟩ (show decode cX11_prices 37 = .ok (.invokevirtual 317, 3) by decide +kernel) rfl, ?_⟩
  refine List.forall_mem_cons.mpr ⟨ok_iconst C (show decode cX11_prices 40 = .ok (.iconst 0, 1) by decide +kernel) (by decide) rfl, ?_⟩
  refine List.forall_mem_cons.mpr ⟨ok_istore_n C (show decode cX11_prices 41 = .ok (.istore_n 1, 1) by decide +kernel) rfl (by decide) rfl, ?_⟩
  refine List.forall_mem_cons.mpr ⟨ok_iconst C (show decode cX11_prices 42 = .ok (.iconst 1, 1) by decide +kernel) (by decide) rfl, ?_⟩
  refine List.forall_mem_cons.mpr ⟨ok_istore_n C (show decode cX11_prices 43 = .ok (.istore_n 2, 1) by decide +kernel) rfl (by decide) rfl, ?_⟩
  refine List.forall_mem_cons.mpr ⟨ok_iload_n C (show decode cX11_prices 44 = .ok (.iload_n 2, 1) by decide +kernel) rfl rfl, ?_⟩
  refine List.forall_mem_cons.mpr ⟨ok_ifeq C (show decode cX11_prices 45 = .ok (.ifCond .eq 142, 3) by decide +kernel) (tg := 187) (by decide) rfl rfl, ?_⟩
  refine List.forall_mem_cons.mpr ⟨ok_iload_n C (show decode cX11_prices 48 = .ok (.iload_n 1, 1) by decide +kernel) rfl rfl, ?_⟩
  refine List.forall_mem_cons.mpr ⟨ok_bipush C (show decode cX11_prices 49 = .ok (.bipush 60, 2) by decide +kernel) (by decide) rfl, ?_⟩
  refine List.forall_mem_cons.mpr ⟨ok_icmpge C (show decode cX11_prices 51 = .ok (.if_icmp .ge 136, 3) by decide +kernel) (tg := 187) (by decide) rfl rfl, ?_⟩
  refine List.forall_mem_cons.mpr ⟨ok_iinc C (show decode cX11_prices 54 = .ok (.iinc 1 1, 3) by decide +kernel) (by decide) (by decide) rfl, ?_⟩
  refine List.forall_mem_cons.mpr ⟨ok_iconst C (show decode cX11_prices 57 = .ok (.iconst 0, 1) by decide +kernel) (by decide) rfl, ?_⟩
  refine List.forall_mem_cons.mpr ⟨ok_istore_n C (show decode cX11_prices 58 = .ok (.istore_n 2, 1) by decide +kernel) rfl (by decide) rfl, ?_⟩
  refine List.forall_mem_cons.mpr ⟨ok_iconst C (show decode cX11_prices 59 = .ok (.iconst 0, 1) by decide +kernel) (by decide) rfl, ?_⟩
  refine List.forall_mem_cons.mpr ⟨ok_istore_n C (show decode cX11_prices 60 = .ok (.istore_n 3, 1) by decide +kernel) rfl (by decide) rfl, ?_⟩
  refine List.forall_mem_cons.mpr ⟨ok_iload_n C (show decode cX11_prices 61 = .ok (.iload_n 3, 1) by decide +kernel) rfl rfl, ?_⟩
  refine List.forall_mem_cons.mpr ⟨ok_iconst C (show decode cX11_prices 62 = .ok (.iconst 2, 1) by decide +kernel) (by decide) rfl, ?_⟩
  refine List.forall_mem_cons.mpr ⟨ok_aload_n C (show decode cX11_prices 63 = .ok (.aload_n 0, 1) by decide +kernel) rfl rfl, ?_⟩
  refine List.forall_mem_cons.mpr ⟨ok_getf C (wi_X11) rfl (by decide) kw_1186 (show decode cX11_prices 64 = .ok (.getfield 33, 3) by decide +kernel) rfl, ?_⟩
  refine List.forall_mem_cons.mpr ⟨ok_iconst C (show decode cX11_prices 67 = .ok (.iconst 0, 1) by decide +kernel) (by decide) rfl, ?_⟩
  refine List.forall_mem_cons.mpr ⟨ok_iaload C (show decode cX11_prices 68 = .ok (.iaload, 1) by decide +kernel) rfl, ?_⟩
  refine List.forall_mem_cons.mpr ⟨ok_imul C (show decode cX11_prices 69 = .ok (.imul, 1) by decide +kernel) rfl, ?_⟩
  refine List.forall_mem_cons.mpr ⟨ok_icmpge C (show decode cX11_prices 70 = .ok (.if_icmp .ge 108, 3) by decide +kernel) (tg := 178) (by decide) rfl rfl, ?_⟩
  refine List.forall_mem_cons.mpr ⟨ok_aload_n C (show decode cX11_prices 73 = .ok (.aload_n 0, 1) by decide +kernel) rfl rfl, ?_⟩
  refine List.forall_mem_cons.mpr ⟨ok_getf C (wi_X11) rfl (by decide) kw_1207 (show decode cX11_prices 74 = .ok (.getfield 62, 3) by decide +kernel) rfl, ?_⟩
  refine List.forall_mem_cons.mpr ⟨ok_iload_n C (show decode cX11_prices 77 = .ok (.iload_n 3, 1) by decide +kernel) rfl rfl, ?_⟩
  refine List.forall_mem_cons.mpr ⟨ok_iaload C (show decode cX11_prices 78 = .ok (.iaload, 1) by decide +kernel) rfl, ?_⟩
  refine List.forall_mem_cons.mpr ⟨ok_istore C (show decode cX11_prices 79 = .ok (.istore 4, 2) by decide +kernel) (by decide) rfl, ?_⟩
  refine List.forall_mem_cons.mpr ⟨ok_aload_n C (show decode cX11_prices 81 = .ok (.aload_n 0, 1) by decide +kernel) rfl rfl, ?_⟩
  refine List.forall_mem_cons.mpr ⟨ok_getf C (wi_X11) rfl (by decide) kw_1186 (show decode cX11_prices 82 = .ok (.getfield 33, 3) by decide +kernel) rfl, ?_⟩
  refine List.forall_mem_cons.mpr ⟨ok_bipush C (show decode cX11_prices 85 = .ok (.bipush 124, 2) by decide +kernel) (by decide) rfl, ?_⟩
  refine List.forall_mem_cons.mpr ⟨ok_iload_n C (show decode cX11_prices 87 = .ok (.iload_n 3, 1) by decide +kernel) rfl rfl, ?_⟩
  refine List.forall_mem_cons.mpr ⟨ok_iadd C (show decode cX11_prices 88 = .ok (.iadd, 1) by decide +kernel) rfl, ?_⟩
  refine List.forall_mem_cons.mpr ⟨ok_iaload C (show decode cX11_prices 89 = .ok (.iaload, 1) by decide +kernel) rfl, ?_⟩
  refine List.forall_mem_cons.mpr ⟨ok_aload_n C (show decode cX11_prices 90 = .ok (.aload_n 0, 1) by decide +kernel) rfl rfl, ?_⟩
  refine List.forall_mem_cons.mpr ⟨ok_getf C (wi_X11) rfl (by decide) kw_1186 (show decode cX11_prices 91 = .ok (.getfield 33, 3) by decide +kernel) rfl, ?_⟩
  refine List.forall_mem_cons.mpr ⟨ok_bipush C (show decode cX11_prices 94 = .ok (.bipush 16, 2) by decide +kernel) (by decide) rfl, ?_⟩
  refine List.forall_mem_cons.mpr ⟨ok_iload_n C (show decode cX11_prices 96 = .ok (.iload_n 3, 1) by decide +kernel) rfl rfl, ?_⟩
  refine List.forall_mem_cons.mpr ⟨ok_iadd C (show decode cX11_prices 97 = .ok (.iadd, 1) by decide +kernel) rfl, ?_⟩
  refine List.forall_mem_cons.mpr ⟨ok_iaload C (show decode cX11_prices 98 = .ok (.iaload, 1) by decide +kernel) rfl, ?_⟩
  refine List.forall_mem_cons.mpr ⟨ok_icmpge C (show decode cX11_prices 99 = .ok (.if_icmp .ge 16, 3) by decide +kernel) (tg := 115) (by decide) rfl rfl, ?_⟩
  refine List.forall_mem_cons.mpr ⟨ok_aload_n C (show decode cX11_prices 102 = .ok (.aload_n 0, 1) by decide +kernel) rfl rfl, ?_⟩
  refine List.forall_mem_cons.mpr ⟨ok_getf C (wi_X11) rfl (by decide) kw_1207 (show decode cX11_prices 103 = .ok (.getfield 62, 3) by decide +kernel) rfl, ?_⟩
  refine List.forall_mem_cons.mpr ⟨ok_iload_n C (show decode cX11_prices 106 = .ok (.iload_n 3, 1) by decide +kernel) rfl rfl, ?_⟩
  refine List.forall_mem_cons.mpr ⟨ok_dup2 C (show decode cX11_prices 107 = .ok (.dup2, 1) by decide +kernel) rfl, ?_⟩
  refine List.forall_mem_cons.mpr ⟨ok_iaload C (show decode cX11_prices 108 = .ok (.iaload, 1) by decide +kernel) rfl, ?_⟩
  refine List.forall_mem_cons.mpr ⟨ok_iconst C (show decode cX11_prices 109 = .ok (.iconst 1, 1) by decide +kernel) (by decide) rfl, ?_⟩
  refine List.forall_mem_cons.mpr ⟨ok_iadd C (show decode cX11_prices 110 = .ok (.iadd, 1) by decide +kernel) rfl, ?_⟩
  refine List.forall_mem_cons.mpr ⟨ok_iastore C (show decode cX11_prices 111 = .ok (.iastore, 1) by decide +kernel) rfl, ?_⟩
  refine List.forall_mem_cons.mpr ⟨ok_goto C (show decode cX11_prices 112 = .ok (.goto 39, 3) by decide +kernel) (tg := 151) (by decide) rfl, ?_⟩
  refine List.forall_mem_cons.mpr ⟨ok_aload_n C (show decode cX11_prices 115 = .ok (.aload_n 0, 1) by decide +kernel) rfl rfl, ?_⟩
  refine List.forall_mem_cons.mpr ⟨ok_getf C (wi_X11) rfl (by decide) kw_1186 (show decode cX11_prices 116 = .ok (.getfield 33, 3) by decide +kernel) rfl, ?_⟩
  refine List.forall_mem_cons.mpr ⟨ok_bipush C (show decode cX11_prices 119 = .ok (.bipush 124, 2) by decide +kernel) (by decide) rfl, ?_⟩
  refine List.forall_mem_cons.mpr ⟨ok_iload_n C (show decode cX11_prices 121 = .ok (.iload_n 3, 1) by decide +kernel) rfl rfl, ?_⟩
  refine List.forall_mem_cons.mpr ⟨ok_iadd C (show decode cX11_prices 122 = .ok (.iadd, 1) by decide +kernel) rfl, ?_⟩
  refine List.forall_mem_cons.mpr ⟨ok_iaload C (show decode cX11_prices 123 = .ok (.iaload, 1) by decide +kernel) rfl, ?_⟩
  refine List.forall_mem_cons.mpr ⟨ok_aload_n C (show decode cX11_prices 124 = .ok (.aload_n 0, 1) by decide +kernel) rfl rfl, ?_⟩
  refine List.forall_mem_cons.mpr ⟨ok_getf C (wi_X11) rfl (by decide) kw_1186 (show decode cX11_prices 125 = .ok (.getfield 33, 3) by decide +kernel) rfl, ?_⟩
  refine List.forall_mem_cons.mpr ⟨ok_bipush C (show decode cX11_prices 128 = .ok (.bipush 16, 2) by decide +kernel) (by decide) rfl, ?_⟩
  refine List.forall_mem_cons.mpr ⟨ok_iload_n C (show decode cX11_prices 130 = .ok (.iload_n 3, 1) by decide +kernel) rfl rfl, ?_⟩
  refine List.forall_mem_cons.mpr ⟨ok_iadd C (show decode cX11_prices 131 = .ok (.iadd, 1) by decide +kernel) rfl, ?_⟩
  refine List.forall_mem_cons.mpr ⟨ok_iaload C (show decode cX11_prices 132 = .ok (.iaload, 1) by decide +kernel) rfl, ?_⟩
  refine List.forall_mem_cons.mpr ⟨ok_icmple C (show decode cX11_prices 133 = .ok (.if_icmp .le 18, 3) by decide +kernel) (tg := 151) (by decide) rfl rfl, ?_⟩
  refine List.forall_mem_cons.mpr ⟨ok_iload C (show decode cX11_prices 136 = .ok (.iload 4, 2) by decide +kernel) rfl, ?_⟩
  refine List.forall_mem_cons.mpr ⟨ok_ifle C (show decode cX11_prices 138 = .ok (.ifCond .le 13, 3) by decide +kernel) (tg := 151) (by decide) rfl rfl, ?_⟩
  refine List.forall_mem_cons.mpr ⟨ok_aload_n C (show decode cX11_prices 141 = .ok (.aload_n 0, 1) by decide +kernel) rfl rfl, ?_⟩
  refine List.forall_mem_cons.mpr ⟨ok_getf C (wi_X11) rfl (by decide) kw_1207 (show decode cX11_prices 142 = .ok (.getfield 62, 3) by decide +kernel) rfl, ?_⟩
  refine List.forall_mem_cons.mpr ⟨ok_iload_n C (show decode cX11_prices 145 = .ok (.iload_n 3, 1) by decide +kernel) rfl rfl, ?_⟩
  refine List.forall_mem_cons.mpr ⟨ok_dup2 C (show decode cX11_prices 146 = .ok (.dup2, 1) by decide +kernel) rfl, ?_⟩
  refine List.forall_mem_cons.mpr ⟨ok_iaload C (show decode cX11_prices 147 = .ok (.iaload, 1) by decide +kernel) rfl, ?_⟩
  refine List.forall_mem_cons.mpr ⟨ok_iconst C (show decode cX11_prices 148 = .ok (.iconst 1, 1) by decide +kernel) (by decide) rfl, ?_⟩
  refine List.forall_mem_cons.mpr ⟨ok_isub C (show decode cX11_prices 149 = .ok (.isub, 1) by decide +kernel) rfl, ?_⟩
  refine List.forall_mem_cons.mpr ⟨ok_iastore C (show decode cX11_prices 150 = .ok (.iastore, 1) by decide +kernel) rfl, ?_⟩
  refine List.forall_mem_cons.mpr ⟨ok_iload_n C (show decode cX11_prices 151 = .ok (.iload_n 2, 1) by decide +kernel) rfl rfl, ?_⟩
  refine List.forall_mem_cons.mpr ⟨ok_ifne C (show decode cX11_prices 152 = .ok (.ifCond .ne 14, 3) by decide +kernel) (tg := 166) (by decide) rfl rfl, ?_⟩
  refine List.forall_mem_cons.mpr ⟨ok_aload_n C (show decode cX11_prices 155 = .ok (.aload_n 0, 1) by decide +kernel) rfl rfl, ?_⟩
  refine List.forall_mem_cons.mpr ⟨ok_getf C (wi_X11) rfl (by decide) kw_1207 (show decode cX11_prices 156 = .ok (.getfield 62, 3) by decide +kernel) rfl, ?_⟩
  refine List.forall_mem_cons.mpr ⟨ok_iload_n C (show decode cX11_prices 159 = .ok (.iload_n 3, 1) by decide +kernel) rfl rfl, ?_⟩
  refine List.forall_mem_cons.mpr ⟨ok_iaload C (show decode cX11_prices 160 = .ok (.iaload, 1) by decide +kernel) rfl, ?_⟩
  refine List.forall_mem_cons.mpr ⟨ok_iload C (show decode cX11_prices 161 = .ok (.iload 4, 2) by decide +kernel) rfl, ?_⟩
  refine List.forall_mem_cons.mpr ⟨ok_icmpeq C (show decode cX11_prices 163 = .ok (.if_icmp .eq 7, 3) by decide +kernel) (tg := 170) (by decide) rfl rfl, ?_⟩
  refine List.forall_mem_cons.mpr ⟨ok_iconst C (show decode cX11_prices 166 = .ok (.iconst 1, 1) by decide +kernel) (by decide) rfl, ?_⟩
  refine List.forall_mem_cons.mpr ⟨ok_goto C (show decode cX11_prices 167 = .ok (.goto 4, 3) by decide +kernel) (tg := 171) (by decide) rfl, ?_⟩
  refine List.forall_mem_cons.mpr ⟨ok_iconst C (show decode cX11_prices 170 = .ok (.iconst 0, 1) by decide +kernel) (by decide) rfl, ?_⟩
  refine List.forall_mem_cons.mpr ⟨ok_istore_n C (show decode cX11_prices 171 = .ok (.istore_n 2, 1) by decide +kernel) rfl (by decide) rfl, ?_⟩
  refine List.forall_mem_cons.mpr ⟨ok_iinc C (show decode cX11_prices 172 = .ok (.iinc 3 1, 3) by decide +kernel) (by decide) (by decide) rfl, ?_⟩
  refine List.forall_mem_cons.mpr ⟨ok_goto C (show decode cX11_prices 175 = .ok (.goto (-114), 3) by decide +kernel) (tg := 61) (by decide) rfl, ?_⟩
  refine List.forall_mem_cons.mpr ⟨ok_aload_n C (show decode cX11_prices 178 = .ok (.aload_n 0, 1) by decide +kernel) rfl rfl, ?_⟩
  refine List.forall_mem_cons.mpr ⟨ok_iconst C (show decode cX11_prices 179 = .ok (.iconst 1, 1) by decide +kernel) (by decide) rfl, ?_⟩
  refine List.forall_mem_cons.mpr ⟨ok_callV C h_X11_goesOn ⟨rfl, rfl⟩ rfl kw_1509 kw_1506 kw_1508 kp_81 kw_11 rfl ds_X11_goesOn ⟨by decide, by decide⟩ (show decode cX11_prices 180 = .ok (.invokevirtual 314, 3) by decide +kernel) rfl, ?_⟩
  refine List.forall_mem_cons.mpr ⟨ok_pop C (show decode cX11_prices 183 = .ok (.pop, 1) by decide +kernel) rfl, ?_⟩
  refine List.forall_mem_cons.mpr ⟨ok_goto C (show decode cX11_prices 184 = .ok (.goto (-140), 3) by decide +kernel) (tg := 44) (by decide) rfl, ?_⟩
  refine List.forall_mem_cons.mpr ⟨ok_aload_n C (show decode cX11_prices 187 = .ok (.aload_n 0, 1) by decide +kernel) rfl rfl, ?_⟩
  refine List.forall_mem_cons.mpr ⟨ok_callV C h_X11_back ⟨rfl, rfl⟩ rfl kw_1560 kw_1557 kw_1559 kp_87 kw_11 rfl ds_X11_back ⟨by decide, by decide⟩ (show decode cX11_prices 188 = .ok (.invokevirtual 320, 3) by decide +kernel) rfl, ?_⟩
  refine List.forall_mem_cons.mpr ⟨ok_iload_n C (show decode cX11_prices 191 = .ok (.iload_n 1, 1) by decide +kernel) rfl rfl, ?_⟩
  refine List.forall_mem_cons.mpr ⟨ok_ret C rfl (show decode cX11_prices 192 = .ok (.ireturn, 1) by decide +kernel), ?_⟩
  exact fun _ h => absurd h List.not_mem_nil
def L_X11_price (f_X11_isIn : List Value → ab_H → Option ab_O) (f_X11_isShore : List Value → ab_H → Option ab_O) (f_X11_cell : List Value → ab_H → Option ab_O) : List (Nat × ab_A) := [
  (0, ab_nx 1 (ab_aload 0)),
  (1, ab_nx 2 (ab_lit (.int 0))),
  (2, ab_nx 5 (ab_putf 11 0 0)),
  (5, ab_nx 6 (ab_iload 1)),
  (6, ab_nx 7 (ab_lit (.int 0))),
  (7, ab_nx 8 (ab_aload 0)),
  (8, ab_nx 11 (ab_getf 11 28)),
  (11, ab_nx 12 (ab_lit (.int 1))),
  (12, ab_nx 13 (ab_bin (fun x y => x - y))),
  (13, ab_nx 16 (ab_call 3 f_X11_isIn 0 0 0 0)),
  (16, ab_if 19 40 (fun x => decide (x = 0))),
  (19, ab_nx 20 (ab_aload 0)),
  (20, ab_nx 21 (ab_iload 2)),
  (21, ab_nx 24 (ab_callV 2 11 f_X11_isShore 0 0 0 0)),
  (24, ab_if 27 40 (fun x => decide (x = 0))),
  (27, ab_nx 28 (ab_aload 0)),
  (28, ab_nx 31 (ab_getf 11 27)),
  (31, ab_nx 32 (ab_iload 1)),
  (32, ab_nx 33 (ab_iload 2)),
  (33, ab_nx 36 (ab_call 2 f_X11_cell 0 0 0 0)),
  (36, ab_nx 37 (ab_ald 1)),
  (37, ab_goto 41),
  (40, ab_nx 41 (ab_lit (.int (-1)))),
  (41, ab_ret 0 0)]
set_option maxRecDepth 100000 in
set_option maxHeartbeats 4000000 in
theorem M_X11_price {l : Launch} {b : ab_B} {D : va_G} {cA : Nat → ClassId} {f_X11_isIn : List Value → ab_H → Option ab_O} (h_X11_isIn : ab_M l b D ab_cl cA (ab_E0 b) yX11_isIn (Cond.code yX11_isIn cX11_isIn 3 (some .boolean) :: ab_G) ({ frames := 1, cells := 0, slots := 0, locals := 100 } : Room) f_X11_isIn) {f_X11_isShore : List Value → ab_H → Option ab_O} (h_X11_isShore : ab_M l b D ab_cl cA (ab_E0 b) yX11_isShore (Cond.code yX11_isShore cX11_isShore 2 (some .boolean) :: ab_G) ({ frames := 2, cells := 0, slots := 0, locals := 200 } : Room) f_X11_isShore) {f_X11_cell : List Value → ab_H → Option ab_O} (h_X11_cell : ab_M l b D ab_cl cA (ab_E0 b) yX11_cell (Cond.code yX11_cell cX11_cell 2 (some .int) :: ab_G) ({ frames := 1, cells := 0, slots := 0, locals := 100 } : Room) f_X11_cell) : ab_M l b D ab_cl cA (ab_E0 b) yX11_price (Cond.code yX11_price cX11_price 3 (some .int) :: ab_G) ({ frames := 3, cells := 0, slots := 0, locals := 300 } : Room) (ab_X (ab_T (L_X11_price f_X11_isIn f_X11_isShore f_X11_cell)) 3) := by
  refine ab_meth (ret := (some .int)) (L_X11_price f_X11_isIn f_X11_isShore f_X11_cell) (by decide) rfl fun p e R s m args below meth c o C => ?_
  unfold L_X11_price
  refine List.forall_mem_cons.mpr ⟨ok_aload_n C (show decode cX11_price 0 = .ok (.aload_n 0, 1) by decide +kernel) rfl rfl, ?_⟩
  refine List.forall_mem_cons.mpr ⟨ok_iconst C (show decode cX11_price 1 = .ok (.iconst 0, 1) by decide +kernel) (by decide) rfl, ?_⟩
  refine List.forall_mem_cons.mpr ⟨ok_putf C (wi_X11) tyX11 tyX11_ok nmX11 rfl (by decide) kw_1180 (Or.inl rfl) (Or.inl ⟨rfl, rfl⟩) (show decode cX11_price 2 = .ok (.putfield 1, 3) by decide +kernel) rfl, ?_⟩
  refine List.forall_mem_cons.mpr ⟨ok_iload_n C (show decode cX11_price 5 = .ok (.iload_n 1, 1) by decide +kernel) rfl rfl, ?_⟩
  refine List.forall_mem_cons.mpr ⟨ok_iconst C (show decode cX11_price 6 = .ok (.iconst 0, 1) by decide +kernel) (by decide) rfl, ?_⟩
  refine List.forall_mem_cons.mpr ⟨ok_aload_n C (show decode cX11_price 7 = .ok (.aload_n 0, 1) by decide +kernel) rfl rfl, ?_⟩
  refine List.forall_mem_cons.mpr ⟨ok_getf C (wi_X11) rfl (by decide) kw_1208 (show decode cX11_price 8 = .ok (.getfield 65, 3) by decide +kernel) rfl, ?_⟩
  refine List.forall_mem_cons.mpr ⟨ok_iconst C (show decode cX11_price 11 = .ok (.iconst 1, 1) by decide +kernel) (by decide) rfl, ?_⟩
  refine List.forall_mem_cons.mpr ⟨ok_isub C (show decode cX11_price 12 = .ok (.isub, 1) by decide +kernel) rfl, ?_⟩
  refine List.forall_mem_cons.mpr ⟨ok_callS C h_X11_isIn ⟨rfl, rfl⟩ kw_1355 kw_1353 kw_1354 kw_11 ds_X11_isIn ⟨by decide, by decide⟩ (show decode cX11_price 13 = .ok (.invokestatic 179, 3) by decide +kernel) rfl, ?_⟩
  refine List.forall_mem_cons.mpr ⟨ok_ifeq C (show decode cX11_price 16 = .ok (.ifCond .eq 24, 3) by decide +kernel) (tg := 40) (by decide) rfl rfl, ?_⟩
  refine List.forall_mem_cons.mpr ⟨ok_aload_n C (show decode cX11_price 19 = .ok (.aload_n 0, 1) by decide +kernel) rfl rfl, ?_⟩
  refine List.forall_mem_cons.mpr ⟨ok_iload_n C (show decode cX11_price 20 = .ok (.iload_n 2, 1) by decide +kernel) rfl rfl, ?_⟩
  refine List.forall_mem_cons.mpr ⟨ok_callV C h_X11_isShore ⟨rfl, rfl⟩ rfl kw_1410 kw_1407 kw_1409 kp_66 kw_11 rfl ds_X11_isShore ⟨by decide, by decide⟩ (show decode cX11_price 21 = .ok (.invokevirtual 242, 3) by decide +kernel) rfl, ?_⟩
  refine List.forall_mem_cons.mpr ⟨ok_ifeq C (show decode cX11_price 24 = .ok (.ifCond .eq 16, 3) by decide +kernel) (tg := 40) (by decide) rfl rfl, ?_⟩
  refine List.forall_mem_cons.mpr ⟨ok_aload_n C (show decode cX11_price 27 = .ok (.aload_n 0, 1) by decide +kernel) rfl rfl, ?_⟩
  refine List.forall_mem_cons.mpr ⟨ok_getf C (wi_X11) rfl (by decide) kw_1207 (show decode cX11_price 28 = .ok (.getfield 62, 3) by decide +kernel) rfl, ?_⟩
  refine List.forall_mem_cons.mpr ⟨ok_iload_n C (show decode cX11_price 31 = .ok (.iload_n 1, 1) by decide +kernel) rfl rfl, ?_⟩
  refine List.forall_mem_cons.mpr ⟨ok_iload_n C (show decode cX11_price 32 = .ok (.iload_n 2, 1) by decide +kernel) rfl rfl, ?_⟩
  refine List.forall_mem_cons.mpr ⟨ok_callS C h_X11_cell ⟨rfl, rfl⟩ kw_1413 kw_1411 kw_1412 kw_11 ds_X11_cell ⟨by decide, by decide⟩ (show decode cX11_price 33 = .ok (.invokestatic 245, 3) by decide +kernel) rfl, ?_⟩
  refine List.forall_mem_cons.mpr ⟨ok_iaload C (show decode cX11_price 36 = .ok (.iaload, 1) by decide +kernel) rfl, ?_⟩
  refine List.forall_mem_cons.mpr ⟨ok_goto C (show decode cX11_price 37 = .ok (.goto 4, 3) by decide +kernel) (tg := 41) (by decide) rfl, ?_⟩
  refine List.forall_mem_cons.mpr ⟨ok_iconst C (show decode cX11_price 40 = .ok (.iconst (-1), 1) by decide +kernel) (by decide) rfl, ?_⟩
  refine List.forall_mem_cons.mpr ⟨ok_ret C rfl (show decode cX11_price 41 = .ok (.ireturn, 1) by decide +kernel), ?_⟩
  exact fun _ h => absurd h List.not_mem_nil
def L_X11_dearest (f_X11_missedBy : List Value → ab_H → Option ab_O) (f_X11_bits : List Value → ab_H → Option ab_O) : List (Nat × ab_A) := [
  (0, ab_nx 1 (ab_aload 0)),
  (1, ab_nx 2 (ab_lit (.int 0))),
  (2, ab_nx 5 (ab_putf 11 0 0)),
  (5, ab_nx 6 (ab_lit (.int (-1)))),
  (6, ab_nx 7 (ab_istore 1)),
  (7, ab_nx 8 (ab_lit (.int 0))),
  (8, ab_nx 9 (ab_istore 2)),
  (9, ab_nx 10 (ab_lit (.int 0))),
  (10, ab_nx 11 (ab_istore 3)),
  (11, ab_nx 12 (ab_iload 3)),
  (12, ab_nx 13 (ab_aload 0)),
  (13, ab_nx 16 (ab_getf 11 6)),
  (16, ab_nx 17 (ab_lit (.int 1))),
  (17, ab_nx 18 (ab_ald 1)),
  (18, ab_icmp 21 53 (fun x y => decide (y ≤ x))),
  (21, ab_nx 22 (ab_aload 0)),
  (22, ab_nx 23 (ab_iload 3)),
  (23, ab_nx 26 (ab_callV 2 11 f_X11_missedBy 0 0 0 0)),
  (26, ab_nx 29 (ab_call 1 f_X11_bits 0 0 0 0)),
  (29, ab_nx 30 (ab_iload 2)),
  (30, ab_icmp 33 36 (fun x y => decide (y < x))),
  (33, ab_goto 47),
  (36, ab_nx 37 (ab_aload 0)),
  (37, ab_nx 38 (ab_iload 3)),
  (38, ab_nx 41 (ab_callV 2 11 f_X11_missedBy 0 0 0 0)),
  (41, ab_nx 44 (ab_call 1 f_X11_bits 0 0 0 0)),
  (44, ab_nx 45 (ab_istore 2)),
  (45, ab_nx 46 (ab_iload 3)),
  (46, ab_nx 47 (ab_istore 1)),
  (47, ab_nx 50 (ab_iinc 3 1)),
  (50, ab_goto 11),
  (53, ab_nx 54 (ab_iload 1)),
  (54, ab_ret 0 0)]
set_option maxRecDepth 100000 in
set_option maxHeartbeats 4000000 in
theorem M_X11_dearest {l : Launch} {b : ab_B} {D : va_G} {cA : Nat → ClassId} {f_X11_missedBy : List Value → ab_H → Option ab_O} (h_X11_missedBy : ab_M l b D ab_cl cA (ab_E0 b) yX11_missedBy (Cond.code yX11_missedBy cX11_missedBy 4 (some .int) :: ab_G) ({ frames := 5, cells := 0, slots := 0, locals := 500 } : Room) f_X11_missedBy) {f_X11_bits : List Value → ab_H → Option ab_O} (h_X11_bits : ab_M l b D ab_cl cA (ab_E0 b) yX11_bits (Cond.code yX11_bits cX11_bits 3 (some .int) :: ab_G) ({ frames := 1, cells := 0, slots := 0, locals := 100 } : Room) f_X11_bits) : ab_M l b D ab_cl cA (ab_E0 b) yX11_dearest (Cond.code yX11_dearest cX11_dearest 4 (some .int) :: ab_G) ({ frames := 6, cells := 0, slots := 0, locals := 600 } : Room) (ab_X (ab_T (L_X11_dearest f_X11_missedBy f_X11_bits)) 4) := by
  refine ab_meth (ret := (some .int)) (L_X11_dearest f_X11_missedBy f_X11_bits) (by decide) rfl fun p e R s m args below meth c o C => ?_
  unfold L_X11_dearest
  refine List.forall_mem_cons.mpr ⟨ok_aload_n C (show decode cX11_dearest 0 = .ok (.aload_n 0, 1) by decide +kernel) rfl rfl, ?_⟩
  refine List.forall_mem_cons.mpr ⟨ok_iconst C (show decode cX11_dearest 1 = .ok (.iconst 0, 1) by decide +kernel) (by decide) rfl, ?_⟩
  refine List.forall_mem_cons.mpr ⟨ok_putf C (wi_X11) tyX11 tyX11_ok nmX11 rfl (by decide) kw_1180 (Or.inl rfl) (Or.inl ⟨rfl, rfl⟩) (show decode cX11_dearest 2 = .ok (.putfield 1, 3) by decide +kernel) rfl, ?_⟩
  refine List.forall_mem_cons.mpr ⟨ok_iconst C (show decode cX11_dearest 5 = .ok (.iconst (-1), 1) by decide +kernel) (by decide) rfl, ?_⟩
  refine List.forall_mem_cons.mpr ⟨ok_istore_n C (show decode cX11_dearest 6 = .ok (.istore_n 1, 1) by decide +kernel) rfl (by decide) rfl, ?_⟩
  refine List.forall_mem_cons.mpr ⟨ok_iconst C (show decode cX11_dearest 7 = .ok (.iconst 0, 1) by decide +kernel) (by decide) rfl, ?_⟩
  refine List.forall_mem_cons.mpr ⟨ok_istore_n C (show decode cX11_dearest 8 = .ok (.istore_n 2, 1) by decide +kernel) rfl (by decide) rfl, ?_⟩
  refine List.forall_mem_cons.mpr ⟨ok_iconst C (show decode cX11_dearest 9 = .ok (.iconst 0, 1) by decide +kernel) (by decide) rfl, ?_⟩
  refine List.forall_mem_cons.mpr ⟨ok_istore_n C (show decode cX11_dearest 10 = .ok (.istore_n 3, 1) by decide +kernel) rfl (by decide) rfl, ?_⟩
  refine List.forall_mem_cons.mpr ⟨ok_iload_n C (show decode cX11_dearest 11 = .ok (.iload_n 3, 1) by decide +kernel) rfl rfl, ?_⟩
  refine List.forall_mem_cons.mpr ⟨ok_aload_n C (show decode cX11_dearest 12 = .ok (.aload_n 0, 1) by decide +kernel) rfl rfl, ?_⟩
  refine List.forall_mem_cons.mpr ⟨ok_getf C (wi_X11) rfl (by decide) kw_1186 (show decode cX11_dearest 13 = .ok (.getfield 33, 3) by decide +kernel) rfl, ?_⟩
  refine List.forall_mem_cons.mpr ⟨ok_iconst C (show decode cX11_dearest 16 = .ok (.iconst 1, 1) by decide +kernel) (by decide) rfl, ?_⟩
  refine List.forall_mem_cons.mpr ⟨ok_iaload C (show decode cX11_dearest 17 = .ok (.iaload, 1) by decide +kernel) rfl, ?_⟩
  refine List.forall_mem_cons.mpr ⟨ok_icmpge C (show decode cX11_dearest 18 = .ok (.if_icmp .ge 35, 3) by decide +kernel) (tg := 53) (by decide) rfl rfl, ?_⟩
  refine List.forall_mem_cons.mpr ⟨ok_aload_n C (show decode cX11_dearest 21 = .ok (.aload_n 0, 1) by decide +kernel) rfl rfl, ?_⟩
  refine List.forall_mem_cons.mpr ⟨ok_iload_n C (show decode cX11_dearest 22 = .ok (.iload_n 3, 1) by decide +kernel) rfl rfl, ?_⟩
  refine List.forall_mem_cons.mpr ⟨ok_callV C h_X11_missedBy ⟨rfl, rfl⟩ rfl kw_1445 kw_1442 kw_1444 kp_72 kw_11 rfl ds_X11_missedBy ⟨by decide, by decide⟩ (show decode cX11_dearest 23 = .ok (.invokevirtual 273, 3) by decide +kernel) rfl, ?_⟩
  refine List.forall_mem_cons.mpr ⟨ok_callS C h_X11_bits ⟨rfl, rfl⟩ kw_1615 kw_1613 kw_1614 kw_11 ds_X11_bits ⟨by decide, by decide⟩ (show decode cX11_dearest 26 = .ok (.invokestatic 332, 3) by decide +kernel) rfl, ?_⟩
  refine List.forall_mem_cons.mpr ⟨ok_iload_n C (show decode cX11_dearest 29 = .ok (.iload_n 2, 1) by decide +kernel) rfl rfl, ?_⟩
  refine List.forall_mem_cons.mpr ⟨ok_icmpgt C (show decode cX11_dearest 30 = .ok (.if_icmp .gt 6, 3) by decide +kernel) (tg := 36) (by decide) rfl rfl, ?_⟩
  refine List.forall_mem_cons.mpr ⟨ok_goto C (show decode cX11_dearest 33 = .ok (.goto 14, 3) by decide +kernel) (tg := 47) (by decide) rfl, ?_⟩
  refine List.forall_mem_cons.mpr ⟨ok_aload_n C (show decode cX11_dearest 36 = .ok (.aload_n 0, 1) by decide +kernel) rfl rfl, ?_⟩
  refine List.forall_mem_cons.mpr ⟨ok_iload_n C (show decode cX11_dearest 37 = .ok (.iload_n 3, 1) by decide +kernel) rfl rfl, ?_⟩
  refine List.forall_mem_cons.mpr ⟨ok_callV C h_X11_missedBy ⟨rfl, rfl⟩ rfl kw_1445 kw_1442 kw_1444 kp_72 kw_11 rfl ds_X11_missedBy ⟨by decide, by decide⟩ (show decode cX11_dearest 38 = .ok (.invokevirtual 273, 3) by decide +kernel) rfl, ?_⟩
  refine List.forall_mem_cons.mpr ⟨ok_callS C h_X11_bits ⟨rfl, rfl⟩ kw_1615 kw_1613 kw_1614 kw_11 ds_X11_bits ⟨by decide, by decide⟩ (show decode cX11_dearest 41 = .ok (.invokestatic 332, 3) by decide +kernel) rfl, ?_⟩
  refine List.forall_mem_cons.mpr ⟨ok_istore_n C (show decode cX11_dearest 44 = .ok (.istore_n 2, 1) by decide +kernel) rfl (by decide) rfl, ?_⟩
  refine List.forall_mem_cons.mpr ⟨ok_iload_n C (show decode cX11_dearest 45 = .ok (.iload_n 3, 1) by decide +kernel) rfl rfl, ?_⟩
  refine List.forall_mem_cons.mpr ⟨ok_istore_n C (show decode cX11_dearest 46 = .ok (.istore_n 1, 1) by decide +kernel) rfl (by decide) rfl, ?_⟩
  refine List.forall_mem_cons.mpr ⟨ok_iinc C (show decode cX11_dearest 47 = .ok (.iinc 3 1, 3) by decide +kernel) (by decide) (by decide) rfl, ?_⟩
  refine List.forall_mem_cons.mpr ⟨ok_goto C (show decode cX11_dearest 50 = .ok (.goto (-39), 3) by decide +kernel) (tg := 11) (by decide) rfl, ?_⟩
  refine List.forall_mem_cons.mpr ⟨ok_iload_n C (show decode cX11_dearest 53 = .ok (.iload_n 1, 1) by decide +kernel) rfl rfl, ?_⟩
  refine List.forall_mem_cons.mpr ⟨ok_ret C rfl (show decode cX11_dearest 54 = .ok (.ireturn, 1) by decide +kernel), ?_⟩
  exact fun _ h => absurd h List.not_mem_nil
def L_X11_rats (f_X11_menOn : List Value → ab_H → Option ab_O) (f_X11_isDead : List Value → ab_H → Option ab_O) : List (Nat × ab_A) := [
  (0, ab_nx 1 (ab_aload 0)),
  (1, ab_nx 2 (ab_lit (.int 0))),
  (2, ab_nx 5 (ab_putf 11 0 0)),
  (5, ab_nx 6 (ab_aload 0)),
  (6, ab_nx 7 (ab_lit (.int 0))),
  (7, ab_nx 10 (ab_callV 2 11 f_X11_menOn 0 0 0 0)),
  (10, ab_nx 11 (ab_aload 0)),
  (11, ab_nx 12 (ab_lit (.int 1))),
  (12, ab_nx 15 (ab_callV 2 11 f_X11_menOn 0 0 0 0)),
  (15, ab_nx 16 (ab_bin (fun x y => x ||| y))),
  (16, ab_nx 17 (ab_istore 1)),
  (17, ab_nx 18 (ab_lit (.int 0))),
  (18, ab_nx 19 (ab_istore 2)),
  (19, ab_nx 20 (ab_iload 2)),
  (20, ab_nx 21 (ab_aload 0)),
  (21, ab_nx 24 (ab_getf 11 6)),
  (24, ab_nx 25 (ab_lit (.int 3))),
  (25, ab_nx 26 (ab_ald 1)),
  (26, ab_icmp 29 67 (fun x y => decide (y ≤ x))),
  (29, ab_nx 30 (ab_aload 0)),
  (30, ab_nx 31 (ab_aload 0)),
  (31, ab_nx 34 (ab_getf 11 6)),
  (34, ab_nx 36 (ab_lit (.int 60))),
  (36, ab_nx 37 (ab_iload 2)),
  (37, ab_nx 38 (ab_bin (fun x y => x + y))),
  (38, ab_nx 39 (ab_ald 1)),
  (39, ab_nx 42 (ab_callV 2 11 f_X11_isDead 0 0 0 0)),
  (42, ab_if 45 61 (fun x => !decide (x = 0))),
  (45, ab_nx 46 (ab_iload 1)),
  (46, ab_nx 47 (ab_lit (.int 1))),
  (47, ab_nx 48 (ab_aload 0)),
  (48, ab_nx 51 (ab_getf 11 6)),
  (51, ab_nx 53 (ab_lit (.int 80))),
  (53, ab_nx 54 (ab_iload 2)),
  (54, ab_nx 55 (ab_bin (fun x y => x + y))),
  (55, ab_nx 56 (ab_ald 1)),
  (56, ab_nx 57 (ab_bin (fun x y => x <<< (y &&& 31)))),
  (57, ab_nx 58 (ab_lit (.int (-1)))),
  (58, ab_nx 59 (ab_bin (fun x y => x ^^^ y))),
  (59, ab_nx 60 (ab_bin (fun x y => x &&& y))),
  (60, ab_nx 61 (ab_istore 1)),
  (61, ab_nx 64 (ab_iinc 2 1)),
  (64, ab_goto 19),
  (67, ab_nx 68 (ab_iload 1)),
  (68, ab_ret 0 0)]
set_option maxRecDepth 100000 in
set_option maxHeartbeats 4000000 in
theorem M_X11_rats {l : Launch} {b : ab_B} {D : va_G} {cA : Nat → ClassId} {f_X11_menOn : List Value → ab_H → Option ab_O} (h_X11_menOn : ab_M l b D ab_cl cA (ab_E0 b) yX11_menOn (Cond.code yX11_menOn cX11_menOn 4 (some .int) :: ab_G) ({ frames := 3, cells := 0, slots := 0, locals := 300 } : Room) f_X11_menOn) {f_X11_isDead : List Value → ab_H → Option ab_O} (h_X11_isDead : ab_M l b D ab_cl cA (ab_E0 b) yX11_isDead (Cond.code yX11_isDead cX11_isDead 2 (some .boolean) :: ab_G) ({ frames := 2, cells := 0, slots := 0, locals := 200 } : Room) f_X11_isDead) : ab_M l b D ab_cl cA (ab_E0 b) yX11_rats (Cond.code yX11_rats cX11_rats 3 (some .int) :: ab_G) ({ frames := 4, cells := 0, slots := 0, locals := 400 } : Room) (ab_X (ab_T (L_X11_rats f_X11_menOn f_X11_isDead)) 3) := by
  refine ab_meth (ret := (some .int)) (L_X11_rats f_X11_menOn f_X11_isDead) (by decide) rfl fun p e R s m args below meth c o C => ?_
  unfold L_X11_rats
  refine List.forall_mem_cons.mpr ⟨ok_aload_n C (show decode cX11_rats 0 = .ok (.aload_n 0, 1) by decide +kernel) rfl rfl, ?_⟩
  refine List.forall_mem_cons.mpr ⟨ok_iconst C (show decode cX11_rats 1 = .ok (.iconst 0, 1) by decide +kernel) (by decide) rfl, ?_⟩
  refine List.forall_mem_cons.mpr ⟨ok_putf C (wi_X11) tyX11 tyX11_ok nmX11 rfl (by decide) kw_1180 (Or.inl rfl) (Or.inl ⟨rfl, rfl⟩) (show decode cX11_rats 2 = .ok (.putfield 1, 3) by decide +kernel) rfl, ?_⟩
  refine List.forall_mem_cons.mpr ⟨ok_aload_n C (show decode cX11_rats 5 = .ok (.aload_n 0, 1) by decide +kernel) rfl rfl, ?_⟩
  refine List.forall_mem_cons.mpr ⟨ok_iconst C (show decode cX11_rats 6 = .ok (.iconst 0, 1) by decide +kernel) (by decide) rfl, ?_⟩
  refine List.forall_mem_cons.mpr ⟨ok_callV C h_X11_menOn ⟨rfl, rfl⟩ rfl kw_1469 kw_1466 kw_1468 kp_76 kw_11 rfl ds_X11_menOn ⟨by decide, by decide⟩ (show decode cX11_rats 7 = .ok (.invokevirtual 280, 3) by decide +kernel) rfl, ?_⟩
  refine List.forall_mem_cons.mpr ⟨ok_aload_n C (show decode cX11_rats 10 = .ok (.aload_n 0, 1) by decide +kernel) rfl rfl, ?_⟩
  refine List.forall_mem_cons.mpr ⟨ok_iconst C (show decode cX11_rats 11 = .ok (.iconst 1, 1) by decide +kernel) (by decide) rfl, ?_⟩
  refine List.forall_mem_cons.mpr ⟨ok_callV C h_X11_menOn ⟨rfl, rfl⟩ rfl kw_1469 kw_1466 kw_1468 kp_76 kw_11 rfl ds_X11_menOn ⟨by decide, by decide⟩ (show decode cX11_rats 12 = .ok (.invokevirtual 280, 3) by decide +kernel) rfl, ?_⟩
  refine List.forall_mem_cons.mpr ⟨ok_ior C (show decode cX11_rats 15 = .ok (.ior, 1) by decide +kernel) rfl, ?_⟩
  refine List.forall_mem_cons.mpr ⟨ok_istore_n C (show decode cX11_rats 16 = .ok (.istore_n 1, 1) by decide +kernel) rfl (by decide) rfl, ?_⟩
  refine List.forall_mem_cons.mpr ⟨ok_iconst C (show decode cX11_rats 17 = .ok (.iconst 0, 1) by decide +kernel) (by decide) rfl, ?_⟩
  refine List.forall_mem_cons.mpr ⟨ok_istore_n C (show decode cX11_rats 18 = .ok (.istore_n 2, 1) by decide +kernel) rfl (by decide) rfl, ?_⟩
  refine List.forall_mem_cons.mpr ⟨ok_iload_n C (show decode cX11_rats 19 = .ok (.iload_n 2, 1) by decide +kernel) rfl rfl, ?_⟩
  refine List.forall_mem_cons.mpr ⟨ok_aload_n C (show decode cX11_rats 20 = .ok (.aload_n 0, 1) by decide +kernel) rfl rfl, ?_⟩
  refine List.forall_mem_cons.mpr ⟨ok_getf C (wi_X11) rfl (by decide) kw_1186 (show decode cX11_rats 21 = .ok (.getfield 33, 3) by decide +kernel) rfl, ?_⟩
  refine List.forall_mem_cons.mpr ⟨ok_iconst C (show decode cX11_rats 24 = .ok (.iconst 3, 1) by decide +kernel) (by decide) rfl, ?_⟩
  refine List.forall_mem_cons.mpr ⟨ok_iaload C (show decode cX11_rats 25 = .ok (.iaload, 1) by decide +kernel) rfl, ?_⟩
  refine List.forall_mem_cons.mpr ⟨ok_icmpge C (show decode cX11_rats 26 = .ok (.if_icmp .ge 41, 3) by decide +kernel) (tg := 67) (by decide) rfl rfl, ?_⟩
  refine List.forall_mem_cons.mpr ⟨ok_aload_n C (show decode cX11_rats 29 = .ok (.aload_n 0, 1) by decide +kernel) rfl rfl, ?_⟩
  refine List.forall_mem_cons.mpr ⟨ok_aload_n C (show decode cX11_rats 30 = .ok (.aload_n 0, 1) by decide +kernel) rfl rfl, ?_⟩
  refine List.forall_mem_cons.mpr ⟨ok_getf C (wi_X11) rfl (by decide) kw_1186 (show decode cX11_rats 31 = .ok (.getfield 33, 3) by decide +kernel) rfl, ?_⟩
  refine List.forall_mem_cons.mpr ⟨ok_bipush C (show decode cX11_rats 34 = .ok (.bipush 60, 2) by decide +kernel) (by decide) rfl, ?_⟩
  refine List.forall_mem_cons.mpr ⟨ok_iload_n C (show decode cX11_rats 36 = .ok (.iload_n 2, 1) by decide +kernel) rfl rfl, ?_⟩
  refine List.forall_mem_cons.mpr ⟨ok_iadd C (show decode cX11_rats 37 = .ok (.iadd, 1) by decide +kernel) rfl, ?_⟩
  refine List.forall_mem_cons.mpr ⟨ok_iaload C (show decode cX11_rats 38 = .ok (.iaload, 1) by decide +kernel) rfl, ?_⟩
  refine List.forall_mem_cons.mpr ⟨ok_callV C h_X11_isDead ⟨rfl, rfl⟩ rfl kw_1441 kw_1438 kw_1440 kp_71 kw_11 rfl ds_X11_isDead ⟨by decide, by decide⟩ (show decode cX11_rats 39 = .ok (.invokevirtual 257, 3) by decide +kernel) rfl, ?_⟩
  refine List.forall_mem_cons.mpr ⟨ok_ifne C (show decode cX11_rats 42 = .ok (.ifCond .ne 19, 3) by decide +kernel) (tg := 61) (by decide) rfl rfl, ?_⟩
  refine List.forall_mem_cons.mpr ⟨ok_iload_n C (show decode cX11_rats 45 = .ok (.iload_n 1, 1) by decide +kernel) rfl rfl, ?_⟩
  refine List.forall_mem_cons.mpr ⟨ok_iconst C (show decode cX11_rats 46 = .ok (.iconst 1, 1) by decide +kernel) (by decide) rfl, ?_⟩
  refine List.forall_mem_cons.mpr ⟨ok_aload_n C (show decode cX11_rats 47 = .ok (.aload_n 0, 1) by decide +kernel) rfl rfl, ?_⟩
  refine List.forall_mem_cons.mpr ⟨ok_getf C (wi_X11) rfl (by decide) kw_1186 (show decode cX11_rats 48 = .ok (.getfield 33, 3) by decide +kernel) rfl, ?_⟩
  refine List.forall_mem_cons.mpr ⟨ok_bipush C (show decode cX11_rats 51 = .ok (.bipush 80, 2) by decide +kernel) (by decide) rfl, ?_⟩
  refine List.forall_mem_cons.mpr ⟨ok_iload_n C (show decode cX11_rats 53 = .ok (.iload_n 2, 1) by decide +kernel) rfl rfl, ?_⟩
  refine List.forall_mem_cons.mpr ⟨ok_iadd C (show decode cX11_rats 54 = .ok (.iadd, 1) by decide +kernel) rfl, ?_⟩
  refine List.forall_mem_cons.mpr ⟨ok_iaload C (show decode cX11_rats 55 = .ok (.iaload, 1) by decide +kernel) rfl, ?_⟩
  refine List.forall_mem_cons.mpr ⟨ok_ishl C (show decode cX11_rats 56 = .ok (.ishl, 1) by decide +kernel) rfl, ?_⟩
  refine List.forall_mem_cons.mpr ⟨ok_iconst C (show decode cX11_rats 57 = .ok (.iconst (-1), 1) by decide +kernel) (by decide) rfl, ?_⟩
  refine List.forall_mem_cons.mpr ⟨ok_ixor C (show decode cX11_rats 58 = .ok (.ixor, 1) by decide +kernel) rfl, ?_⟩
  refine List.forall_mem_cons.mpr ⟨ok_iand C (show decode cX11_rats 59 = .ok (.iand, 1) by decide +kernel) rfl, ?_⟩
  refine List.forall_mem_cons.mpr ⟨ok_istore_n C (show decode cX11_rats 60 = .ok (.istore_n 1, 1) by decide +kernel) rfl (by decide) rfl, ?_⟩
  refine List.forall_mem_cons.mpr ⟨ok_iinc C (show decode cX11_rats 61 = .ok (.iinc 2 1, 3) by decide +kernel) (by decide) (by decide) rfl, ?_⟩
  refine List.forall_mem_cons.mpr ⟨ok_goto C (show decode cX11_rats 64 = .ok (.goto (-45), 3) by decide +kernel) (tg := 19) (by decide) rfl, ?_⟩
  refine List.forall_mem_cons.mpr ⟨ok_iload_n C (show decode cX11_rats 67 = .ok (.iload_n 1, 1) by decide +kernel) rfl rfl, ?_⟩
  refine List.forall_mem_cons.mpr ⟨ok_ret C rfl (show decode cX11_rats 68 = .ok (.ireturn, 1) by decide +kernel), ?_⟩
  exact fun _ h => absurd h List.not_mem_nil
def L_X11_hoarded (f_X11_isShore : List Value → ab_H → Option ab_O) (f_X11_cell : List Value → ab_H → Option ab_O) : List (Nat × ab_A) := [
  (0, ab_nx 1 (ab_aload 0)),
  (1, ab_nx 2 (ab_lit (.int 0))),
  (2, ab_nx 5 (ab_putf 11 0 0)),
  (5, ab_nx 6 (ab_aload 0)),
  (6, ab_nx 7 (ab_iload 1)),
  (7, ab_nx 10 (ab_callV 2 11 f_X11_isShore 0 0 0 0)),
  (10, ab_if 13 15 (fun x => !decide (x = 0))),
  (13, ab_nx 14 (ab_lit (.int (-1)))),
  (14, ab_ret 0 0),
  (15, ab_nx 16 (ab_lit (.int (-1)))),
  (16, ab_nx 17 (ab_istore 2)),
  (17, ab_nx 18 (ab_lit (.int 0))),
  (18, ab_nx 19 (ab_istore 3)),
  (19, ab_nx 20 (ab_lit (.int 0))),
  (20, ab_nx 22 (ab_istore 4)),
  (22, ab_nx 24 (ab_iload 4)),
  (24, ab_nx 25 (ab_aload 0)),
  (25, ab_nx 28 (ab_getf 11 6)),
  (28, ab_nx 29 (ab_lit (.int 0))),
  (29, ab_nx 30 (ab_ald 1)),
  (30, ab_icmp 33 80 (fun x y => decide (y ≤ x))),
  (33, ab_nx 34 (ab_aload 0)),
  (34, ab_nx 37 (ab_getf 11 6)),
  (37, ab_nx 40 (ab_lit (.int 136))),
  (40, ab_nx 42 (ab_iload 4)),
  (42, ab_nx 43 (ab_iload 1)),
  (43, ab_nx 46 (ab_call 2 f_X11_cell 0 0 0 0)),
  (46, ab_nx 47 (ab_bin (fun x y => x + y))),
  (47, ab_nx 48 (ab_ald 1)),
  (48, ab_nx 49 (ab_iload 3)),
  (49, ab_icmp 52 55 (fun x y => decide (y < x))),
  (52, ab_goto 74),
  (55, ab_nx 56 (ab_aload 0)),
  (56, ab_nx 59 (ab_getf 11 6)),
  (59, ab_nx 62 (ab_lit (.int 136))),
  (62, ab_nx 64 (ab_iload 4)),
  (64, ab_nx 65 (ab_iload 1)),
  (65, ab_nx 68 (ab_call 2 f_X11_cell 0 0 0 0)),
  (68, ab_nx 69 (ab_bin (fun x y => x + y))),
  (69, ab_nx 70 (ab_ald 1)),
  (70, ab_nx 71 (ab_istore 3)),
  (71, ab_nx 73 (ab_iload 4)),
  (73, ab_nx 74 (ab_istore 2)),
  (74, ab_nx 77 (ab_iinc 4 1)),
  (77, ab_goto 22),
  (80, ab_nx 81 (ab_iload 2)),
  (81, ab_ret 0 0)]
set_option maxRecDepth 100000 in
set_option maxHeartbeats 4000000 in
theorem M_X11_hoarded {l : Launch} {b : ab_B} {D : va_G} {cA : Nat → ClassId} {f_X11_isShore : List Value → ab_H → Option ab_O} (h_X11_isShore : ab_M l b D ab_cl cA (ab_E0 b) yX11_isShore (Cond.code yX11_isShore cX11_isShore 2 (some .boolean) :: ab_G) ({ frames := 2, cells := 0, slots := 0, locals := 200 } : Room) f_X11_isShore) {f_X11_cell : List Value → ab_H → Option ab_O} (h_X11_cell : ab_M l b D ab_cl cA (ab_E0 b) yX11_cell (Cond.code yX11_cell cX11_cell 2 (some .int) :: ab_G) ({ frames := 1, cells := 0, slots := 0, locals := 100 } : Room) f_X11_cell) : ab_M l b D ab_cl cA (ab_E0 b) yX11_hoarded (Cond.code yX11_hoarded cX11_hoarded 5 (some .int) :: ab_G) ({ frames := 3, cells := 0, slots := 0, locals := 300 } : Room) (ab_X (ab_T (L_X11_hoarded f_X11_isShore f_X11_cell)) 5) := by
  refine ab_meth (ret := (some .int)) (L_X11_hoarded f_X11_isShore f_X11_cell) (by decide) rfl fun p e R s m args below meth c o C => ?_
  unfold L_X11_hoarded
  refine List.forall_mem_cons.mpr ⟨ok_aload_n C (show decode cX11_hoarded 0 = .ok (.aload_n 0, 1) by decide +kernel) rfl rfl, ?_⟩
  refine List.forall_mem_cons.mpr ⟨ok_iconst C (show decode cX11_hoarded 1 = .ok (.iconst 0, 1) by decide +kernel) (by decide) rfl, ?_⟩
  refine List.forall_mem_cons.mpr ⟨ok_putf C (wi_X11) tyX11 tyX11_ok nmX11 rfl (by decide) kw_1180 (Or.inl rfl) (Or.inl ⟨rfl, rfl⟩) (show decode cX11_hoarded 2 = .ok (.putfield 1, 3) by decide +kernel) rfl, ?_⟩
  refine List.forall_mem_cons.mpr ⟨ok_aload_n C (show decode cX11_hoarded 5 = .ok (.aload_n 0, 1) by decide +kernel) rfl rfl, ?_⟩
  refine List.forall_mem_cons.mpr ⟨ok_iload_n C (show decode cX11_hoarded 6 = .ok (.iload_n 1, 1) by decide +kernel) rfl rfl, ?_⟩
  refine List.forall_mem_cons.mpr ⟨ok_callV C h_X11_isShore ⟨rfl, rfl⟩ rfl kw_1410 kw_1407 kw_1409 kp_66 kw_11 rfl ds_X11_isShore ⟨by decide, by decide⟩ (show decode cX11_hoarded 7 = .ok (.invokevirtual 242, 3) by decide +kernel) rfl, ?_⟩
  refine List.forall_mem_cons.mpr ⟨ok_ifne C (show decode cX11_hoarded 10 = .ok (.ifCond .ne 5, 3) by decide +kernel) (tg := 15) (by decide) rfl rfl, ?_⟩
  refine List.forall_mem_cons.mpr ⟨ok_iconst C (show decode cX11_hoarded 13 = .ok (.iconst (-1), 1) by decide +kernel) (by decide) rfl, ?_⟩
  refine List.forall_mem_cons.mpr ⟨ok_ret C rfl (show decode cX11_hoarded 14 = .ok (.ireturn, 1) by decide +kernel), ?_⟩
  refine List.forall_mem_cons.mpr ⟨ok_iconst C (show decode cX11_hoarded 15 = .ok (.iconst (-1), 1) by decide +kernel) (by decide) rfl, ?_⟩
  refine List.forall_mem_cons.mpr ⟨ok_istore_n C (show decode cX11_hoarded 16 = .ok (.istore_n 2, 1) by decide +kernel) rfl (by decide) rfl, ?_⟩
  refine List.forall_mem_cons.mpr ⟨ok_iconst C (show decode cX11_hoarded 17 = .ok (.iconst 0, 1) by decide +kernel) (by decide) rfl, ?_⟩
  refine List.forall_mem_cons.mpr ⟨ok_istore_n C (show decode cX11_hoarded 18 = .ok (.istore_n 3, 1) by decide +kernel) rfl (by decide) rfl, ?_⟩
  refine List.forall_mem_cons.mpr ⟨ok_iconst C (show decode cX11_hoarded 19 = .ok (.iconst 0, 1) by decide +kernel) (by decide) rfl, ?_⟩
  refine List.forall_mem_cons.mpr ⟨ok_istore C (show decode cX11_hoarded 20 = .ok (.istore 4, 2) by decide +kernel) (by decide) rfl, ?_⟩
  refine List.forall_mem_cons.mpr ⟨ok_iload C (show decode cX11_hoarded 22 = .ok (.iload 4, 2) by decide +kernel) rfl, ?_⟩
  refine List.forall_mem_cons.mpr ⟨ok_aload_n C (show decode cX11_hoarded 24 = .ok (.aload_n 0, 1) by decide +kernel) rfl rfl, ?_⟩
  refine List.forall_mem_cons.mpr ⟨ok_getf C (wi_X11) rfl (by decide) kw_1186 (show decode cX11_hoarded 25 = .ok (.getfield 33, 3) by decide +kernel) rfl, ?_⟩
  refine List.forall_mem_cons.mpr ⟨ok_iconst C (show decode cX11_hoarded 28 = .ok (.iconst 0, 1) by decide +kernel) (by decide) rfl, ?_⟩
  refine List.forall_mem_cons.mpr ⟨ok_iaload C (show decode cX11_hoarded 29 = .ok (.iaload, 1) by decide +kernel) rfl, ?_⟩
  refine List.forall_mem_cons.mpr ⟨ok_icmpge C (show decode cX11_hoarded 30 = .ok (.if_icmp .ge 50, 3) by decide +kernel) (tg := 80) (by decide) rfl rfl, ?_⟩
  refine List.forall_mem_cons.mpr ⟨ok_aload_n C (show decode cX11_hoarded 33 = .ok (.aload_n 0, 1) by decide +kernel) rfl rfl, ?_⟩
  refine List.forall_mem_cons.mpr ⟨ok_getf C (wi_X11) rfl (by decide) kw_1186 (show decode cX11_hoarded 34 = .ok (.getfield 33, 3) by decide +kernel) rfl, ?_⟩
  refine List.forall_mem_cons.mpr ⟨ok_sipush C (show decode cX11_hoarded 37 = .ok (.sipush 136, 3) by decide +kernel) (by decide) rfl, ?_⟩
  refine List.forall_mem_cons.mpr ⟨ok_iload C (show decode cX11_hoarded 40 = .ok (.iload 4, 2) by decide +kernel) rfl, ?_⟩
  refine List.forall_mem_cons.mpr ⟨ok_iload_n C (show decode cX11_hoarded 42 = .ok (.iload_n 1, 1) by decide +kernel) rfl rfl, ?_⟩
  refine List.forall_mem_cons.mpr ⟨ok_callS C h_X11_cell ⟨rfl, rfl⟩ kw_1413 kw_1411 kw_1412 kw_11 ds_X11_cell ⟨by decide, by decide⟩ (show decode cX11_hoarded 43 = .ok (.invokestatic 245, 3) by decide +kernel) rfl, ?_⟩
  refine List.forall_mem_cons.mpr ⟨ok_iadd C (show decode cX11_hoarded 46 = .ok (.iadd, 1) by decide +kernel) rfl, ?_⟩
  refine List.forall_mem_cons.mpr ⟨ok_iaload C (show decode cX11_hoarded 47 = .ok (.iaload, 1) by decide +kernel) rfl, ?_⟩
  refine List.forall_mem_cons.mpr ⟨ok_iload_n C (show decode cX11_hoarded 48 = .ok (.iload_n 3, 1) by decide +kernel) rfl rfl, ?_⟩
  refine List.forall_mem_cons.mpr ⟨ok_icmpgt C (show decode cX11_hoarded 49 = .ok (.if_icmp .gt 6, 3) by decide +kernel) (tg := 55) (by decide) rfl rfl, ?_⟩
  refine List.forall_mem_cons.mpr ⟨ok_goto C (show decode cX11_hoarded 52 = .ok (.goto 22, 3) by decide +kernel) (tg := 74) (by decide) rfl, ?_⟩
  refine List.forall_mem_cons.mpr ⟨ok_aload_n C (show decode cX11_hoarded 55 = .ok (.aload_n 0, 1) by decide +kernel) rfl rfl, ?_⟩
  refine List.forall_mem_cons.mpr ⟨ok_getf C (wi_X11) rfl (by decide) kw_1186 (show decode cX11_hoarded 56 = .ok (.getfield 33, 3) by decide +kernel) rfl, ?_⟩
  refine List.forall_mem_cons.mpr ⟨ok_sipush C (show decode cX11_hoarded 59 = .ok (.sipush 136, 3) by decide +kernel) (by decide) rfl, ?_⟩
  refine List.forall_mem_cons.mpr ⟨ok_iload C (show decode cX11_hoarded 62 = .ok (.iload 4, 2) by decide +kernel) rfl, ?_⟩
  refine List.forall_mem_cons.mpr ⟨ok_iload_n C (show decode cX11_hoarded 64 = .ok (.iload_n 1, 1) by decide +kernel) rfl rfl, ?_⟩
  refine List.forall_mem_cons.mpr ⟨ok_callS C h_X11_cell ⟨rfl, rfl⟩ kw_1413 kw_1411 kw_1412 kw_11 ds_X11_cell ⟨by decide, by decide⟩ (show decode cX11_hoarded 65 = .ok (.invokestatic 245, 3) by decide +kernel) rfl, ?_⟩
  refine List.forall_mem_cons.mpr ⟨ok_iadd C (show decode cX11_hoarded 68 = .ok (.iadd, 1) by decide +kernel) rfl, ?_⟩
  refine List.forall_mem_cons.mpr ⟨ok_iaload C (show decode cX11_hoarded 69 = .ok (.iaload, 1) by decide +kernel) rfl, ?_⟩
  refine List.forall_mem_cons.mpr ⟨ok_istore_n C (show decode cX11_hoarded 70 = .ok (.istore_n 3, 1) by decide +kernel) rfl (by decide) rfl, ?_⟩
  refine List.forall_mem_cons.mpr ⟨ok_iload C (show decode cX11_hoarded 71 = .ok (.iload 4, 2) by decide +kernel) rfl, ?_⟩
  refine List.forall_mem_cons.mpr ⟨ok_istore_n C (show decode cX11_hoarded 73 = .ok (.istore_n 2, 1) by decide +kernel) rfl (by decide) rfl, ?_⟩
  refine List.forall_mem_cons.mpr ⟨ok_iinc C (show decode cX11_hoarded 74 = .ok (.iinc 4 1, 3) by decide +kernel) (by decide) (by decide) rfl, ?_⟩
  refine List.forall_mem_cons.mpr ⟨ok_goto C (show decode cX11_hoarded 77 = .ok (.goto (-55), 3) by decide +kernel) (tg := 22) (by decide) rfl, ?_⟩
  refine List.forall_mem_cons.mpr ⟨ok_iload_n C (show decode cX11_hoarded 80 = .ok (.iload_n 2, 1) by decide +kernel) rfl rfl, ?_⟩
  refine List.forall_mem_cons.mpr ⟨ok_ret C rfl (show decode cX11_hoarded 81 = .ok (.ireturn, 1) by decide +kernel), ?_⟩
  exact fun _ h => absurd h List.not_mem_nil
def L_X11_draw : List (Nat × ab_A) := [
  (0, ab_nx 1 (ab_aload 0)),
  (1, ab_nx 2 (ab_aload 0)),
  (2, ab_nx 5 (ab_getf 11 29)),
  (5, ab_nx 8 (ab_lit (.int 1103515245))),
  (8, ab_nx 9 (ab_bin (fun x y => x * y))),
  (9, ab_nx 12 (ab_lit (.int 12345))),
  (12, ab_nx 13 (ab_bin (fun x y => x + y))),
  (13, ab_nx 16 (ab_putf 11 29 0)),
  (16, ab_nx 17 (ab_aload 0)),
  (17, ab_nx 20 (ab_getf 11 29)),
  (20, ab_nx 22 (ab_lit (.int 8))),
  (22, ab_nx 23 (ab_bin (fun x y => (x.toUInt32 >>> (y.toUInt32 &&& Int32.toUInt32 31)).toInt32))),
  (23, ab_nx 24 (ab_iload 1)),
  (24, ab_nx 25 ab_irem),
  (25, ab_ret 0 0)]
set_option maxRecDepth 100000 in
set_option maxHeartbeats 4000000 in
theorem M_X11_draw {l : Launch} {b : ab_B} {D : va_G} {cA : Nat → ClassId} : ab_M l b D ab_cl cA (ab_E0 b) yX11_draw (Cond.code yX11_draw cX11_draw 2 (some .int) :: ab_G) ({ frames := 1, cells := 0, slots := 0, locals := 100 } : Room) (ab_X (ab_T L_X11_draw) 2) := by
  refine ab_meth (ret := (some .int)) L_X11_draw (by decide) rfl fun p e R s m args below meth c o C => ?_
  unfold L_X11_draw
  refine List.forall_mem_cons.mpr ⟨ok_aload_n C (show decode cX11_draw 0 = .ok (.aload_n 0, 1) by decide +kernel) rfl rfl, ?_⟩
  refine List.forall_mem_cons.mpr ⟨ok_aload_n C (show decode cX11_draw 1 = .ok (.aload_n 0, 1) by decide +kernel) rfl rfl, ?_⟩
  refine List.forall_mem_cons.mpr ⟨ok_getf C (wi_X11) rfl (by decide) kw_1209 (show decode cX11_draw 2 = .ok (.getfield 335, 3) by decide +kernel) rfl, ?_⟩
  refine List.forall_mem_cons.mpr ⟨ok_ldcw C (show decode cX11_draw 5 = .ok (.ldc_w 338, 3) by decide +kernel) (gm kw_1640) rfl, ?_⟩
  refine List.forall_mem_cons.mpr ⟨ok_imul C (show decode cX11_draw 8 = .ok (.imul, 1) by decide +kernel) rfl, ?_⟩
  refine List.forall_mem_cons.mpr ⟨ok_sipush C (show decode cX11_draw 9 = .ok (.sipush 12345, 3) by decide +kernel) (by decide) rfl, ?_⟩
  refine List.forall_mem_cons.mpr ⟨ok_iadd C (show decode cX11_draw 12 = .ok (.iadd, 1) by decide +kernel) rfl, ?_⟩
  refine List.forall_mem_cons.mpr ⟨ok_putf C (wi_X11) tyX11 tyX11_ok nmX11 rfl (by decide) kw_1209 (Or.inl rfl) (Or.inl ⟨rfl, rfl⟩) (show decode cX11_draw 13 = .ok (.putfield 335, 3) by decide +kernel) rfl, ?_⟩
  refine List.forall_mem_cons.mpr ⟨ok_aload_n C (show decode cX11_draw 16 = .ok (.aload_n 0, 1) by decide +kernel) rfl rfl, ?_⟩
  refine List.forall_mem_cons.mpr ⟨ok_getf C (wi_X11) rfl (by decide) kw_1209 (show decode cX11_draw 17 = .ok (.getfield 335, 3) by decide +kernel) rfl, ?_⟩
  refine List.forall_mem_cons.mpr ⟨ok_bipush C (show decode cX11_draw 20 = .ok (.bipush 8, 2) by decide +kernel) (by decide) rfl, ?_⟩
  refine List.forall_mem_cons.mpr ⟨ok_iushr C (show decode cX11_draw 22 = .ok (.iushr, 1) by decide +kernel) rfl, ?_⟩
  refine List.forall_mem_cons.mpr ⟨ok_iload_n C (show decode cX11_draw 23 = .ok (.iload_n 1, 1) by decide +kernel) rfl rfl, ?_⟩
  refine List.forall_mem_cons.mpr ⟨ok_irem C (show decode cX11_draw 24 = .ok (.irem, 1) by decide +kernel) rfl, ?_⟩
  refine List.forall_mem_cons.mpr ⟨ok_ret C rfl (show decode cX11_draw 25 = .ok (.ireturn, 1) by decide +kernel), ?_⟩
  exact fun _ h => absurd h List.not_mem_nil
def L_X11_drawsDay (f_X11_draw : List Value → ab_H → Option ab_O) (f_X11_cell : List Value → ab_H → Option ab_O) (f_X11_whyHoard : List Value → ab_H → Option ab_O) (f_X11_hoards : List Value → ab_H → Option ab_O) (f_X11_whyBare : List Value → ab_H → Option ab_O) (f_X11_day : List Value → ab_H → Option ab_O) : List (Nat × ab_A) := [
  (0, ab_nx 1 (ab_aload 0)),
  (1, ab_nx 3 (ab_lit (.int 6))),
  (3, ab_nx 6 (ab_callV 2 11 f_X11_draw 0 0 0 0)),
  (6, ab_nx 7 (ab_istore 1)),
  (7, ab_nx 8 (ab_iload 1)),
  (8, ab_nx 9 (ab_lit (.int 3))),
  (9, ab_icmp 12 116 (fun x y => decide (y ≤ x))),
  (12, ab_nx 13 (ab_aload 0)),
  (13, ab_nx 14 (ab_aload 0)),
  (14, ab_nx 17 (ab_getf 11 6)),
  (17, ab_nx 18 (ab_lit (.int 0))),
  (18, ab_nx 19 (ab_ald 1)),
  (19, ab_nx 22 (ab_callV 2 11 f_X11_draw 0 0 0 0)),
  (22, ab_nx 23 (ab_istore 2)),
  (23, ab_nx 24 (ab_iload 2)),
  (24, ab_nx 25 (ab_aload 0)),
  (25, ab_nx 26 (ab_lit (.int 2))),
  (26, ab_nx 29 (ab_callV 2 11 f_X11_draw 0 0 0 0)),
  (29, ab_nx 32 (ab_call 2 f_X11_cell 0 0 0 0)),
  (32, ab_nx 33 (ab_istore 3)),
  (33, ab_nx 34 (ab_lit (.int 1))),
  (34, ab_nx 35 (ab_aload 0)),
  (35, ab_nx 37 (ab_lit (.int 20))),
  (37, ab_nx 40 (ab_callV 2 11 f_X11_draw 0 0 0 0)),
  (40, ab_nx 41 (ab_bin (fun x y => x + y))),
  (41, ab_nx 43 (ab_istore 4)),
  (43, ab_nx 44 (ab_iload 1)),
  (44, ab_if 47 64 (fun x => !decide (x = 0))),
  (47, ab_nx 48 (ab_aload 0)),
  (48, ab_nx 49 (ab_iload 3)),
  (49, ab_nx 51 (ab_iload 4)),
  (51, ab_nx 54 (ab_callV 3 11 f_X11_whyHoard 0 0 0 0)),
  (54, ab_if 57 64 (fun x => !decide (x = 0))),
  (57, ab_nx 58 (ab_aload 0)),
  (58, ab_nx 59 (ab_iload 3)),
  (59, ab_nx 61 (ab_iload 4)),
  (61, ab_nx 64 (ab_callV 3 11 f_X11_hoards 0 0 0 0)),
  (64, ab_nx 65 (ab_iload 1)),
  (65, ab_nx 66 (ab_lit (.int 1))),
  (66, ab_icmp 69 87 (fun x y => !decide (x = y))),
  (69, ab_nx 70 (ab_aload 0)),
  (70, ab_nx 71 (ab_iload 3)),
  (71, ab_nx 73 (ab_iload 4)),
  (73, ab_nx 76 (ab_callV 3 11 f_X11_whyBare 0 0 0 0)),
  (76, ab_if 79 87 (fun x => !decide (x = 0))),
  (79, ab_nx 80 (ab_aload 0)),
  (80, ab_nx 81 (ab_iload 3)),
  (81, ab_nx 83 (ab_iload 4)),
  (83, ab_nx 84 (ab_un (fun x => -x))),
  (84, ab_nx 87 (ab_callV 3 11 f_X11_hoards 0 0 0 0)),
  (87, ab_nx 88 (ab_iload 1)),
  (88, ab_nx 89 (ab_lit (.int 2))),
  (89, ab_icmp 92 116 (fun x y => !decide (x = y))),
  (92, ab_nx 93 (ab_aload 0)),
  (93, ab_nx 94 (ab_iload 3)),
  (94, ab_nx 96 (ab_iload 4)),
  (96, ab_nx 99 (ab_callV 3 11 f_X11_whyHoard 0 0 0 0)),
  (99, ab_if 102 116 (fun x => !decide (x = 0))),
  (102, ab_nx 103 (ab_aload 0)),
  (103, ab_nx 106 (ab_getf 11 6)),
  (106, ab_nx 108 (ab_lit (.int 124))),
  (108, ab_nx 109 (ab_iload 3)),
  (109, ab_nx 110 (ab_bin (fun x y => x + y))),
  (110, ab_nx 111 ab_dup2),
  (111, ab_nx 112 (ab_ald 1)),
  (112, ab_nx 114 (ab_iload 4)),
  (114, ab_nx 115 (ab_bin (fun x y => x - y))),
  (115, ab_nx 116 (ab_ast 1)),
  (116, ab_nx 117 (ab_aload 0)),
  (117, ab_nx 119 (ab_lit (.int 90))),
  (119, ab_nx 122 (ab_callV 2 11 f_X11_draw 0 0 0 0)),
  (122, ab_if 125 157 (fun x => !decide (x = 0))),
  (125, ab_nx 126 (ab_aload 0)),
  (126, ab_nx 129 (ab_getf 11 6)),
  (129, ab_nx 130 (ab_lit (.int 1))),
  (130, ab_nx 131 (ab_ald 1)),
  (131, ab_if 134 157 (fun x => decide (x ≤ 0))),
  (134, ab_nx 135 (ab_aload 0)),
  (135, ab_nx 138 (ab_getf 11 6)),
  (138, ab_nx 141 (ab_lit (.int 180))),
  (141, ab_nx 142 ab_dup2),
  (142, ab_nx 143 (ab_ald 1)),
  (143, ab_nx 144 (ab_lit (.int 1))),
  (144, ab_nx 145 (ab_aload 0)),
  (145, ab_nx 146 (ab_aload 0)),
  (146, ab_nx 149 (ab_getf 11 6)),
  (149, ab_nx 150 (ab_lit (.int 1))),
  (150, ab_nx 151 (ab_ald 1)),
  (151, ab_nx 154 (ab_callV 2 11 f_X11_draw 0 0 0 0)),
  (154, ab_nx 155 (ab_bin (fun x y => x <<< (y &&& 31)))),
  (155, ab_nx 156 (ab_bin (fun x y => x ||| y))),
  (156, ab_nx 157 (ab_ast 1)),
  (157, ab_nx 158 (ab_aload 0)),
  (158, ab_nx 161 (ab_callV 1 11 f_X11_day 0 0 0 0)),
  (161, ab_vret 0 0)]
set_option maxRecDepth 100000 in
set_option maxHeartbeats 4000000 in
theorem M_X11_drawsDay {l : Launch} {b : ab_B} {D : va_G} {cA : Nat → ClassId} {f_X11_draw : List Value → ab_H → Option ab_O} (h_X11_draw : ab_M l b D ab_cl cA (ab_E0 b) yX11_draw (Cond.code yX11_draw cX11_draw 2 (some .int) :: ab_G) ({ frames := 1, cells := 0, slots := 0, locals := 100 } : Room) f_X11_draw) {f_X11_cell : List Value → ab_H → Option ab_O} (h_X11_cell : ab_M l b D ab_cl cA (ab_E0 b) yX11_cell (Cond.code yX11_cell cX11_cell 2 (some .int) :: ab_G) ({ frames := 1, cells := 0, slots := 0, locals := 100 } : Room) f_X11_cell) {f_X11_whyHoard : List Value → ab_H → Option ab_O} (h_X11_whyHoard : ab_M l b D ab_cl cA (ab_E0 b) yX11_whyHoard (Cond.code yX11_whyHoard cX11_whyHoard 3 (some .int) :: ab_G) ({ frames := 1, cells := 0, slots := 0, locals := 100 } : Room) f_X11_whyHoard) {f_X11_hoards : List Value → ab_H → Option ab_O} (h_X11_hoards : ab_M l b D ab_cl cA (ab_E0 b) yX11_hoards (Cond.code yX11_hoards cX11_hoards 3 none :: ab_G) ({ frames := 1, cells := 0, slots := 0, locals := 100 } : Room) f_X11_hoards) {f_X11_whyBare : List Value → ab_H → Option ab_O} (h_X11_whyBare : ab_M l b D ab_cl cA (ab_E0 b) yX11_whyBare (Cond.code yX11_whyBare cX11_whyBare 3 (some .int) :: ab_G) ({ frames := 1, cells := 0, slots := 0, locals := 100 } : Room) f_X11_whyBare) {f_X11_day : List Value → ab_H → Option ab_O} (h_X11_day : ab_M l b D ab_cl cA (ab_E0 b) yX11_day (Cond.code yX11_day cX11_day 5 none :: ab_G) ({ frames := 7, cells := 0, slots := 0, locals := 700 } : Room) f_X11_day) : ab_M l b D ab_cl cA (ab_E0 b) yX11_drawsDay (Cond.code yX11_drawsDay cX11_drawsDay 5 none :: ab_G) ({ frames := 8, cells := 0, slots := 0, locals := 800 } : Room) (ab_X (ab_T (L_X11_drawsDay f_X11_draw f_X11_cell f_X11_whyHoard f_X11_hoards f_X11_whyBare f_X11_day)) 5) := by
  refine ab_meth (ret := none) (L_X11_drawsDay f_X11_draw f_X11_cell f_X11_whyHoard f_X11_hoards f_X11_whyBare f_X11_day) (by decide) rfl fun p e R s m args below meth c o C => ?_
  unfold L_X11_drawsDay
  refine List.forall_mem_cons.mpr ⟨ok_aload_n C (show decode cX11_drawsDay 0 = .ok (.aload_n 0, 1) by decide +kernel) rfl rfl, ?_⟩
  refine List.forall_mem_cons.mpr ⟨ok_bipush C (show decode cX11_drawsDay 1 = .ok (.bipush 6, 2) by decide +kernel) (by decide) rfl, ?_⟩
  refine List.forall_mem_cons.mpr ⟨ok_callV C h_X11_draw ⟨rfl, rfl⟩ rfl kw_1639 kw_1636 kw_1638 kp_93 kw_11 rfl ds_X11_draw ⟨by decide, by decide⟩ (show decode cX11_drawsDay 3 = .ok (.invokevirtual 339, 3) by decide +kernel) rfl, ?_⟩
  refine List.forall_mem_cons.mpr ⟨ok_istore_n C (show decode cX11_drawsDay 6 = .ok (.istore_n 1, 1) by decide +kernel) rfl (by decide) rfl, ?_⟩
  refine List.forall_mem_cons.mpr ⟨ok_iload_n C (show decode cX11_drawsDay 7 = .ok (.iload_n 1, 1) by decide +kernel) rfl rfl, ?_⟩
  refine List.forall_mem_cons.mpr ⟨ok_iconst C (show decode cX11_drawsDay 8 = .ok (.iconst 3, 1) by decide +kernel) (by decide) rfl, ?_⟩
  refine List.forall_mem_cons.mpr ⟨ok_icmpge C (show decode cX11_drawsDay 9 = .ok (.if_icmp .ge 107, 3) by decide +kernel) (tg := 116) (by decide) rfl rfl, ?_⟩
  refine List.forall_mem_cons.mpr ⟨ok_aload_n C (show decode cX11_drawsDay 12 = .ok (.aload_n 0, 1) by decide +kernel) rfl rfl, ?_⟩
  refine List.forall_mem_cons.mpr ⟨ok_aload_n C (show decode cX11_drawsDay 13 = .ok (.aload_n 0, 1) by decide +kernel) rfl rfl, ?_⟩
  refine List.forall_mem_cons.mpr ⟨ok_getf C (wi_X11) rfl (by decide) kw_1186 (show decode cX11_drawsDay 14 = .ok (.getfield 33, 3) by decide +kernel) rfl, ?_⟩
  refine List.forall_mem_cons.mpr ⟨ok_iconst C (show decode cX11_drawsDay 17 = .ok (.iconst 0, 1) by decide +kernel) (by decide) rfl, ?_⟩
  refine List.forall_mem_cons.mpr ⟨ok_iaload C (show decode cX11_drawsDay 18 = .ok (.iaload, 1) by decide +kernel) rfl, ?_⟩
  refine List.forall_mem_cons.mpr ⟨ok_callV C h_X11_draw ⟨rfl, rfl⟩ rfl kw_1639 kw_1636 kw_1638 kp_93 kw_11 rfl ds_X11_draw ⟨by decide, by decide⟩ (show decode cX11_drawsDay 19 = .ok (.invokevirtual 339, 3) by decide +kernel) rfl, ?_⟩
  refine List.forall_mem_cons.mpr ⟨ok_istore_n C (show decode cX11_drawsDay 22 = .ok (.istore_n 2, 1) by decide +kernel) rfl (by decide) rfl, ?_⟩
  refine List.forall_mem_cons.mpr ⟨ok_iload_n C (show decode cX11_drawsDay 23 = .ok (.iload_n 2, 1) by decide +kernel) rfl rfl, ?_⟩
  refine List.forall_mem_cons.mpr ⟨ok_aload_n C (show decode cX11_drawsDay 24 = .ok (.aload_n 0, 1) by decide +kernel) rfl rfl, ?_⟩
  refine List.forall_mem_cons.mpr ⟨ok_iconst C (show decode cX11_drawsDay 25 = .ok (.iconst 2, 1) by decide +kernel) (by decide) rfl, ?_⟩
  refine List.forall_mem_cons.mpr ⟨ok_callV C h_X11_draw ⟨rfl, rfl⟩ rfl kw_1639 kw_1636 kw_1638 kp_93 kw_11 rfl ds_X11_draw ⟨by decide, by decide⟩ (show decode cX11_drawsDay 26 = .ok (.invokevirtual 339, 3) by decide +kernel) rfl, ?_⟩
  refine List.forall_mem_cons.mpr ⟨ok_callS C h_X11_cell ⟨rfl, rfl⟩ kw_1413 kw_1411 kw_1412 kw_11 ds_X11_cell ⟨by decide, by decide⟩ (show decode cX11_drawsDay 29 = .ok (.invokestatic 245, 3) by decide +kernel) rfl, ?_⟩
  refine List.forall_mem_cons.mpr ⟨ok_istore_n C (show decode cX11_drawsDay 32 = .ok (.istore_n 3, 1) by decide +kernel) rfl (by decide) rfl, ?_⟩
  refine List.forall_mem_cons.mpr ⟨ok_iconst C (show decode cX11_drawsDay 33 = .ok (.iconst 1, 1) by decide +kernel) (by decide) rfl, ?_⟩
  refine List.forall_mem_cons.mpr ⟨ok_aload_n C (show decode cX11_drawsDay 34 = .ok (.aload_n 0, 1) by decide +kernel) rfl rfl, ?_⟩
  refine List.forall_mem_cons.mpr ⟨ok_bipush C (show decode cX11_drawsDay 35 = .ok (.bipush 20, 2) by decide +kernel) (by decide) rfl, ?_⟩
  refine List.forall_mem_cons.mpr ⟨ok_callV C h_X11_draw ⟨rfl, rfl⟩ rfl kw_1639 kw_1636 kw_1638 kp_93 kw_11 rfl ds_X11_draw ⟨by decide, by decide⟩ (show decode cX11_drawsDay 37 = .ok (.invokevirtual 339, 3) by decide +kernel) rfl, ?_⟩
  refine List.forall_mem_cons.mpr ⟨ok_iadd C (show decode cX11_drawsDay 40 = .ok (.iadd, 1) by decide +kernel) rfl, ?_⟩
  refine List.forall_mem_cons.mpr ⟨ok_istore C (show decode cX11_drawsDay 41 = .ok (.istore 4, 2) by decide +kernel) (by decide) rfl, ?_⟩
  refine List.forall_mem_cons.mpr ⟨ok_iload_n C (show decode cX11_drawsDay 43 = .ok (.iload_n 1, 1) by decide +kernel) rfl rfl, ?_⟩
  refine List.forall_mem_cons.mpr ⟨ok_ifne C (show decode cX11_drawsDay 44 = .ok (.ifCond .ne 20, 3) by decide +kernel) (tg := 64) (by decide) rfl rfl, ?_⟩
  refine List.forall_mem_cons.mpr ⟨ok_aload_n C (show decode cX11_drawsDay 47 = .ok (.aload_n 0, 1) by decide +kernel) rfl rfl, ?_⟩
  refine List.forall_mem_cons.mpr ⟨ok_iload_n C (show decode cX11_drawsDay 48 = .ok (.iload_n 3, 1) by decide +kernel) rfl rfl, ?_⟩
  refine List.forall_mem_cons.mpr ⟨ok_iload C (show decode cX11_drawsDay 49 = .ok (.iload 4, 2) by decide +kernel) rfl, ?_⟩
  refine List.forall_mem_cons.mpr ⟨ok_callV C h_X11_whyHoard ⟨rfl, rfl⟩ rfl kw_1477 kw_1474 kw_1476 kp_77 kw_11 rfl ds_X11_whyHoard ⟨by decide, by decide⟩ (show decode cX11_drawsDay 51 = .ok (.invokevirtual 301, 3) by decide +kernel) rfl, ?_⟩
  refine List.forall_mem_cons.mpr ⟨ok_ifne C (show decode cX11_drawsDay 54 = .ok (.ifCond .ne 10, 3) by decide +kernel) (tg := 64) (by decide) rfl rfl, ?_⟩
  refine List.forall_mem_cons.mpr ⟨ok_aload_n C (show decode cX11_drawsDay 57 = .ok (.aload_n 0, 1) by decide +kernel) rfl rfl, ?_⟩
  refine List.forall_mem_cons.mpr ⟨ok_iload_n C (show decode cX11_drawsDay 58 = .ok (.iload_n 3, 1) by decide +kernel) rfl rfl, ?_⟩
  refine List.forall_mem_cons.mpr ⟨ok_iload C (show decode cX11_drawsDay 59 = .ok (.iload 4, 2) by decide +kernel) rfl, ?_⟩
  refine List.forall_mem_cons.mpr ⟨ok_callV C h_X11_hoards ⟨rfl, rfl⟩ rfl kw_1485 kw_1482 kw_1484 kp_79 kw_11 rfl ds_X11_hoards ⟨by decide, by decide⟩ (show decode cX11_drawsDay 61 = .ok (.invokevirtual 307, 3) by decide +kernel) rfl, ?_⟩
  refine List.forall_mem_cons.mpr ⟨ok_iload_n C (show decode cX11_drawsDay 64 = .ok (.iload_n 1, 1) by decide +kernel) rfl rfl, ?_⟩
  refine List.forall_mem_cons.mpr ⟨ok_iconst C (show decode cX11_drawsDay 65 = .ok (.iconst 1, 1) by decide +kernel) (by decide) rfl, ?_⟩
  refine List.forall_mem_cons.mpr ⟨ok_icmpne C (show decode cX11_drawsDay 66 = .ok (.if_icmp .ne 21, 3) by decide +kernel) (tg := 87) (by decide) rfl rfl, ?_⟩
  refine List.forall_mem_cons.mpr ⟨ok_aload_n C (show decode cX11_drawsDay 69 = .ok (.aload_n 0, 1) by decide +kernel) rfl rfl, ?_⟩
  refine List.forall_mem_cons.mpr ⟨ok_iload_n C (show decode cX11_drawsDay 70 = .ok (.iload_n 3, 1) by decide +kernel) rfl rfl, ?_⟩
  refine List.forall_mem_cons.mpr ⟨ok_iload C (show decode cX11_drawsDay 71 = .ok (.iload 4, 2) by decide +kernel) rfl, ?_⟩
  refine List.forall_mem_cons.mpr ⟨ok_callV C h_X11_whyBare ⟨rfl, rfl⟩ rfl kw_1493 kw_1490 kw_1492 kp_80 kw_11 rfl ds_X11_whyBare ⟨by decide, by decide⟩ (show decode cX11_drawsDay 73 = .ok (.invokevirtual 311, 3) by decide +kernel) rfl, ?_⟩
  refine List.forall_mem_cons.mpr ⟨ok_ifne C (show decode cX11_drawsDay 76 = .ok (.ifCond .ne 11, 3) by decide +kernel) (tg := 87) (by decide) rfl rfl, ?_⟩
  refine List.forall_mem_cons.mpr ⟨ok_aload_n C (show decode cX11_drawsDay 79 = .ok (.aload_n 0, 1) by decide +kernel) rfl rfl, ?_⟩
  refine List.forall_mem_cons.mpr ⟨ok_iload_n C (show decode cX11_drawsDay 80 = .ok (.iload_n 3, 1) by decide +kernel) rfl rfl, ?_⟩
  refine List.forall_mem_cons.mpr ⟨ok_iload C (show decode cX11_drawsDay 81 = .ok (.iload 4, 2) by decide +kernel) rfl, ?_⟩
  refine List.forall_mem_cons.mpr ⟨ok_ineg C (show decode cX11_drawsDay 83 = .ok (.ineg, 1) by decide +kernel) rfl, ?_⟩
  refine List.forall_mem_cons.mpr ⟨ok_callV C h_X11_hoards ⟨rfl, rfl⟩ rfl kw_1485 kw_1482 kw_1484 kp_79 kw_11 rfl ds_X11_hoards ⟨by decide, by decide⟩ (show decode cX11_drawsDay 84 = .ok (.invokevirtual 307, 3) by decide +kernel) rfl, ?_⟩
  refine List.forall_mem_cons.mpr ⟨ok_iload_n C (show decode cX11_drawsDay 87 = .ok (.iload_n 1, 1) by decide +kernel) rfl rfl, ?_⟩
  refine List.forall_mem_cons.mpr ⟨ok_iconst C (show decode cX11_drawsDay 88 = .ok (.iconst 2, 1) by decide +kernel) (by decide) rfl, ?_⟩
  refine List.forall_mem_cons.mpr ⟨ok_icmpne C (show decode cX11_drawsDay 89 = .ok (.if_icmp .ne 27, 3) by decide +kernel) (tg := 116) (by decide) rfl rfl, ?_⟩
  refine List.forall_mem_cons.mpr ⟨ok_aload_n C (show decode cX11_drawsDay 92 = .ok (.aload_n 0, 1) by decide +kernel) rfl rfl, ?_⟩
  refine List.forall_mem_cons.mpr ⟨ok_iload_n C (show decode cX11_drawsDay 93 = .ok (.iload_n 3, 1) by decide +kernel) rfl rfl, ?_⟩
  refine List.forall_mem_cons.mpr ⟨ok_iload C (show decode cX11_drawsDay 94 = .ok (.iload 4, 2) by decide +kernel) rfl, ?_⟩
  refine List.forall_mem_cons.mpr ⟨ok_callV C h_X11_whyHoard ⟨rfl, rfl⟩ rfl kw_1477 kw_1474 kw_1476 kp_77 kw_11 rfl ds_X11_whyHoard ⟨by decide, by decide⟩ (show decode cX11_drawsDay 96 = .ok (.invokevirtual 301, 3) by decide +kernel) rfl, ?_⟩
  refine List.forall_mem_cons.mpr ⟨ok_ifne C (show decode cX11_drawsDay 99 = .ok (.ifCond .ne 17, 3) by decide +kernel) (tg := 116) (by decide) rfl rfl, ?_⟩
  refine List.forall_mem_cons.mpr ⟨ok_aload_n C (show decode cX11_drawsDay 102 = .ok (.aload_n 0, 1) by decide +kernel) rfl rfl, ?_⟩
  refine List.forall_mem_cons.mpr ⟨ok_getf C (wi_X11) rfl (by decide) kw_1186 (show decode cX11_drawsDay 103 = .ok (.getfield 33, 3) by decide +kernel) rfl, ?_⟩
  refine List.forall_mem_cons.mpr ⟨ok_bipush C (show decode cX11_drawsDay 106 = .ok (.bipush 124, 2) by decide +kernel) (by decide) rfl, ?_⟩
  refine List.forall_mem_cons.mpr ⟨ok_iload_n C (show decode cX11_drawsDay 108 = .ok (.iload_n 3, 1) by decide +kernel) rfl rfl, ?_⟩
  refine List.forall_mem_cons.mpr ⟨ok_iadd C (show decode cX11_drawsDay 109 = .ok (.iadd, 1) by decide +kernel) rfl, ?_⟩
  refine List.forall_mem_cons.mpr ⟨ok_dup2 C (show decode cX11_drawsDay 110 = .ok (.dup2, 1) by decide +kernel) rfl, ?_⟩
  refine List.forall_mem_cons.mpr ⟨ok_iaload C (show decode cX11_drawsDay 111 = .ok (.iaload, 1) by decide +kernel) rfl, ?_⟩
  refine List.forall_mem_cons.mpr ⟨ok_iload C (show decode cX11_drawsDay 112 = .ok (.iload 4, 2) by decide +kernel) rfl, ?_⟩
  refine List.forall_mem_cons.mpr ⟨ok_isub C (show decode cX11_drawsDay 114 = .ok (.isub, 1) by decide +kernel) rfl, ?_⟩
  refine List.forall_mem_cons.mpr ⟨ok_iastore C (show decode cX11_drawsDay 115 = .ok (.iastore, 1) by decide +kernel) rfl, ?_⟩
  refine List.forall_mem_cons.mpr ⟨ok_aload_n C (show decode cX11_drawsDay 116 = .ok (.aload_n 0, 1) by decide +kernel) rfl rfl, ?_⟩
  refine List.forall_mem_cons.mpr ⟨ok_bipush C (show decode cX11_drawsDay 117 = .ok (.bipush 90, 2) by decide +kernel) (by decide) rfl, ?_⟩
  refine List.forall_mem_cons.mpr ⟨ok_callV C h_X11_draw ⟨rfl, rfl⟩ rfl kw_1639 kw_1636 kw_1638 kp_93 kw_11 rfl ds_X11_draw ⟨by decide, by decide⟩ (show decode cX11_drawsDay 119 = .ok (.invokevirtual 339, 3) by decide +kernel) rfl, ?_⟩
  refine List.forall_mem_cons.mpr ⟨ok_ifne C (show decode cX11_drawsDay 122 = .ok (.ifCond .ne 35, 3) by decide +kernel) (tg := 157) (by decide) rfl rfl, ?_⟩
  refine List.forall_mem_cons.mpr ⟨ok_aload_n C (show decode cX11_drawsDay 125 = .ok (.aload_n 0, 1) by decide +kernel) rfl rfl, ?_⟩
  refine List.forall_mem_cons.mpr ⟨ok_getf C (wi_X11) rfl (by decide) kw_1186 (show decode cX11_drawsDay 126 = .ok (.getfield 33, 3) by decide +kernel) rfl, ?_⟩
  refine List.forall_mem_cons.mpr ⟨ok_iconst C (show decode cX11_drawsDay 129 = .ok (.iconst 1, 1) by decide +kernel) (by decide) rfl, ?_⟩
  refine List.forall_mem_cons.mpr ⟨ok_iaload C (show decode cX11_drawsDay 130 = .ok (.iaload, 1) by decide +kernel) rfl, ?_⟩
  refine List.forall_mem_cons.mpr ⟨ok_ifle C (show decode cX11_drawsDay 131 = .ok (.ifCond .le 26, 3) by decide +kernel) (tg := 157) (by decide) rfl rfl, ?_⟩
  refine List.forall_mem_cons.mpr ⟨ok_aload_n C (show decode cX11_drawsDay 134 = .ok (.aload_n 0, 1) by decide +kernel) rfl rfl, ?_⟩
  refine List.forall_mem_cons.mpr ⟨ok_getf C (wi_X11) rfl (by decide) kw_1186 (show decode cX11_drawsDay 135 = .ok (.getfield 33, 3) by decide +kernel) rfl, ?_⟩
  refine List.forall_mem_cons.mpr ⟨ok_sipush C (show decode cX11_drawsDay 138 = .ok (.sipush 180, 3) by decide +kernel) (by decide) rfl, ?_⟩
  refine List.forall_mem_cons.mpr ⟨ok_dup2 C (show decode cX11_drawsDay 141 = .ok (.dup2, 1) by decide +kernel) rfl, ?_⟩
  refine List.forall_mem_cons.mpr ⟨ok_iaload C (show decode cX11_drawsDay 142 = .ok (.iaload, 1) by decide +kernel) rfl, ?_⟩
  refine List.forall_mem_cons.mpr ⟨ok_iconst C (show decode cX11_drawsDay 143 = .ok (.iconst 1, 1) by decide +kernel) (by decide) rfl, ?_⟩
  refine List.forall_mem_cons.mpr ⟨ok_aload_n C (show decode cX11_drawsDay 144 = .ok (.aload_n 0, 1) by decide +kernel) rfl rfl, ?_⟩
  refine List.forall_mem_cons.mpr ⟨ok_aload_n C (show decode cX11_drawsDay 145 = .ok (.aload_n 0, 1) by decide +kernel) rfl rfl, ?_⟩
  refine List.forall_mem_cons.mpr ⟨ok_getf C (wi_X11) rfl (by decide) kw_1186 (show decode cX11_drawsDay 146 = .ok (.getfield 33, 3) by decide +kernel) rfl, ?_⟩
  refine List.forall_mem_cons.mpr ⟨ok_iconst C (show decode cX11_drawsDay 149 = .ok (.iconst 1, 1) by decide +kernel) (by decide) rfl, ?_⟩
  refine List.forall_mem_cons.mpr ⟨ok_iaload C (show decode cX11_drawsDay 150 = .ok (.iaload, 1) by decide +kernel) rfl, ?_⟩
  refine List.forall_mem_cons.mpr ⟨ok_callV C h_X11_draw ⟨rfl, rfl⟩ rfl kw_1639 kw_1636 kw_1638 kp_93 kw_11 rfl ds_X11_draw ⟨by decide, by decide⟩ (show decode cX11_drawsDay 151 = .ok (.invokevirtual 339, 3) by decide +kernel) rfl, ?_⟩
  refine List.forall_mem_cons.mpr ⟨ok_ishl C (show decode cX11_drawsDay 154 = .ok (.ishl, 1) by decide +kernel) rfl, ?_⟩
  refine List.forall_mem_cons.mpr ⟨ok_ior C (show decode cX11_drawsDay 155 = .ok (.ior, 1) by decide +kernel) rfl, ?_⟩
  refine List.forall_mem_cons.mpr ⟨ok_iastore C (show decode cX11_drawsDay 156 = .ok (.iastore, 1) by decide +kernel) rfl, ?_⟩
  refine List.forall_mem_cons.mpr ⟨ok_aload_n C (show decode cX11_drawsDay 157 = .ok (.aload_n 0, 1) by decide +kernel) rfl rfl, ?_⟩
  refine List.forall_mem_cons.mpr ⟨ok_callV C h_X11_day ⟨rfl, rfl⟩ rfl kw_1513 kw_1510 kw_1512 kp_82 kw_11 rfl ds_X11_day ⟨by decide, by decide⟩ (show decode cX11_drawsDay 158 = .ok (.invokevirtual 298, 3) by decide +kernel) rfl, ?_⟩
  refine List.forall_mem_cons.mpr ⟨ok_vret C rfl (show decode cX11_drawsDay 161 = .ok (.return_, 1) by decide +kernel), ?_⟩
  exact fun _ h => absurd h List.not_mem_nil
def L_X11_draws (f_X11_drawsDay : List Value → ab_H → Option ab_O) : List (Nat × ab_A) := [
  (0, ab_nx 1 (ab_aload 0)),
  (1, ab_nx 2 (ab_iload 2)),
  (2, ab_nx 5 (ab_putf 11 29 0)),
  (5, ab_nx 6 (ab_lit (.int 0))),
  (6, ab_nx 7 (ab_istore 3)),
  (7, ab_nx 8 (ab_iload 3)),
  (8, ab_nx 9 (ab_iload 1)),
  (9, ab_icmp 12 35 (fun x y => decide (y ≤ x))),
  (12, ab_nx 13 (ab_aload 0)),
  (13, ab_nx 16 (ab_getf 11 6)),
  (16, ab_nx 18 (ab_lit (.int 120))),
  (18, ab_nx 19 (ab_ald 1)),
  (19, ab_nx 22 (ab_lit (.int 400))),
  (22, ab_icmp 25 35 (fun x y => decide (y ≤ x))),
  (25, ab_nx 26 (ab_aload 0)),
  (26, ab_nx 29 (ab_callV 1 11 f_X11_drawsDay 0 0 0 0)),
  (29, ab_nx 32 (ab_iinc 3 1)),
  (32, ab_goto 7),
  (35, ab_nx 36 (ab_iload 3)),
  (36, ab_ret 0 0)]
set_option maxRecDepth 100000 in
set_option maxHeartbeats 4000000 in
theorem M_X11_draws {l : Launch} {b : ab_B} {D : va_G} {cA : Nat → ClassId} {f_X11_drawsDay : List Value → ab_H → Option ab_O} (h_X11_drawsDay : ab_M l b D ab_cl cA (ab_E0 b) yX11_drawsDay (Cond.code yX11_drawsDay cX11_drawsDay 5 none :: ab_G) ({ frames := 8, cells := 0, slots := 0, locals := 800 } : Room) f_X11_drawsDay) : ab_M l b D ab_cl cA (ab_E0 b) yX11_draws (Cond.code yX11_draws cX11_draws 4 (some .int) :: ab_G) ({ frames := 9, cells := 0, slots := 0, locals := 900 } : Room) (ab_X (ab_T (L_X11_draws f_X11_drawsDay)) 4) := by
  refine ab_meth (ret := (some .int)) (L_X11_draws f_X11_drawsDay) (by decide) rfl fun p e R s m args below meth c o C => ?_
  unfold L_X11_draws
  refine List.forall_mem_cons.mpr ⟨ok_aload_n C (show decode cX11_draws 0 = .ok (.aload_n 0, 1) by decide +kernel) rfl rfl, ?_⟩
  refine List.forall_mem_cons.mpr ⟨ok_iload_n C (show decode cX11_draws 1 = .ok (.iload_n 2, 1) by decide +kernel) rfl rfl, ?_⟩
  refine List.forall_mem_cons.mpr ⟨ok_putf C (wi_X11) tyX11 tyX11_ok nmX11 rfl (by decide) kw_1209 (Or.inl rfl) (Or.inl ⟨rfl, rfl⟩) (show decode cX11_draws 2 = .ok (.putfield 335, 3) by decide +kernel) rfl, ?_⟩
  refine List.forall_mem_cons.mpr ⟨ok_iconst C (show decode cX11_draws 5 = .ok (.iconst 0, 1) by decide +kernel) (by decide) rfl, ?_⟩
  refine List.forall_mem_cons.mpr ⟨ok_istore_n C (show decode cX11_draws 6 = .ok (.istore_n 3, 1) by decide +kernel) rfl (by decide) rfl, ?_⟩
  refine List.forall_mem_cons.mpr ⟨ok_iload_n C (show decode cX11_draws 7 = .ok (.iload_n 3, 1) by decide +kernel) rfl rfl, ?_⟩
  refine List.forall_mem_cons.mpr ⟨ok_iload_n C (show decode cX11_draws 8 = .ok (.iload_n 1, 1) by decide +kernel) rfl rfl, ?_⟩
  refine List.forall_mem_cons.mpr ⟨ok_icmpge C (show decode cX11_draws 9 = .ok (.if_icmp .ge 26, 3) by decide +kernel) (tg := 35) (by decide) rfl rfl, ?_⟩
  refine List.forall_mem_cons.mpr ⟨ok_aload_n C (show decode cX11_draws 12 = .ok (.aload_n 0, 1) by decide +kernel) rfl rfl, ?_⟩
  refine List.forall_mem_cons.mpr ⟨ok_getf C (wi_X11) rfl (by decide) kw_1186 (show decode cX11_draws 13 = .ok (.getfield 33, 3) by decide +kernel) rfl, ?_⟩
  refine List.forall_mem_cons.mpr ⟨ok_bipush C (show decode cX11_draws 16 = .ok (.bipush 120, 2) by decide +kernel) (by decide) rfl, ?_⟩
  refine List.forall_mem_cons.mpr ⟨ok_iaload C (show decode cX11_draws 18 = .ok (.iaload, 1) by decide +kernel) rfl, ?_⟩
  refine List.forall_mem_cons.mpr ⟨ok_sipush C (show decode cX11_draws 19 = .ok (.sipush 400, 3) by decide +kernel) (by decide) rfl, ?_⟩
  refine List.forall_mem_cons.mpr ⟨ok_icmpge C (show decode cX11_draws 22 = .ok (.if_icmp .ge 13, 3) by decide +kernel) (tg := 35) (by decide) rfl rfl, ?_⟩
  refine List.forall_mem_cons.mpr ⟨ok_aload_n C (show decode cX11_draws 25 = .ok (.aload_n 0, 1) by decide +kernel) rfl rfl, ?_⟩
  refine List.forall_mem_cons.mpr ⟨ok_callV C h_X11_drawsDay ⟨rfl, rfl⟩ rfl kw_1635 kw_1632 kw_1634 kp_92 kw_11 rfl ds_X11_drawsDay ⟨by decide, by decide⟩ (show decode cX11_draws 26 = .ok (.invokevirtual 342, 3) by decide +kernel) rfl, ?_⟩
  refine List.forall_mem_cons.mpr ⟨ok_iinc C (show decode cX11_draws 29 = .ok (.iinc 3 1, 3) by decide +kernel) (by decide) (by decide) rfl, ?_⟩
  refine List.forall_mem_cons.mpr ⟨ok_goto C (show decode cX11_draws 32 = .ok (.goto (-25), 3) by decide +kernel) (tg := 7) (by decide) rfl, ?_⟩
  refine List.forall_mem_cons.mpr ⟨ok_iload_n C (show decode cX11_draws 35 = .ok (.iload_n 3, 1) by decide +kernel) rfl rfl, ?_⟩
  refine List.forall_mem_cons.mpr ⟨ok_ret C rfl (show decode cX11_draws 36 = .ok (.ireturn, 1) by decide +kernel), ?_⟩
  exact fun _ h => absurd h List.not_mem_nil
def L_X11_drawn (f_X11_isIn : List Value → ab_H → Option ab_O) (f_X11_keep : List Value → ab_H → Option ab_O) (f_X11_draws : List Value → ab_H → Option ab_O) : List (Nat × ab_A) := [
  (0, ab_nx 1 (ab_aload 0)),
  (1, ab_nx 2 (ab_lit (.int 0))),
  (2, ab_nx 5 (ab_putf 11 0 0)),
  (5, ab_nx 6 (ab_iload 1)),
  (6, ab_nx 7 (ab_lit (.int 1))),
  (7, ab_nx 9 (ab_lit (.int 60))),
  (9, ab_nx 12 (ab_call 3 f_X11_isIn 0 0 0 0)),
  (12, ab_if 15 24 (fun x => decide (x = 0))),
  (15, ab_nx 16 (ab_aload 0)),
  (16, ab_nx 19 (ab_getf 11 6)),
  (19, ab_nx 20 (ab_lit (.int 0))),
  (20, ab_nx 21 (ab_ald 1)),
  (21, ab_if 24 26 (fun x => !decide (x = 0))),
  (24, ab_nx 25 (ab_lit (.int (-1)))),
  (25, ab_ret 0 0),
  (26, ab_nx 27 (ab_aload 0)),
  (27, ab_nx 30 (ab_getf 11 6)),
  (30, ab_nx 32 (ab_lit (.int 120))),
  (32, ab_nx 33 (ab_ald 1)),
  (33, ab_nx 36 (ab_lit (.int 400))),
  (36, ab_icmp 39 43 (fun x y => decide (y ≤ x))),
  (39, ab_nx 40 (ab_aload 0)),
  (40, ab_nx 43 (ab_callV 1 11 f_X11_keep 0 0 0 0)),
  (43, ab_nx 44 (ab_aload 0)),
  (44, ab_nx 45 (ab_iload 1)),
  (45, ab_nx 46 (ab_iload 2)),
  (46, ab_nx 49 (ab_callV 3 11 f_X11_draws 0 0 0 0)),
  (49, ab_ret 0 0)]
set_option maxRecDepth 100000 in
set_option maxHeartbeats 4000000 in
theorem M_X11_drawn {l : Launch} {b : ab_B} {D : va_G} {cA : Nat → ClassId} {f_X11_isIn : List Value → ab_H → Option ab_O} (h_X11_isIn : ab_M l b D ab_cl cA (ab_E0 b) yX11_isIn (Cond.code yX11_isIn cX11_isIn 3 (some .boolean) :: ab_G) ({ frames := 1, cells := 0, slots := 0, locals := 100 } : Room) f_X11_isIn) {f_X11_keep : List Value → ab_H → Option ab_O} (h_X11_keep : ab_M l b D ab_cl cA (ab_E0 b) yX11_keep (Cond.code yX11_keep cX11_keep 2 none :: ab_G) ({ frames := 1, cells := 0, slots := 0, locals := 100 } : Room) f_X11_keep) {f_X11_draws : List Value → ab_H → Option ab_O} (h_X11_draws : ab_M l b D ab_cl cA (ab_E0 b) yX11_draws (Cond.code yX11_draws cX11_draws 4 (some .int) :: ab_G) ({ frames := 9, cells := 0, slots := 0, locals := 900 } : Room) f_X11_draws) : ab_M l b D ab_cl cA (ab_E0 b) yX11_drawn (Cond.code yX11_drawn cX11_drawn 3 (some .int) :: ab_G) ({ frames := 10, cells := 0, slots := 0, locals := 1000 } : Room) (ab_X (ab_T (L_X11_drawn f_X11_isIn f_X11_keep f_X11_draws)) 3) := by
  refine ab_meth (ret := (some .int)) (L_X11_drawn f_X11_isIn f_X11_keep f_X11_draws) (by decide) rfl fun p e R s m args below meth c o C => ?_
  unfold L_X11_drawn
  refine List.forall_mem_cons.mpr ⟨ok_aload_n C (show decode cX11_drawn 0 = .ok (.aload_n 0, 1) by decide +kernel) rfl rfl, ?_⟩
  refine List.forall_mem_cons.mpr ⟨ok_iconst C (show decode cX11_drawn 1 = .ok (.iconst 0, 1) by decide +kernel) (by decide) rfl, ?_⟩
  refine List.forall_mem_cons.mpr ⟨ok_putf C (wi_X11) tyX11 tyX11_ok nmX11 rfl (by decide) kw_1180 (Or.inl rfl) (Or.inl ⟨rfl, rfl⟩) (show decode cX11_drawn 2 = .ok (.putfield 1, 3) by decide +kernel) rfl, ?_⟩
  refine List.forall_mem_cons.mpr ⟨ok_iload_n C (show decode cX11_drawn 5 = .ok (.iload_n 1, 1) by decide +kernel) rfl rfl, ?_⟩
  refine List.forall_mem_cons.mpr ⟨ok_iconst C (show decode cX11_drawn 6 = .ok (.iconst 1, 1) by decide +kernel) (by decide) rfl, ?_⟩
  refine List.forall_mem_cons.mpr ⟨ok_bipush C (show decode cX11_drawn 7 = .ok (.bipush 60, 2) by decide +kernel) (by decide) rfl, ?_⟩
  refine List.forall_mem_cons.mpr ⟨ok_callS C h_X11_isIn ⟨rfl, rfl⟩ kw_1355 kw_1353 kw_1354 kw_11 ds_X11_isIn ⟨by decide, by decide⟩ (show decode cX11_drawn 9 = .ok (.invokestatic 179, 3) by decide +kernel) rfl, ?_⟩
  refine List.forall_mem_cons.mpr ⟨ok_ifeq C (show decode cX11_drawn 12 = .ok (.ifCond .eq 12, 3) by decide +kernel) (tg := 24) (by decide) rfl rfl, ?_⟩
  refine List.forall_mem_cons.mpr ⟨ok_aload_n C (show decode cX11_drawn 15 = .ok (.aload_n 0, 1) by decide +kernel) rfl rfl, ?_⟩
  refine List.forall_mem_cons.mpr ⟨ok_getf C (wi_X11) rfl (by decide) kw_1186 (show decode cX11_drawn 16 = .ok (.getfield 33, 3) by decide +kernel) rfl, ?_⟩
  refine List.forall_mem_cons.mpr ⟨ok_iconst C (show decode cX11_drawn 19 = .ok (.iconst 0, 1) by decide +kernel) (by decide) rfl, ?_⟩
  refine List.forall_mem_cons.mpr ⟨ok_iaload C (show decode cX11_drawn 20 = .ok (.iaload, 1) by decide +kernel) rfl, ?_⟩
  refine List.forall_mem_cons.mpr ⟨ok_ifne C (show decode cX11_drawn 21 = .ok (.ifCond .ne 5, 3) by decide +kernel) (tg := 26) (by decide) rfl rfl, ?_⟩
  refine List.forall_mem_cons.mpr ⟨ok_iconst C (show decode cX11_drawn 24 = .ok (.iconst (-1), 1) by decide +kernel) (by decide) rfl, ?_⟩
  refine List.forall_mem_cons.mpr ⟨ok_ret C rfl (show decode cX11_drawn 25 = .ok (.ireturn, 1) by decide +kernel), ?_⟩
  refine List.forall_mem_cons.mpr ⟨ok_aload_n C (show decode cX11_drawn 26 = .ok (.aload_n 0, 1) by decide +kernel) rfl rfl, ?_⟩
  refine List.forall_mem_cons.mpr ⟨ok_getf C (wi_X11) rfl (by decide) kw_1186 (show decode cX11_drawn 27 = .ok (.getfield 33, 3) by decide +kernel) rfl, ?_⟩
  refine List.forall_mem_cons.mpr ⟨ok_bipush C (show decode cX11_drawn 30 = .ok (.bipush 120, 2) by decide +kernel) (by decide) rfl, ?_⟩
  refine List.forall_mem_cons.mpr ⟨ok_iaload C (show decode cX11_drawn 32 = .ok (.iaload, 1) by decide +kernel) rfl, ?_⟩
  refine List.forall_mem_cons.mpr ⟨ok_sipush C (show decode cX11_drawn 33 = .ok (.sipush 400, 3) by decide +kernel) (by decide) rfl, ?_⟩
  refine List.forall_mem_cons.mpr ⟨ok_icmpge C (show decode cX11_drawn 36 = .ok (.if_icmp .ge 7, 3) by decide +kernel) (tg := 43) (by decide) rfl rfl, ?_⟩
  refine List.forall_mem_cons.mpr ⟨ok_aload_n C (show decode cX11_drawn 39 = .ok (.aload_n 0, 1) by decide +kernel) rfl rfl, ?_⟩
  refine List.forall_mem_cons.mpr ⟨ok_callV C h_X11_keep ⟨rfl, rfl⟩ rfl kw_1481 kw_1478 kw_1480 kp_78 kw_11 rfl ds_X11_keep ⟨by decide, by decide⟩ (show decode cX11_drawn 40 = .ok (.invokevirtual 304, 3) by decide +kernel) rfl, ?_⟩
  refine List.forall_mem_cons.mpr ⟨ok_aload_n C (show decode cX11_drawn 43 = .ok (.aload_n 0, 1) by decide +kernel) rfl rfl, ?_⟩
  refine List.forall_mem_cons.mpr ⟨ok_iload_n C (show decode cX11_drawn 44 = .ok (.iload_n 1, 1) by decide +kernel) rfl rfl, ?_⟩
  refine List.forall_mem_cons.mpr ⟨ok_iload_n C (show decode cX11_drawn 45 = .ok (.iload_n 2, 1) by decide +kernel) rfl rfl, ?_⟩
  refine List.forall_mem_cons.mpr ⟨ok_callV C h_X11_draws ⟨rfl, rfl⟩ rfl kw_1631 kw_1628 kw_1630 kp_91 kw_11 rfl ds_X11_draws ⟨by decide, by decide⟩ (show decode cX11_drawn 46 = .ok (.invokevirtual 345, 3) by decide +kernel) rfl, ?_⟩
  refine List.forall_mem_cons.mpr ⟨ok_ret C rfl (show decode cX11_drawn 49 = .ok (.ireturn, 1) by decide +kernel), ?_⟩
  exact fun _ h => absurd h List.not_mem_nil
