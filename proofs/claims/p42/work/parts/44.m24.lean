def L_X11_isSaid (f_X11_isLeaf : List Value → ab_H → Option ab_O) : List (Nat × ab_A) := [
  (0, ab_nx 1 (ab_lit (.int 0))),
  (1, ab_nx 2 (ab_istore 2)),
  (2, ab_nx 3 (ab_lit (.int 0))),
  (3, ab_nx 4 (ab_istore 3)),
  (4, ab_nx 5 (ab_iload 3)),
  (5, ab_nx 6 (ab_aload 0)),
  (6, ab_nx 9 (ab_getf 11 6)),
  (9, ab_nx 12 (ab_lit (.int 253))),
  (12, ab_nx 13 (ab_ald 1)),
  (13, ab_icmp 16 212 (fun x y => decide (y ≤ x))),
  (16, ab_nx 19 (ab_lit (.int 254))),
  (19, ab_nx 20 (ab_lit (.int 3))),
  (20, ab_nx 21 (ab_iload 3)),
  (21, ab_nx 22 (ab_bin (fun x y => x * y))),
  (22, ab_nx 23 (ab_bin (fun x y => x + y))),
  (23, ab_nx 25 (ab_istore 4)),
  (25, ab_nx 26 (ab_aload 0)),
  (26, ab_nx 29 (ab_getf 11 6)),
  (29, ab_nx 31 (ab_iload 4)),
  (31, ab_nx 32 (ab_ald 1)),
  (32, ab_nx 34 (ab_lit (.int 20))),
  (34, ab_icmp 37 64 (fun x y => !decide (x = y))),
  (37, ab_nx 38 (ab_aload 0)),
  (38, ab_nx 41 (ab_getf 11 39)),
  (41, ab_nx 42 (ab_iload 2)),
  (42, ab_nx 43 (ab_lit (.int 1))),
  (43, ab_nx 44 (ab_bin (fun x y => x - y))),
  (44, ab_nx 45 (ab_aload 0)),
  (45, ab_nx 48 (ab_getf 11 39)),
  (48, ab_nx 49 (ab_iload 2)),
  (49, ab_nx 50 (ab_lit (.int 1))),
  (50, ab_nx 51 (ab_bin (fun x y => x - y))),
  (51, ab_nx 52 (ab_ald 3)),
  (52, ab_if 55 59 (fun x => !decide (x = 0))),
  (55, ab_nx 56 (ab_lit (.int 1))),
  (56, ab_goto 60),
  (59, ab_nx 60 (ab_lit (.int 0))),
  (60, ab_nx 61 (ab_ast 3)),
  (61, ab_goto 206),
  (64, ab_nx 65 (ab_aload 0)),
  (65, ab_nx 68 (ab_getf 11 6)),
  (68, ab_nx 70 (ab_iload 4)),
  (70, ab_nx 71 (ab_ald 1)),
  (71, ab_nx 73 (ab_lit (.int 21))),
  (73, ab_icmp 76 88 (fun x y => decide (x = y))),
  (76, ab_nx 77 (ab_aload 0)),
  (77, ab_nx 80 (ab_getf 11 6)),
  (80, ab_nx 82 (ab_iload 4)),
  (82, ab_nx 83 (ab_ald 1)),
  (83, ab_nx 85 (ab_lit (.int 22))),
  (85, ab_icmp 88 167 (fun x y => !decide (x = y))),
  (88, ab_nx 91 (ab_iinc 2 (-1))),
  (91, ab_nx 92 (ab_aload 0)),
  (92, ab_nx 95 (ab_getf 11 39)),
  (95, ab_nx 96 (ab_iload 2)),
  (96, ab_nx 97 (ab_lit (.int 1))),
  (97, ab_nx 98 (ab_bin (fun x y => x - y))),
  (98, ab_nx 99 (ab_aload 0)),
  (99, ab_nx 102 (ab_getf 11 6)),
  (102, ab_nx 104 (ab_iload 4)),
  (104, ab_nx 105 (ab_ald 1)),
  (105, ab_nx 107 (ab_lit (.int 21))),
  (107, ab_icmp 110 138 (fun x y => !decide (x = y))),
  (110, ab_nx 111 (ab_aload 0)),
  (111, ab_nx 114 (ab_getf 11 39)),
  (114, ab_nx 115 (ab_iload 2)),
  (115, ab_nx 116 (ab_lit (.int 1))),
  (116, ab_nx 117 (ab_bin (fun x y => x - y))),
  (117, ab_nx 118 (ab_ald 3)),
  (118, ab_if 121 134 (fun x => decide (x = 0))),
  (121, ab_nx 122 (ab_aload 0)),
  (122, ab_nx 125 (ab_getf 11 39)),
  (125, ab_nx 126 (ab_iload 2)),
  (126, ab_nx 127 (ab_ald 3)),
  (127, ab_if 130 134 (fun x => decide (x = 0))),
  (130, ab_nx 131 (ab_lit (.int 1))),
  (131, ab_goto 163),
  (134, ab_nx 135 (ab_lit (.int 0))),
  (135, ab_goto 163),
  (138, ab_nx 139 (ab_aload 0)),
  (139, ab_nx 142 (ab_getf 11 39)),
  (142, ab_nx 143 (ab_iload 2)),
  (143, ab_nx 144 (ab_lit (.int 1))),
  (144, ab_nx 145 (ab_bin (fun x y => x - y))),
  (145, ab_nx 146 (ab_ald 3)),
  (146, ab_if 149 158 (fun x => !decide (x = 0))),
  (149, ab_nx 150 (ab_aload 0)),
  (150, ab_nx 153 (ab_getf 11 39)),
  (153, ab_nx 154 (ab_iload 2)),
  (154, ab_nx 155 (ab_ald 3)),
  (155, ab_if 158 162 (fun x => decide (x = 0))),
  (158, ab_nx 159 (ab_lit (.int 1))),
  (159, ab_goto 163),
  (162, ab_nx 163 (ab_lit (.int 0))),
  (163, ab_nx 164 (ab_ast 3)),
  (164, ab_goto 206),
  (167, ab_nx 168 (ab_aload 0)),
  (168, ab_nx 171 (ab_getf 11 39)),
  (171, ab_nx 172 (ab_iload 2)),
  (172, ab_nx 173 (ab_aload 0)),
  (173, ab_nx 174 (ab_iload 1)),
  (174, ab_nx 175 (ab_aload 0)),
  (175, ab_nx 178 (ab_getf 11 6)),
  (178, ab_nx 180 (ab_iload 4)),
  (180, ab_nx 181 (ab_ald 1)),
  (181, ab_nx 182 (ab_aload 0)),
  (182, ab_nx 185 (ab_getf 11 6)),
  (185, ab_nx 187 (ab_iload 4)),
  (187, ab_nx 188 (ab_lit (.int 1))),
  (188, ab_nx 189 (ab_bin (fun x y => x + y))),
  (189, ab_nx 190 (ab_ald 1)),
  (190, ab_nx 191 (ab_aload 0)),
  (191, ab_nx 194 (ab_getf 11 6)),
  (194, ab_nx 196 (ab_iload 4)),
  (196, ab_nx 197 (ab_lit (.int 2))),
  (197, ab_nx 198 (ab_bin (fun x y => x + y))),
  (198, ab_nx 199 (ab_ald 1)),
  (199, ab_nx 202 (ab_callV 5 11 f_X11_isLeaf 0 0 0 0)),
  (202, ab_nx 203 (ab_ast 3)),
  (203, ab_nx 206 (ab_iinc 2 1)),
  (206, ab_nx 209 (ab_iinc 3 1)),
  (209, ab_goto 4),
  (212, ab_nx 213 (ab_aload 0)),
  (213, ab_nx 216 (ab_getf 11 39)),
  (216, ab_nx 217 (ab_lit (.int 0))),
  (217, ab_nx 218 (ab_ald 3)),
  (218, ab_zret 0 0)]
set_option maxRecDepth 100000 in
set_option maxHeartbeats 4000000 in
theorem M_X11_isSaid {l : Launch} {b : ab_B} {D : va_G} {cA : Nat → ClassId} {f_X11_isLeaf : List Value → ab_H → Option ab_O} (h_X11_isLeaf : ab_M l b D ab_cl cA (ab_E0 b) yX11_isLeaf (Cond.code yX11_isLeaf cX11_isLeaf 6 (some .boolean) :: ab_G) ({ frames := 4, cells := 0, slots := 0, locals := 400 } : Room) f_X11_isLeaf) : ab_M l b D ab_cl cA (ab_E0 b) yX11_isSaid (Cond.code yX11_isSaid cX11_isSaid 5 (some .boolean) :: ab_G) ({ frames := 5, cells := 0, slots := 0, locals := 500 } : Room) (ab_X (ab_T (L_X11_isSaid f_X11_isLeaf)) 5) := by
  refine ab_meth (ret := (some .boolean)) (L_X11_isSaid f_X11_isLeaf) (by decide) rfl fun p e R s m args below meth c o C => ?_
  unfold L_X11_isSaid
  refine List.forall_mem_cons.mpr ⟨ok_iconst C (show decode cX11_isSaid 0 = .ok (.iconst 0, 1) by decide +kernel) (by decide) rfl, ?_⟩
  refine List.forall_mem_cons.mpr ⟨ok_istore_n C (show decode cX11_isSaid 1 = .ok (.istore_n 2, 1) by decide +kernel) rfl (by decide) rfl, ?_⟩
  refine List.forall_mem_cons.mpr ⟨ok_iconst C (show decode cX11_isSaid 2 = .ok (.iconst 0, 1) by decide +kernel) (by decide) rfl, ?_⟩
  refine List.forall_mem_cons.mpr ⟨ok_istore_n C (show decode cX11_isSaid 3 = .ok (.istore_n 3, 1) by decide +kernel) rfl (by decide) rfl, ?_⟩
  refine List.forall_mem_cons.mpr ⟨ok_iload_n C (show decode cX11_isSaid 4 = .ok (.iload_n 3, 1) by decide +kernel) rfl rfl, ?_⟩
  refine List.forall_mem_cons.mpr ⟨ok_aload_n C (show decode cX11_isSaid 5 = .ok (.aload_n 0, 1) by decide +kernel) rfl rfl, ?_⟩
  refine List.forall_mem_cons.mpr ⟨ok_getf C (wi_X11) rfl (by decide) kw_1186 (show decode cX11_isSaid 6 = .ok (.getfield 33, 3) by decide +kernel) rfl, ?_⟩
  refine List.forall_mem_cons.mpr ⟨ok_sipush C (show decode cX11_isSaid 9 = .ok (.sipush 253, 3) by decide +kernel) (by decide) rfl, ?_⟩
  refine List.forall_mem_cons.mpr ⟨ok_iaload C (show decode cX11_isSaid 12 = .ok (.iaload, 1) by decide +kernel) rfl, ?_⟩
  refine List.forall_mem_cons.mpr ⟨ok_icmpge C (show decode cX11_isSaid 13 = .ok (.if_icmp .ge 199, 3) by decide +kernel) (tg := 212) (by decide) rfl rfl, ?_⟩
  refine List.forall_mem_cons.mpr ⟨ok_sipush C (show decode cX11_isSaid 16 = .ok (.sipush 254, 3) by decide +kernel) (by decide) rfl, ?_⟩
  refine List.forall_mem_cons.mpr ⟨ok_iconst C (show decode cX11_isSaid 19 = .ok (.iconst 3, 1) by decide +kernel) (by decide) rfl, ?_⟩
  refine List.forall_mem_cons.mpr ⟨ok_iload_n C (show decode cX11_isSaid 20 = .ok (.iload_n 3, 1) by decide +kernel) rfl rfl, ?_⟩
  refine List.forall_mem_cons.mpr ⟨ok_imul C (show decode cX11_isSaid 21 = .ok (.imul, 1) by decide +kernel) rfl, ?_⟩
  refine List.forall_mem_cons.mpr ⟨ok_iadd C (show decode cX11_isSaid 22 = .ok (.iadd, 1) by decide +kernel) rfl, ?_⟩
  refine List.forall_mem_cons.mpr ⟨ok_istore C (show decode cX11_isSaid 23 = .ok (.istore 4, 2) by decide +kernel) (by decide) rfl, ?_⟩
  refine List.forall_mem_cons.mpr ⟨ok_aload_n C (show decode cX11_isSaid 25 = .ok (.aload_n 0, 1) by decide +kernel) rfl rfl, ?_⟩
  refine List.forall_mem_cons.mpr ⟨ok_getf C (wi_X11) rfl (by decide) kw_1186 (show decode cX11_isSaid 26 = .ok (.getfield 33, 3) by decide +kernel) rfl, ?_⟩
  refine List.forall_mem_cons.mpr ⟨ok_iload C (show decode cX11_isSaid 29 = .ok (.iload 4, 2) by decide +kernel) rfl, ?_⟩
  refine List.forall_mem_cons.mpr ⟨ok_iaload C (show decode cX11_isSaid 31 = .ok (.iaload, 1) by decide +kernel) rfl, ?_⟩
  refine List.forall_mem_cons.mpr ⟨ok_bipush C (show decode cX11_isSaid 32 = .ok (.bipush 20, 2) by decide +kernel) (by decide) rfl, ?_⟩
  refine List.forall_mem_cons.mpr ⟨ok_icmpne C (show decode cX11_isSaid 34 = .ok (.if_icmp .ne 30, 3) by decide +kernel) (tg := 64) (by decide) rfl rfl, ?_⟩
  refine List.forall_mem_cons.mpr ⟨ok_aload_n C (show decode cX11_isSaid 37 = .ok (.aload_n 0, 1) by decide +kernel) rfl rfl, ?_⟩
  refine List.forall_mem_cons.mpr ⟨ok_getf C (wi_X11) rfl (by decide) kw_1219 (show decode cX11_isSaid 38 = .ok (.getfield 74, 3) by decide +kernel) rfl, ?_⟩
  refine List.forall_mem_cons.mpr ⟨ok_iload_n C (show decode cX11_isSaid 41 = .ok (.iload_n 2, 1) by decide +kernel) rfl rfl, ?_⟩
  refine List.forall_mem_cons.mpr ⟨ok_iconst C (show decode cX11_isSaid 42 = .ok (.iconst 1, 1) by decide +kernel) (by decide) rfl, ?_⟩
  refine List.forall_mem_cons.mpr ⟨ok_isub C (show decode cX11_isSaid 43 = .ok (.isub, 1) by decide +kernel) rfl, ?_⟩
  refine List.forall_mem_cons.mpr ⟨ok_aload_n C (show decode cX11_isSaid 44 = .ok (.aload_n 0, 1) by decide +kernel) rfl rfl, ?_⟩
  refine List.forall_mem_cons.mpr ⟨ok_getf C (wi_X11) rfl (by decide) kw_1219 (show decode cX11_isSaid 45 = .ok (.getfield 74, 3) by decide +kernel) rfl, ?_⟩
  refine List.forall_mem_cons.mpr ⟨ok_iload_n C (show decode cX11_isSaid 48 = .ok (.iload_n 2, 1) by decide +kernel) rfl rfl, ?_⟩
  refine List.forall_mem_cons.mpr ⟨ok_iconst C (show decode cX11_isSaid 49 = .ok (.iconst 1, 1) by decide +kernel) (by decide) rfl, ?_⟩
  refine List.forall_mem_cons.mpr ⟨ok_isub C (show decode cX11_isSaid 50 = .ok (.isub, 1) by decide +kernel) rfl, ?_⟩
  refine List.forall_mem_cons.mpr ⟨ok_zaload C (show decode cX11_isSaid 51 = .ok (.baload, 1) by decide +kernel) rfl, ?_⟩
  refine List.forall_mem_cons.mpr ⟨ok_ifne C (show decode cX11_isSaid 52 = .ok (.ifCond .ne 7, 3) by decide +kernel) (tg := 59) (by decide) rfl rfl, ?_⟩
  refine List.forall_mem_cons.mpr ⟨ok_iconst C (show decode cX11_isSaid 55 = .ok (.iconst 1, 1) by decide +kernel) (by decide) rfl, ?_⟩
  refine List.forall_mem_cons.mpr ⟨ok_goto C (show decode cX11_isSaid 56 = .ok (.goto 4, 3) by decide +kernel) (tg := 60) (by decide) rfl, ?_⟩
  refine List.forall_mem_cons.mpr ⟨ok_iconst C (show decode cX11_isSaid 59 = .ok (.iconst 0, 1) by decide +kernel) (by decide) rfl, ?_⟩
  refine List.forall_mem_cons.mpr ⟨ok_zastore C (show decode cX11_isSaid 60 = .ok (.bastore, 1) by decide +kernel) rfl, ?_⟩
  refine List.forall_mem_cons.mpr ⟨ok_goto C (show decode cX11_isSaid 61 = .ok (.goto 145, 3) by decide +kernel) (tg := 206) (by decide) rfl, ?_⟩
  refine List.forall_mem_cons.mpr ⟨ok_aload_n C (show decode cX11_isSaid 64 = .ok (.aload_n 0, 1) by decide +kernel) rfl rfl, ?_⟩
  refine List.forall_mem_cons.mpr ⟨ok_getf C (wi_X11) rfl (by decide) kw_1186 (show decode cX11_isSaid 65 = .ok (.getfield 33, 3) by decide +kernel) rfl, ?_⟩
  refine List.forall_mem_cons.mpr ⟨ok_iload C (show decode cX11_isSaid 68 = .ok (.iload 4, 2) by decide +kernel) rfl, ?_⟩
  refine List.forall_mem_cons.mpr ⟨ok_iaload C (show decode cX11_isSaid 70 = .ok (.iaload, 1) by decide +kernel) rfl, ?_⟩
  refine List.forall_mem_cons.mpr ⟨ok_bipush C (show decode cX11_isSaid 71 = .ok (.bipush 21, 2) by decide +kernel) (by decide) rfl, ?_⟩
  refine List.forall_mem_cons.mpr ⟨ok_icmpeq C (show decode cX11_isSaid 73 = .ok (.if_icmp .eq 15, 3) by decide +kernel) (tg := 88) (by decide) rfl rfl, ?_⟩
  refine List.forall_mem_cons.mpr ⟨ok_aload_n C (show decode cX11_isSaid 76 = .ok (.aload_n 0, 1) by decide +kernel) rfl rfl, ?_⟩
  refine List.forall_mem_cons.mpr ⟨ok_getf C (wi_X11) rfl (by decide) kw_1186 (show decode cX11_isSaid 77 = .ok (.getfield 33, 3) by decide +kernel) rfl, ?_⟩
  refine List.forall_mem_cons.mpr ⟨ok_iload C (show decode cX11_isSaid 80 = .ok (.iload 4, 2) by decide +kernel) rfl, ?_⟩
  refine List.forall_mem_cons.mpr ⟨ok_iaload C (show decode cX11_isSaid 82 = .ok (.iaload, 1) by decide +kernel) rfl, ?_⟩
  refine List.forall_mem_cons.mpr ⟨ok_bipush C (show decode cX11_isSaid 83 = .ok (.bipush 22, 2) by decide +kernel) (by decide) rfl, ?_⟩
  refine List.forall_mem_cons.mpr ⟨ok_icmpne C (show decode cX11_isSaid 85 = .ok (.if_icmp .ne 82, 3) by decide +kernel) (tg := 167) (by decide) rfl rfl, ?_⟩
  refine List.forall_mem_cons.mpr ⟨ok_iinc C (show decode cX11_isSaid 88 = .ok (.iinc 2 (-1), 3) by decide +kernel) (by decide) (by decide) rfl, ?_⟩
  refine List.forall_mem_cons.mpr ⟨ok_aload_n C (show decode cX11_isSaid 91 = .ok (.aload_n 0, 1) by decide +kernel) rfl rfl, ?_⟩
  refine List.forall_mem_cons.mpr ⟨ok_getf C (wi_X11) rfl (by decide) kw_1219 (show decode cX11_isSaid 92 = .ok (.getfield 74, 3) by decide +kernel) rfl, ?_⟩
  refine List.forall_mem_cons.mpr ⟨ok_iload_n C (show decode cX11_isSaid 95 = .ok (.iload_n 2, 1) by decide +kernel) rfl rfl, ?_⟩
  refine List.forall_mem_cons.mpr ⟨ok_iconst C (show decode cX11_isSaid 96 = .ok (.iconst 1, 1) by decide +kernel) (by decide) rfl, ?_⟩
  refine List.forall_mem_cons.mpr ⟨ok_isub C (show decode cX11_isSaid 97 = .ok (.isub, 1) by decide +kernel) rfl, ?_⟩
  refine List.forall_mem_cons.mpr ⟨ok_aload_n C (show decode cX11_isSaid 98 = .ok (.aload_n 0, 1) by decide +kernel) rfl rfl, ?_⟩
  refine List.forall_mem_cons.mpr ⟨ok_getf C (wi_X11) rfl (by decide) kw_1186 (show decode cX11_isSaid 99 = .ok (.getfield 33, 3) by decide +kernel) rfl, ?_⟩
  refine List.forall_mem_cons.mpr ⟨ok_iload C (show decode cX11_isSaid 102 = .ok (.iload 4, 2) by decide +kernel) rfl, ?_⟩
  refine List.forall_mem_cons.mpr ⟨ok_iaload C (show decode cX11_isSaid 104 = .ok (.iaload, 1) by decide +kernel) rfl, ?_⟩
  refine List.forall_mem_cons.mpr ⟨ok_bipush C (show decode cX11_isSaid 105 = .ok (.bipush 21, 2) by decide +kernel) (by decide) rfl, ?_⟩
  refine List.forall_mem_cons.mpr ⟨ok_icmpne C (show decode cX11_isSaid 107 = .ok (.if_icmp .ne 31, 3) by decide +kernel) (tg := 138) (by decide) rfl rfl, ?_⟩
  refine List.forall_mem_cons.mpr ⟨ok_aload_n C (show decode cX11_isSaid 110 = .ok (.aload_n 0, 1) by decide +kernel) rfl rfl, ?_⟩
  refine List.forall_mem_cons.mpr ⟨ok_getf C (wi_X11) rfl (by decide) kw_1219 (show decode cX11_isSaid 111 = .ok (.getfield 74, 3) by decide +kernel) rfl, ?_⟩
  refine List.forall_mem_cons.mpr ⟨ok_iload_n C (show decode cX11_isSaid 114 = .ok (.iload_n 2, 1) by decide +kernel) rfl rfl, ?_⟩
  refine List.forall_mem_cons.mpr ⟨ok_iconst C (show decode cX11_isSaid 115 = .ok (.iconst 1, 1) by decide +kernel) (by decide) rfl, ?_⟩
  refine List.forall_mem_cons.mpr ⟨ok_isub C (show decode cX11_isSaid 116 = .ok (.isub, 1) by decide +kernel) rfl, ?_⟩
  refine List.forall_mem_cons.mpr ⟨ok_zaload C (show decode cX11_isSaid 117 = .ok (.baload, 1) by decide +kernel) rfl, ?_⟩
  refine List.forall_mem_cons.mpr ⟨ok_ifeq C (show decode cX11_isSaid 118 = .ok (.ifCond .eq 16, 3) by decide +kernel) (tg := 134) (by decide) rfl rfl, ?_⟩
  refine List.forall_mem_cons.mpr ⟨ok_aload_n C (show decode cX11_isSaid 121 = .ok (.aload_n 0, 1) by decide +kernel) rfl rfl, ?_⟩
  refine List.forall_mem_cons.mpr ⟨ok_getf C (wi_X11) rfl (by decide) kw_1219 (show decode cX11_isSaid 122 = .ok (.getfield 74, 3) by decide +kernel) rfl, ?_⟩
  refine List.forall_mem_cons.mpr ⟨ok_iload_n C (show decode cX11_isSaid 125 = .ok (.iload_n 2, 1) by decide +kernel) rfl rfl, ?_⟩
  refine List.forall_mem_cons.mpr ⟨ok_zaload C (show decode cX11_isSaid 126 = .ok (.baload, 1) by decide +kernel) rfl, ?_⟩
  refine List.forall_mem_cons.mpr ⟨ok_ifeq C (show decode cX11_isSaid 127 = .ok (.ifCond .eq 7, 3) by decide +kernel) (tg := 134) (by decide) rfl rfl, ?_⟩
  refine List.forall_mem_cons.mpr ⟨ok_iconst C (show decode cX11_isSaid 130 = .ok (.iconst 1, 1) by decide +kernel) (by decide) rfl, ?_⟩
  refine List.forall_mem_cons.mpr ⟨ok_goto C (show decode cX11_isSaid 131 = .ok (.goto 32, 3) by decide +kernel) (tg := 163) (by decide) rfl, ?_⟩
  refine List.forall_mem_cons.mpr ⟨ok_iconst C (show decode cX11_isSaid 134 = .ok (.iconst 0, 1) by decide +kernel) (by decide) rfl, ?_⟩
  refine List.forall_mem_cons.mpr ⟨ok_goto C (show decode cX11_isSaid 135 = .ok (.goto 28, 3) by decide +kernel) (tg := 163) (by decide) rfl, ?_⟩
  refine List.forall_mem_cons.mpr ⟨ok_aload_n C (show decode cX11_isSaid 138 = .ok (.aload_n 0, 1) by decide +kernel) rfl rfl, ?_⟩
  refine List.forall_mem_cons.mpr ⟨ok_getf C (wi_X11) rfl (by decide) kw_1219 (show decode cX11_isSaid 139 = .ok (.getfield 74, 3) by decide +kernel) rfl, ?_⟩
  refine List.forall_mem_cons.mpr ⟨ok_iload_n C (show decode cX11_isSaid 142 = .ok (.iload_n 2, 1) by decide +kernel) rfl rfl, ?_⟩
  refine List.forall_mem_cons.mpr ⟨ok_iconst C (show decode cX11_isSaid 143 = .ok (.iconst 1, 1) by decide +kernel) (by decide) rfl, ?_⟩
  refine List.forall_mem_cons.mpr ⟨ok_isub C (show decode cX11_isSaid 144 = .ok (.isub, 1) by decide +kernel) rfl, ?_⟩
  refine List.forall_mem_cons.mpr ⟨ok_zaload C (show decode cX11_isSaid 145 = .ok (.baload, 1) by decide +kernel) rfl, ?_⟩
  refine List.forall_mem_cons.mpr ⟨ok_ifne C (show decode cX11_isSaid 146 = .ok (.ifCond .ne 12, 3) by decide +kernel) (tg := 158) (by decide) rfl rfl, ?_⟩
  refine List.forall_mem_cons.mpr ⟨ok_aload_n C (show decode cX11_isSaid 149 = .ok (.aload_n 0, 1) by decide +kernel) rfl rfl, ?_⟩
  refine List.forall_mem_cons.mpr ⟨ok_getf C (wi_X11) rfl (by decide) kw_1219 (show decode cX11_isSaid 150 = .ok (.getfield 74, 3) by decide +kernel) rfl, ?_⟩
  refine List.forall_mem_cons.mpr ⟨ok_iload_n C (show decode cX11_isSaid 153 = .ok (.iload_n 2, 1) by decide +kernel) rfl rfl, ?_⟩
  refine List.forall_mem_cons.mpr ⟨ok_zaload C (show decode cX11_isSaid 154 = .ok (.baload, 1) by decide +kernel) rfl, ?_⟩
  refine List.forall_mem_cons.mpr ⟨ok_ifeq C (show decode cX11_isSaid 155 = .ok (.ifCond .eq 7, 3) by decide +kernel) (tg := 162) (by decide) rfl rfl, ?_⟩
  refine List.forall_mem_cons.mpr ⟨ok_iconst C (show decode cX11_isSaid 158 = .ok (.iconst 1, 1) by decide +kernel) (by decide) rfl, ?_⟩
  refine List.forall_mem_cons.mpr ⟨ok_goto C (show decode cX11_isSaid 159 = .ok (.goto 4, 3) by decide +kernel) (tg := 163) (by decide) rfl, ?_⟩
  refine List.forall_mem_cons.mpr ⟨ok_iconst C (show decode cX11_isSaid 162 = .ok (.iconst 0, 1) by decide +kernel) (by decide) rfl, ?_⟩
  refine List.forall_mem_cons.mpr ⟨ok_zastore C (show decode cX11_isSaid 163 = .ok (.bastore, 1) by decide +kernel) rfl, ?_⟩
  refine List.forall_mem_cons.mpr ⟨ok_goto C (show decode cX11_isSaid 164 = .ok (.goto 42, 3) by decide +kernel) (tg := 206) (by decide) rfl, ?_⟩
  refine List.forall_mem_cons.mpr ⟨ok_aload_n C (show decode cX11_isSaid 167 = .ok (.aload_n 0, 1) by decide +kernel) rfl rfl, ?_⟩
  refine List.forall_mem_cons.mpr ⟨ok_getf C (wi_X11) rfl (by decide) kw_1219 (show decode cX11_isSaid 168 = .ok (.getfield 74, 3) by decide +kernel) rfl, ?_⟩
  refine List.forall_mem_cons.mpr ⟨ok_iload_n C (show decode cX11_isSaid 171 = .ok (.iload_n 2, 1) by decide +kernel) rfl rfl, ?_⟩
  refine List.forall_mem_cons.mpr ⟨ok_aload_n C (show decode cX11_isSaid 172 = .ok (.aload_n 0, 1) by decide +kernel) rfl rfl, ?_⟩
  refine List.forall_mem_cons.mpr ⟨ok_iload_n C (show decode cX11_isSaid 173 = .ok (.iload_n 1, 1) by decide +kernel) rfl rfl, ?_⟩
  refine List.forall_mem_cons.mpr ⟨ok_aload_n C (show decode cX11_isSaid 174 = .ok (.aload_n 0, 1) by decide +kernel) rfl rfl, ?_⟩
  refine List.forall_mem_cons.mpr ⟨ok_getf C (wi_X11) rfl (by decide) kw_1186 (show decode cX11_isSaid 175 = .ok (.getfield 33, 3) by decide +kernel) rfl, ?_⟩
  refine List.forall_mem_cons.mpr ⟨ok_iload C (show decode cX11_isSaid 178 = .ok (.iload 4, 2) by decide +kernel) rfl, ?_⟩
  refine List.forall_mem_cons.mpr ⟨ok_iaload C (show decode cX11_isSaid 180 = .ok (.iaload, 1) by decide +kernel) rfl, ?_⟩
  refine List.forall_mem_cons.mpr ⟨ok_aload_n C (show decode cX11_isSaid 181 = .ok (.aload_n 0, 1) by decide +kernel) rfl rfl, ?_⟩
  refine List.forall_mem_cons.mpr ⟨ok_getf C (wi_X11) rfl (by decide) kw_1186 (show decode cX11_isSaid 182 = .ok (.getfield 33, 3) by decide +kernel) rfl, ?_⟩
  refine List.forall_mem_cons.mpr ⟨ok_iload C (show decode cX11_isSaid 185 = .ok (.iload 4, 2) by decide +kernel) rfl, ?_⟩
  refine List.forall_mem_cons.mpr ⟨ok_iconst C (show decode cX11_isSaid 187 = .ok (.iconst 1, 1) by decide +kernel) (by decide) rfl, ?_⟩
  refine List.forall_mem_cons.mpr ⟨ok_iadd C (show decode cX11_isSaid 188 = .ok (.iadd, 1) by decide +kernel) rfl, ?_⟩
  refine List.forall_mem_cons.mpr ⟨ok_iaload C (show decode cX11_isSaid 189 = .ok (.iaload, 1) by decide +kernel) rfl, ?_⟩
  refine List.forall_mem_cons.mpr ⟨ok_aload_n C (show decode cX11_isSaid 190 = .ok (.aload_n 0, 1) by decide +kernel) rfl rfl, ?_⟩
  refine List.forall_mem_cons.mpr ⟨ok_getf C (wi_X11) rfl (by decide) kw_1186 (show decode cX11_isSaid 191 = .ok (.getfield 33, 3) by decide +kernel) rfl, ?_⟩
  refine List.forall_mem_cons.mpr ⟨ok_iload C (show decode cX11_isSaid 194 = .ok (.iload 4, 2) by decide +kernel) rfl, ?_⟩
  refine List.forall_mem_cons.mpr ⟨ok_iconst C (show decode cX11_isSaid 196 = .ok (.iconst 2, 1) by decide +kernel) (by decide) rfl, ?_⟩
  refine List.forall_mem_cons.mpr ⟨ok_iadd C (show decode cX11_isSaid 197 = .ok (.iadd, 1) by decide +kernel) rfl, ?_⟩
  refine List.forall_mem_cons.mpr ⟨ok_iaload C (show decode cX11_isSaid 198 = .ok (.iaload, 1) by decide +kernel) rfl, ?_⟩
  refine List.forall_mem_cons.mpr ⟨ok_callV C h_X11_isLeaf ⟨rfl, rfl⟩ rfl kw_1700 kw_1697 kw_1699 kp_103 kw_11 rfl ds_X11_isLeaf ⟨by decide, by decide⟩ (show decode cX11_isSaid 199 = .ok (.invokevirtual 395, 3) by decide +kernel) rfl, ?_⟩
  refine List.forall_mem_cons.mpr ⟨ok_zastore C (show decode cX11_isSaid 202 = .ok (.bastore, 1) by decide +kernel) rfl, ?_⟩
  refine List.forall_mem_cons.mpr ⟨ok_iinc C (show decode cX11_isSaid 203 = .ok (.iinc 2 1, 3) by decide +kernel) (by decide) (by decide) rfl, ?_⟩
  refine List.forall_mem_cons.mpr ⟨ok_iinc C (show decode cX11_isSaid 206 = .ok (.iinc 3 1, 3) by decide +kernel) (by decide) (by decide) rfl, ?_⟩
  refine List.forall_mem_cons.mpr ⟨ok_goto C (show decode cX11_isSaid 209 = .ok (.goto (-205), 3) by decide +kernel) (tg := 4) (by decide) rfl, ?_⟩
  refine List.forall_mem_cons.mpr ⟨ok_aload_n C (show decode cX11_isSaid 212 = .ok (.aload_n 0, 1) by decide +kernel) rfl rfl, ?_⟩
  refine List.forall_mem_cons.mpr ⟨ok_getf C (wi_X11) rfl (by decide) kw_1219 (show decode cX11_isSaid 213 = .ok (.getfield 74, 3) by decide +kernel) rfl, ?_⟩
  refine List.forall_mem_cons.mpr ⟨ok_iconst C (show decode cX11_isSaid 216 = .ok (.iconst 0, 1) by decide +kernel) (by decide) rfl, ?_⟩
  refine List.forall_mem_cons.mpr ⟨ok_zaload C (show decode cX11_isSaid 217 = .ok (.baload, 1) by decide +kernel) rfl, ?_⟩
  refine List.forall_mem_cons.mpr ⟨ok_zret C rfl (show decode cX11_isSaid 218 = .ok (.ireturn, 1) by decide +kernel), ?_⟩
  exact fun _ h => absurd h List.not_mem_nil
def L_X11_said (f_X11_isSaid : List Value → ab_H → Option ab_O) : List (Nat × ab_A) := [
  (0, ab_nx 1 (ab_aload 0)),
  (1, ab_nx 2 (ab_lit (.int 0))),
  (2, ab_nx 5 (ab_putf 11 0 0)),
  (5, ab_nx 6 (ab_aload 0)),
  (6, ab_nx 9 (ab_getf 11 6)),
  (9, ab_nx 12 (ab_lit (.int 253))),
  (12, ab_nx 13 (ab_ald 1)),
  (13, ab_if 16 21 (fun x => decide (x = 0))),
  (16, ab_nx 17 (ab_iload 1)),
  (17, ab_nx 18 (ab_lit (.int (-1)))),
  (18, ab_icmp 21 23 (fun x y => decide (y ≤ x))),
  (21, ab_nx 22 (ab_lit (.int (-1)))),
  (22, ab_ret 0 0),
  (23, ab_nx 24 (ab_lit (.int 0))),
  (24, ab_nx 25 (ab_istore 2)),
  (25, ab_nx 26 (ab_lit (.int 0))),
  (26, ab_nx 27 (ab_istore 3)),
  (27, ab_nx 28 (ab_iload 3)),
  (28, ab_nx 29 (ab_aload 0)),
  (29, ab_nx 32 (ab_getf 11 6)),
  (32, ab_nx 33 (ab_lit (.int 0))),
  (33, ab_nx 34 (ab_ald 1)),
  (34, ab_icmp 37 64 (fun x y => decide (y ≤ x))),
  (37, ab_nx 38 (ab_aload 0)),
  (38, ab_nx 39 (ab_iload 3)),
  (39, ab_nx 42 (ab_callV 2 11 f_X11_isSaid 0 0 0 0)),
  (42, ab_if 45 48 (fun x => !decide (x = 0))),
  (45, ab_goto 58),
  (48, ab_nx 49 (ab_iload 2)),
  (49, ab_nx 50 (ab_iload 1)),
  (50, ab_icmp 53 55 (fun x y => !decide (x = y))),
  (53, ab_nx 54 (ab_iload 3)),
  (54, ab_ret 0 0),
  (55, ab_nx 58 (ab_iinc 2 1)),
  (58, ab_nx 61 (ab_iinc 3 1)),
  (61, ab_goto 27),
  (64, ab_nx 65 (ab_iload 1)),
  (65, ab_nx 66 (ab_lit (.int (-1)))),
  (66, ab_icmp 69 73 (fun x y => !decide (x = y))),
  (69, ab_nx 70 (ab_iload 2)),
  (70, ab_goto 74),
  (73, ab_nx 74 (ab_lit (.int (-1)))),
  (74, ab_ret 0 0)]
set_option maxRecDepth 100000 in
set_option maxHeartbeats 4000000 in
theorem M_X11_said {l : Launch} {b : ab_B} {D : va_G} {cA : Nat → ClassId} {f_X11_isSaid : List Value → ab_H → Option ab_O} (h_X11_isSaid : ab_M l b D ab_cl cA (ab_E0 b) yX11_isSaid (Cond.code yX11_isSaid cX11_isSaid 5 (some .boolean) :: ab_G) ({ frames := 5, cells := 0, slots := 0, locals := 500 } : Room) f_X11_isSaid) : ab_M l b D ab_cl cA (ab_E0 b) yX11_said (Cond.code yX11_said cX11_said 4 (some .int) :: ab_G) ({ frames := 6, cells := 0, slots := 0, locals := 600 } : Room) (ab_X (ab_T (L_X11_said f_X11_isSaid)) 4) := by
  refine ab_meth (ret := (some .int)) (L_X11_said f_X11_isSaid) (by decide) rfl fun p e R s m args below meth c o C => ?_
  unfold L_X11_said
  refine List.forall_mem_cons.mpr ⟨ok_aload_n C (show decode cX11_said 0 = .ok (.aload_n 0, 1) by decide +kernel) rfl rfl, ?_⟩
  refine List.forall_mem_cons.mpr ⟨ok_iconst C (show decode cX11_said 1 = .ok (.iconst 0, 1) by decide +kernel) (by decide) rfl, ?_⟩
  refine List.forall_mem_cons.mpr ⟨ok_putf C (wi_X11) tyX11 tyX11_ok nmX11 rfl (by decide) kw_1180 (Or.inl rfl) (Or.inl ⟨rfl, rfl⟩) (show decode cX11_said 2 = .ok (.putfield 1, 3) by decide +kernel) rfl, ?_⟩
  refine List.forall_mem_cons.mpr ⟨ok_aload_n C (show decode cX11_said 5 = .ok (.aload_n 0, 1) by decide +kernel) rfl rfl, ?_⟩
  refine List.forall_mem_cons.mpr ⟨ok_getf C (wi_X11) rfl (by decide) kw_1186 (show decode cX11_said 6 = .ok (.getfield 33, 3) by decide +kernel) rfl, ?_⟩
  refine List.forall_mem_cons.mpr ⟨ok_sipush C (show decode cX11_said 9 = .ok (.sipush 253, 3) by decide +kernel) (by decide) rfl, ?_⟩
  refine List.forall_mem_cons.mpr ⟨ok_iaload C (show decode cX11_said 12 = .ok (.iaload, 1) by decide +kernel) rfl, ?_⟩
  refine List.forall_mem_cons.mpr ⟨ok_ifeq C (show decode cX11_said 13 = .ok (.ifCond .eq 8, 3) by decide +kernel) (tg := 21) (by decide) rfl rfl, ?_⟩
  refine List.forall_mem_cons.mpr ⟨ok_iload_n C (show decode cX11_said 16 = .ok (.iload_n 1, 1) by decide +kernel) rfl rfl, ?_⟩
  refine List.forall_mem_cons.mpr ⟨ok_iconst C (show decode cX11_said 17 = .ok (.iconst (-1), 1) by decide +kernel) (by decide) rfl, ?_⟩
  refine List.forall_mem_cons.mpr ⟨ok_icmpge C (show decode cX11_said 18 = .ok (.if_icmp .ge 5, 3) by decide +kernel) (tg := 23) (by decide) rfl rfl, ?_⟩
  refine List.forall_mem_cons.mpr ⟨ok_iconst C (show decode cX11_said 21 = .ok (.iconst (-1), 1) by decide +kernel) (by decide) rfl, ?_⟩
  refine List.forall_mem_cons.mpr ⟨ok_ret C rfl (show decode cX11_said 22 = .ok (.ireturn, 1) by decide +kernel), ?_⟩
  refine List.forall_mem_cons.mpr ⟨ok_iconst C (show decode cX11_said 23 = .ok (.iconst 0, 1) by decide +kernel) (by decide) rfl, ?_⟩
  refine List.forall_mem_cons.mpr ⟨ok_istore_n C (show decode cX11_said 24 = .ok (.istore_n 2, 1) by decide +kernel) rfl (by decide) rfl, ?_⟩
  refine List.forall_mem_cons.mpr ⟨ok_iconst C (show decode cX11_said 25 = .ok (.iconst 0, 1) by decide +kernel) (by decide) rfl, ?_⟩
  refine List.forall_mem_cons.mpr ⟨ok_istore_n C (show decode cX11_said 26 = .ok (.istore_n 3, 1) by decide +kernel) rfl (by decide) rfl, ?_⟩
  refine List.forall_mem_cons.mpr ⟨ok_iload_n C (show decode cX11_said 27 = .ok (.iload_n 3, 1) by decide +kernel) rfl rfl, ?_⟩
  refine List.forall_mem_cons.mpr ⟨ok_aload_n C (show decode cX11_said 28 = .ok (.aload_n 0, 1) by decide +kernel) rfl rfl, ?_⟩
  refine List.forall_mem_cons.mpr ⟨ok_getf C (wi_X11) rfl (by decide) kw_1186 (show decode cX11_said 29 = .ok (.getfield 33, 3) by decide +kernel) rfl, ?_⟩
  refine List.forall_mem_cons.mpr ⟨ok_iconst C (show decode cX11_said 32 = .ok (.iconst 0, 1) by decide +kernel) (by decide) rfl, ?_⟩
  refine List.forall_mem_cons.mpr ⟨ok_iaload C (show decode cX11_said 33 = .ok (.iaload, 1) by decide +kernel) rfl, ?_⟩
  refine List.forall_mem_cons.mpr ⟨ok_icmpge C (show decode cX11_said 34 = .ok (.if_icmp .ge 30, 3) by decide +kernel) (tg := 64) (by decide) rfl rfl, ?_⟩
  refine List.forall_mem_cons.mpr ⟨ok_aload_n C (show decode cX11_said 37 = .ok (.aload_n 0, 1) by decide +kernel) rfl rfl, ?_⟩
  refine List.forall_mem_cons.mpr ⟨ok_iload_n C (show decode cX11_said 38 = .ok (.iload_n 3, 1) by decide +kernel) rfl rfl, ?_⟩
  refine List.forall_mem_cons.mpr ⟨ok_callV C h_X11_isSaid ⟨rfl, rfl⟩ rfl kw_1696 kw_1693 kw_1695 kp_102 kw_11 rfl ds_X11_isSaid ⟨by decide, by decide⟩ (show decode cX11_said 39 = .ok (.invokevirtual 399, 3) by decide +kernel) rfl, ?_⟩
  refine List.forall_mem_cons.mpr ⟨ok_ifne C (show decode cX11_said 42 = .ok (.ifCond .ne 6, 3) by decide +kernel) (tg := 48) (by decide) rfl rfl, ?_⟩
  refine List.forall_mem_cons.mpr ⟨ok_goto C (show decode cX11_said 45 = .ok (.goto 13, 3) by decide +kernel) (tg := 58) (by decide) rfl, ?_⟩
  refine List.forall_mem_cons.mpr ⟨ok_iload_n C (show decode cX11_said 48 = .ok (.iload_n 2, 1) by decide +kernel) rfl rfl, ?_⟩
  refine List.forall_mem_cons.mpr ⟨ok_iload_n C (show decode cX11_said 49 = .ok (.iload_n 1, 1) by decide +kernel) rfl rfl, ?_⟩
  refine List.forall_mem_cons.mpr ⟨ok_icmpne C (show decode cX11_said 50 = .ok (.if_icmp .ne 5, 3) by decide +kernel) (tg := 55) (by decide) rfl rfl, ?_⟩
  refine List.forall_mem_cons.mpr ⟨ok_iload_n C (show decode cX11_said 53 = .ok (.iload_n 3, 1) by decide +kernel) rfl rfl, ?_⟩
  refine List.forall_mem_cons.mpr ⟨ok_ret C rfl (show decode cX11_said 54 = .ok (.ireturn, 1) by decide +kernel), ?_⟩
  refine List.forall_mem_cons.mpr ⟨ok_iinc C (show decode cX11_said 55 = .ok (.iinc 2 1, 3) by decide +kernel) (by decide) (by decide) rfl, ?_⟩
  refine List.forall_mem_cons.mpr ⟨ok_iinc C (show decode cX11_said 58 = .ok (.iinc 3 1, 3) by decide +kernel) (by decide) (by decide) rfl, ?_⟩
  refine List.forall_mem_cons.mpr ⟨ok_goto C (show decode cX11_said 61 = .ok (.goto (-34), 3) by decide +kernel) (tg := 27) (by decide) rfl, ?_⟩
  refine List.forall_mem_cons.mpr ⟨ok_iload_n C (show decode cX11_said 64 = .ok (.iload_n 1, 1) by decide +kernel) rfl rfl, ?_⟩
  refine List.forall_mem_cons.mpr ⟨ok_iconst C (show decode cX11_said 65 = .ok (.iconst (-1), 1) by decide +kernel) (by decide) rfl, ?_⟩
  refine List.forall_mem_cons.mpr ⟨ok_icmpne C (show decode cX11_said 66 = .ok (.if_icmp .ne 7, 3) by decide +kernel) (tg := 73) (by decide) rfl rfl, ?_⟩
  refine List.forall_mem_cons.mpr ⟨ok_iload_n C (show decode cX11_said 69 = .ok (.iload_n 2, 1) by decide +kernel) rfl rfl, ?_⟩
  refine List.forall_mem_cons.mpr ⟨ok_goto C (show decode cX11_said 70 = .ok (.goto 4, 3) by decide +kernel) (tg := 74) (by decide) rfl, ?_⟩
  refine List.forall_mem_cons.mpr ⟨ok_iconst C (show decode cX11_said 73 = .ok (.iconst (-1), 1) by decide +kernel) (by decide) rfl, ?_⟩
  refine List.forall_mem_cons.mpr ⟨ok_ret C rfl (show decode cX11_said 74 = .ok (.ireturn, 1) by decide +kernel), ?_⟩
  exact fun _ h => absurd h List.not_mem_nil
def L_X11_image (f_X11_isIn : List Value → ab_H → Option ab_O) : List (Nat × ab_A) := [
  (0, ab_nx 1 (ab_aload 0)),
  (1, ab_nx 2 (ab_lit (.int 0))),
  (2, ab_nx 5 (ab_putf 11 0 0)),
  (5, ab_nx 6 (ab_iload 1)),
  (6, ab_nx 7 (ab_lit (.int 0))),
  (7, ab_nx 8 (ab_lit (.int 1))),
  (8, ab_nx 11 (ab_call 3 f_X11_isIn 0 0 0 0)),
  (11, ab_if 14 16 (fun x => !decide (x = 0))),
  (14, ab_nx 15 (ab_lit (.int 0))),
  (15, ab_zret 0 0),
  (16, ab_nx 17 (ab_lit (.int 0))),
  (17, ab_nx 18 (ab_istore 2)),
  (18, ab_nx 19 (ab_iload 2)),
  (19, ab_nx 22 (ab_lit (.int 434))),
  (22, ab_icmp 25 49 (fun x y => decide (y ≤ x))),
  (25, ab_nx 26 (ab_aload 0)),
  (26, ab_nx 29 (ab_getf 11 40)),
  (29, ab_nx 32 (ab_lit (.int 434))),
  (32, ab_nx 33 (ab_iload 1)),
  (33, ab_nx 34 (ab_bin (fun x y => x * y))),
  (34, ab_nx 35 (ab_iload 2)),
  (35, ab_nx 36 (ab_bin (fun x y => x + y))),
  (36, ab_nx 37 (ab_aload 0)),
  (37, ab_nx 40 (ab_getf 11 6)),
  (40, ab_nx 41 (ab_iload 2)),
  (41, ab_nx 42 (ab_ald 1)),
  (42, ab_nx 43 (ab_ast 1)),
  (43, ab_nx 46 (ab_iinc 2 1)),
  (46, ab_goto 18),
  (49, ab_nx 50 (ab_lit (.int 0))),
  (50, ab_nx 51 (ab_istore 2)),
  (51, ab_nx 52 (ab_iload 2)),
  (52, ab_nx 54 (ab_lit (.int 14))),
  (54, ab_icmp 57 80 (fun x y => decide (y ≤ x))),
  (57, ab_nx 58 (ab_aload 0)),
  (58, ab_nx 61 (ab_getf 11 41)),
  (61, ab_nx 63 (ab_lit (.int 14))),
  (63, ab_nx 64 (ab_iload 1)),
  (64, ab_nx 65 (ab_bin (fun x y => x * y))),
  (65, ab_nx 66 (ab_iload 2)),
  (66, ab_nx 67 (ab_bin (fun x y => x + y))),
  (67, ab_nx 68 (ab_aload 0)),
  (68, ab_nx 71 (ab_getf 11 9)),
  (71, ab_nx 72 (ab_iload 2)),
  (72, ab_nx 73 ab_lald),
  (73, ab_nx 74 ab_last),
  (74, ab_nx 77 (ab_iinc 2 1)),
  (77, ab_goto 51),
  (80, ab_nx 81 (ab_aload 0)),
  (81, ab_nx 84 (ab_getf 11 42)),
  (84, ab_nx 85 (ab_iload 1)),
  (85, ab_nx 86 (ab_lit (.int 1))),
  (86, ab_nx 87 (ab_ast 3)),
  (87, ab_nx 88 (ab_lit (.int 1))),
  (88, ab_zret 0 0)]
set_option maxRecDepth 100000 in
set_option maxHeartbeats 4000000 in
theorem M_X11_image {l : Launch} {b : ab_B} {D : va_G} {cA : Nat → ClassId} {f_X11_isIn : List Value → ab_H → Option ab_O} (h_X11_isIn : ab_M l b D ab_cl cA (ab_E0 b) yX11_isIn (Cond.code yX11_isIn cX11_isIn 3 (some .boolean) :: ab_G) ({ frames := 1, cells := 0, slots := 0, locals := 100 } : Room) f_X11_isIn) : ab_M l b D ab_cl cA (ab_E0 b) yX11_image (Cond.code yX11_image cX11_image 3 (some .boolean) :: ab_G) ({ frames := 2, cells := 0, slots := 0, locals := 200 } : Room) (ab_X (ab_T (L_X11_image f_X11_isIn)) 3) := by
  refine ab_meth (ret := (some .boolean)) (L_X11_image f_X11_isIn) (by decide) rfl fun p e R s m args below meth c o C => ?_
  unfold L_X11_image
  refine List.forall_mem_cons.mpr ⟨ok_aload_n C (show decode cX11_image 0 = .ok (.aload_n 0, 1) by decide +kernel) rfl rfl, ?_⟩
  refine List.forall_mem_cons.mpr ⟨ok_iconst C (show decode cX11_image 1 = .ok (.iconst 0, 1) by decide +kernel) (by decide) rfl, ?_⟩
  refine List.forall_mem_cons.mpr ⟨ok_putf C (wi_X11) tyX11 tyX11_ok nmX11 rfl (by decide) kw_1180 (Or.inl rfl) (Or.inl ⟨rfl, rfl⟩) (show decode cX11_image 2 = .ok (.putfield 1, 3) by decide +kernel) rfl, ?_⟩
  refine List.forall_mem_cons.mpr ⟨ok_iload_n C (show decode cX11_image 5 = .ok (.iload_n 1, 1) by decide +kernel) rfl rfl, ?_⟩
  refine List.forall_mem_cons.mpr ⟨ok_iconst C (show decode cX11_image 6 = .ok (.iconst 0, 1) by decide +kernel) (by decide) rfl, ?_⟩
  refine List.forall_mem_cons.mpr ⟨ok_iconst C (show decode cX11_image 7 = .ok (.iconst 1, 1) by decide +kernel) (by decide) rfl, ?_⟩
  refine List.forall_mem_cons.mpr ⟨ok_callS C h_X11_isIn ⟨rfl, rfl⟩ kw_1355 kw_1353 kw_1354 kw_11 ds_X11_isIn ⟨by decide, by decide⟩ (show decode cX11_image 8 = .ok (.invokestatic 179, 3) by decide +kernel) rfl, ?_⟩
  refine List.forall_mem_cons.mpr ⟨ok_ifne C (show decode cX11_image 11 = .ok (.ifCond .ne 5, 3) by decide +kernel) (tg := 16) (by decide) rfl rfl, ?_⟩
  refine List.forall_mem_cons.mpr ⟨ok_iconst C (show decode cX11_image 14 = .ok (.iconst 0, 1) by decide +kernel) (by decide) rfl, ?_⟩
  refine List.forall_mem_cons.mpr ⟨ok_zret C rfl (show decode cX11_image 15 = .ok (.ireturn, 1) by decide +kernel), ?_⟩
  refine List.forall_mem_cons.mpr ⟨ok_iconst C (show decode cX11_image 16 = .ok (.iconst 0, 1) by decide +kernel) (by decide) rfl, ?_⟩
  refine List.forall_mem_cons.mpr ⟨ok_istore_n C (show decode cX11_image 17 = .ok (.istore_n 2, 1) by decide +kernel) rfl (by decide) rfl, ?_⟩
  refine List.forall_mem_cons.mpr ⟨ok_iload_n C (show decode cX11_image 18 = .ok (.iload_n 2, 1) by decide +kernel) rfl rfl, ?_⟩
  refine List.forall_mem_cons.mpr ⟨ok_sipush C (show decode cX11_image 19 = .ok (.sipush 434, 3) by decide +kernel) (by decide) rfl, ?_⟩
  refine List.forall_mem_cons.mpr ⟨ok_icmpge C (show decode cX11_image 22 = .ok (.if_icmp .ge 27, 3) by decide +kernel) (tg := 49) (by decide) rfl rfl, ?_⟩
  refine List.forall_mem_cons.mpr ⟨ok_aload_n C (show decode cX11_image 25 = .ok (.aload_n 0, 1) by decide +kernel) rfl rfl, ?_⟩
  refine List.forall_mem_cons.mpr ⟨ok_getf C (wi_X11) rfl (by decide) kw_1220 (show decode cX11_image 26 = .ok (.getfield 78, 3) by decide +kernel) rfl, ?_⟩
  refine List.forall_mem_cons.mpr ⟨ok_sipush C (show decode cX11_image 29 = .ok (.sipush 434, 3) by decide +kernel) (by decide) rfl, ?_⟩
  refine List.forall_mem_cons.mpr ⟨ok_iload_n C (show decode cX11_image 32 = .ok (.iload_n 1, 1) by decide +kernel) rfl rfl, ?_⟩
  refine List.forall_mem_cons.mpr ⟨ok_imul C (show decode cX11_image 33 = .ok (.imul, 1) by decide +kernel) rfl, ?_⟩
  refine List.forall_mem_cons.mpr ⟨ok_iload_n C (show decode cX11_image 34 = .ok (.iload_n 2, 1) by decide +kernel) rfl rfl, ?_⟩
  refine List.forall_mem_cons.mpr ⟨ok_iadd C (show decode cX11_image 35 = .ok (.iadd, 1) by decide +kernel) rfl, ?_⟩
  refine List.forall_mem_cons.mpr ⟨ok_aload_n C (show decode cX11_image 36 = .ok (.aload_n 0, 1) by decide +kernel) rfl rfl, ?_⟩
  refine List.forall_mem_cons.mpr ⟨ok_getf C (wi_X11) rfl (by decide) kw_1186 (show decode cX11_image 37 = .ok (.getfield 33, 3) by decide +kernel) rfl, ?_⟩
  refine List.forall_mem_cons.mpr ⟨ok_iload_n C (show decode cX11_image 40 = .ok (.iload_n 2, 1) by decide +kernel) rfl rfl, ?_⟩
  refine List.forall_mem_cons.mpr ⟨ok_iaload C (show decode cX11_image 41 = .ok (.iaload, 1) by decide +kernel) rfl, ?_⟩
  refine List.forall_mem_cons.mpr ⟨ok_iastore C (show decode cX11_image 42 = .ok (.iastore, 1) by decide +kernel) rfl, ?_⟩
  refine List.forall_mem_cons.mpr ⟨ok_iinc C (show decode cX11_image 43 = .ok (.iinc 2 1, 3) by decide +kernel) (by decide) (by decide) rfl, ?_⟩
  refine List.forall_mem_cons.mpr ⟨ok_goto C (show decode cX11_image 46 = .ok (.goto (-28), 3) by decide +kernel) (tg := 18) (by decide) rfl, ?_⟩
  refine List.forall_mem_cons.mpr ⟨ok_iconst C (show decode cX11_image 49 = .ok (.iconst 0, 1) by decide +kernel) (by decide) rfl, ?_⟩
  refine List.forall_mem_cons.mpr ⟨ok_istore_n C (show decode cX11_image 50 = .ok (.istore_n 2, 1) by decide +kernel) rfl (by decide) rfl, ?_⟩
  refine List.forall_mem_cons.mpr ⟨ok_iload_n C (show decode cX11_image 51 = .ok (.iload_n 2, 1) by decide +kernel) rfl rfl, ?_⟩
  refine List.forall_mem_cons.mpr ⟨ok_bipush C (show decode cX11_image 52 = .ok (.bipush 14, 2) by decide +kernel) (by decide) rfl, ?_⟩
  refine List.forall_mem_cons.mpr ⟨ok_icmpge C (show decode cX11_image 54 = .ok (.if_icmp .ge 26, 3) by decide +kernel) (tg := 80) (by decide) rfl rfl, ?_⟩
  refine List.forall_mem_cons.mpr ⟨ok_aload_n C (show decode cX11_image 57 = .ok (.aload_n 0, 1) by decide +kernel) rfl rfl, ?_⟩
  refine List.forall_mem_cons.mpr ⟨ok_getf C (wi_X11) rfl (by decide) kw_1221 (show decode cX11_image 58 = .ok (.getfield 81, 3) by decide +kernel) rfl, ?_⟩
  refine List.forall_mem_cons.mpr ⟨ok_bipush C (show decode cX11_image 61 = .ok (.bipush 14, 2) by decide +kernel) (by decide) rfl, ?_⟩
  refine List.forall_mem_cons.mpr ⟨ok_iload_n C (show decode cX11_image 63 = .ok (.iload_n 1, 1) by decide +kernel) rfl rfl, ?_⟩
  refine List.forall_mem_cons.mpr ⟨ok_imul C (show decode cX11_image 64 = .ok (.imul, 1) by decide +kernel) rfl, ?_⟩
  refine List.forall_mem_cons.mpr ⟨ok_iload_n C (show decode cX11_image 65 = .ok (.iload_n 2, 1) by decide +kernel) rfl rfl, ?_⟩
  refine List.forall_mem_cons.mpr ⟨ok_iadd C (show decode cX11_image 66 = .ok (.iadd, 1) by decide +kernel) rfl, ?_⟩
  refine List.forall_mem_cons.mpr ⟨ok_aload_n C (show decode cX11_image 67 = .ok (.aload_n 0, 1) by decide +kernel) rfl rfl, ?_⟩
  refine List.forall_mem_cons.mpr ⟨ok_getf C (wi_X11) rfl (by decide) kw_1189 (show decode cX11_image 68 = .ok (.getfield 43, 3) by decide +kernel) rfl, ?_⟩
  refine List.forall_mem_cons.mpr ⟨ok_iload_n C (show decode cX11_image 71 = .ok (.iload_n 2, 1) by decide +kernel) rfl rfl, ?_⟩
  refine List.forall_mem_cons.mpr ⟨ok_laload C (show decode cX11_image 72 = .ok (.laload, 1) by decide +kernel) rfl, ?_⟩
  refine List.forall_mem_cons.mpr ⟨ok_lastore C (show decode cX11_image 73 = .ok (.lastore, 1) by decide +kernel) rfl, ?_⟩
  refine List.forall_mem_cons.mpr ⟨ok_iinc C (show decode cX11_image 74 = .ok (.iinc 2 1, 3) by decide +kernel) (by decide) (by decide) rfl, ?_⟩
  refine List.forall_mem_cons.mpr ⟨ok_goto C (show decode cX11_image 77 = .ok (.goto (-26), 3) by decide +kernel) (tg := 51) (by decide) rfl, ?_⟩
  refine List.forall_mem_cons.mpr ⟨ok_aload_n C (show decode cX11_image 80 = .ok (.aload_n 0, 1) by decide +kernel) rfl rfl, ?_⟩
  refine List.forall_mem_cons.mpr ⟨ok_getf C (wi_X11) rfl (by decide) kw_1222 (show decode cX11_image 81 = .ok (.getfield 84, 3) by decide +kernel) rfl, ?_⟩
  refine List.forall_mem_cons.mpr ⟨ok_iload_n C (show decode cX11_image 84 = .ok (.iload_n 1, 1) by decide +kernel) rfl rfl, ?_⟩
  refine List.forall_mem_cons.mpr ⟨ok_iconst C (show decode cX11_image 85 = .ok (.iconst 1, 1) by decide +kernel) (by decide) rfl, ?_⟩
  refine List.forall_mem_cons.mpr ⟨ok_zastore C (show decode cX11_image 86 = .ok (.bastore, 1) by decide +kernel) rfl, ?_⟩
  refine List.forall_mem_cons.mpr ⟨ok_iconst C (show decode cX11_image 87 = .ok (.iconst 1, 1) by decide +kernel) (by decide) rfl, ?_⟩
  refine List.forall_mem_cons.mpr ⟨ok_zret C rfl (show decode cX11_image 88 = .ok (.ireturn, 1) by decide +kernel), ?_⟩
  exact fun _ h => absurd h List.not_mem_nil
def L_X11_restore (f_X11_isIn : List Value → ab_H → Option ab_O) : List (Nat × ab_A) := [
  (0, ab_nx 1 (ab_aload 0)),
  (1, ab_nx 2 (ab_lit (.int 0))),
  (2, ab_nx 5 (ab_putf 11 0 0)),
  (5, ab_nx 6 (ab_iload 1)),
  (6, ab_nx 7 (ab_lit (.int 0))),
  (7, ab_nx 8 (ab_lit (.int 1))),
  (8, ab_nx 11 (ab_call 3 f_X11_isIn 0 0 0 0)),
  (11, ab_if 14 23 (fun x => decide (x = 0))),
  (14, ab_nx 15 (ab_aload 0)),
  (15, ab_nx 18 (ab_getf 11 42)),
  (18, ab_nx 19 (ab_iload 1)),
  (19, ab_nx 20 (ab_ald 3)),
  (20, ab_if 23 25 (fun x => !decide (x = 0))),
  (23, ab_nx 24 (ab_lit (.int 0))),
  (24, ab_zret 0 0),
  (25, ab_nx 26 (ab_lit (.int 0))),
  (26, ab_nx 27 (ab_istore 2)),
  (27, ab_nx 28 (ab_iload 2)),
  (28, ab_nx 31 (ab_lit (.int 434))),
  (31, ab_icmp 34 58 (fun x y => decide (y ≤ x))),
  (34, ab_nx 35 (ab_aload 0)),
  (35, ab_nx 38 (ab_getf 11 6)),
  (38, ab_nx 39 (ab_iload 2)),
  (39, ab_nx 40 (ab_aload 0)),
  (40, ab_nx 43 (ab_getf 11 40)),
  (43, ab_nx 46 (ab_lit (.int 434))),
  (46, ab_nx 47 (ab_iload 1)),
  (47, ab_nx 48 (ab_bin (fun x y => x * y))),
  (48, ab_nx 49 (ab_iload 2)),
  (49, ab_nx 50 (ab_bin (fun x y => x + y))),
  (50, ab_nx 51 (ab_ald 1)),
  (51, ab_nx 52 (ab_ast 1)),
  (52, ab_nx 55 (ab_iinc 2 1)),
  (55, ab_goto 27),
  (58, ab_nx 59 (ab_lit (.int 0))),
  (59, ab_nx 60 (ab_istore 2)),
  (60, ab_nx 61 (ab_iload 2)),
  (61, ab_nx 63 (ab_lit (.int 14))),
  (63, ab_icmp 66 89 (fun x y => decide (y ≤ x))),
  (66, ab_nx 67 (ab_aload 0)),
  (67, ab_nx 70 (ab_getf 11 9)),
  (70, ab_nx 71 (ab_iload 2)),
  (71, ab_nx 72 (ab_aload 0)),
  (72, ab_nx 75 (ab_getf 11 41)),
  (75, ab_nx 77 (ab_lit (.int 14))),
  (77, ab_nx 78 (ab_iload 1)),
  (78, ab_nx 79 (ab_bin (fun x y => x * y))),
  (79, ab_nx 80 (ab_iload 2)),
  (80, ab_nx 81 (ab_bin (fun x y => x + y))),
  (81, ab_nx 82 ab_lald),
  (82, ab_nx 83 ab_last),
  (83, ab_nx 86 (ab_iinc 2 1)),
  (86, ab_goto 60),
  (89, ab_nx 90 (ab_aload 0)),
  (90, ab_nx 91 (ab_lit (.int 0))),
  (91, ab_nx 94 (ab_putf 11 25 0)),
  (94, ab_nx 95 (ab_lit (.int 1))),
  (95, ab_zret 0 0)]
set_option maxRecDepth 100000 in
set_option maxHeartbeats 4000000 in
theorem M_X11_restore {l : Launch} {b : ab_B} {D : va_G} {cA : Nat → ClassId} {f_X11_isIn : List Value → ab_H → Option ab_O} (h_X11_isIn : ab_M l b D ab_cl cA (ab_E0 b) yX11_isIn (Cond.code yX11_isIn cX11_isIn 3 (some .boolean) :: ab_G) ({ frames := 1, cells := 0, slots := 0, locals := 100 } : Room) f_X11_isIn) : ab_M l b D ab_cl cA (ab_E0 b) yX11_restore (Cond.code yX11_restore cX11_restore 3 (some .boolean) :: ab_G) ({ frames := 2, cells := 0, slots := 0, locals := 200 } : Room) (ab_X (ab_T (L_X11_restore f_X11_isIn)) 3) := by
  refine ab_meth (ret := (some .boolean)) (L_X11_restore f_X11_isIn) (by decide) rfl fun p e R s m args below meth c o C => ?_
  unfold L_X11_restore
  refine List.forall_mem_cons.mpr ⟨ok_aload_n C (show decode cX11_restore 0 = .ok (.aload_n 0, 1) by decide +kernel) rfl rfl, ?_⟩
  refine List.forall_mem_cons.mpr ⟨ok_iconst C (show decode cX11_restore 1 = .ok (.iconst 0, 1) by decide +kernel) (by decide) rfl, ?_⟩
  refine List.forall_mem_cons.mpr ⟨ok_putf C (wi_X11) tyX11 tyX11_ok nmX11 rfl (by decide) kw_1180 (Or.inl rfl) (Or.inl ⟨rfl, rfl⟩) (show decode cX11_restore 2 = .ok (.putfield 1, 3) by decide +kernel) rfl, ?_⟩
  refine List.forall_mem_cons.mpr ⟨ok_iload_n C (show decode cX11_restore 5 = .ok (.iload_n 1, 1) by decide +kernel) rfl rfl, ?_⟩
  refine List.forall_mem_cons.mpr ⟨ok_iconst C (show decode cX11_restore 6 = .ok (.iconst 0, 1) by decide +kernel) (by decide) rfl, ?_⟩
  refine List.forall_mem_cons.mpr ⟨ok_iconst C (show decode cX11_restore 7 = .ok (.iconst 1, 1) by decide +kernel) (by decide) rfl, ?_⟩
  refine List.forall_mem_cons.mpr ⟨ok_callS C h_X11_isIn ⟨rfl, rfl⟩ kw_1355 kw_1353 kw_1354 kw_11 ds_X11_isIn ⟨by decide, by decide⟩ (show decode cX11_restore 8 = .ok (.invokestatic 179, 3) by decide +kernel) rfl, ?_⟩
  refine List.forall_mem_cons.mpr ⟨ok_ifeq C (show decode cX11_restore 11 = .ok (.ifCond .eq 12, 3) by decide +kernel) (tg := 23) (by decide) rfl rfl, ?_⟩
  refine List.forall_mem_cons.mpr ⟨ok_aload_n C (show decode cX11_restore 14 = .ok (.aload_n 0, 1) by decide +kernel) rfl rfl, ?_⟩
  refine List.forall_mem_cons.mpr ⟨ok_getf C (wi_X11) rfl (by decide) kw_1222 (show decode cX11_restore 15 = .ok (.getfield 84, 3) by decide +kernel) rfl, ?_⟩
  refine List.forall_mem_cons.mpr ⟨ok_iload_n C (show decode cX11_restore 18 = .ok (.iload_n 1, 1) by decide +kernel) rfl rfl, ?_⟩
  refine List.forall_mem_cons.mpr ⟨ok_zaload C (show decode cX11_restore 19 = .ok (.baload, 1) by decide +kernel) rfl, ?_⟩
  refine List.forall_mem_cons.mpr ⟨ok_ifne C (show decode cX11_restore 20 = .ok (.ifCond .ne 5, 3) by decide +kernel) (tg := 25) (by decide) rfl rfl, ?_⟩
  refine List.forall_mem_cons.mpr ⟨ok_iconst C (show decode cX11_restore 23 = .ok (.iconst 0, 1) by decide +kernel) (by decide) rfl, ?_⟩
  refine List.forall_mem_cons.mpr ⟨ok_zret C rfl (show decode cX11_restore 24 = .ok (.ireturn, 1) by decide +kernel), ?_⟩
  refine List.forall_mem_cons.mpr ⟨ok_iconst C (show decode cX11_restore 25 = .ok (.iconst 0, 1) by decide +kernel) (by decide) rfl, ?_⟩
  refine List.forall_mem_cons.mpr ⟨ok_istore_n C (show decode cX11_restore 26 = .ok (.istore_n 2, 1) by decide +kernel) rfl (by decide) rfl, ?_⟩
  refine List.forall_mem_cons.mpr ⟨ok_iload_n C (show decode cX11_restore 27 = .ok (.iload_n 2, 1) by decide +kernel) rfl rfl, ?_⟩
  refine List.forall_mem_cons.mpr ⟨ok_sipush C (show decode cX11_restore 28 = .ok (.sipush 434, 3) by decide +kernel) (by decide) rfl, ?_⟩
  refine List.forall_mem_cons.mpr ⟨ok_icmpge C (show decode cX11_restore 31 = .ok (.if_icmp .ge 27, 3) by decide +kernel) (tg := 58) (by decide) rfl rfl, ?_⟩
  refine List.forall_mem_cons.mpr ⟨ok_aload_n C (show decode cX11_restore 34 = .ok (.aload_n 0, 1) by decide +kernel) rfl rfl, ?_⟩
  refine List.forall_mem_cons.mpr ⟨ok_getf C (wi_X11) rfl (by decide) kw_1186 (show decode cX11_restore 35 = .ok (.getfield 33, 3) by decide +kernel) rfl, ?_⟩
  refine List.forall_mem_cons.mpr ⟨ok_iload_n C (show decode cX11_restore 38 = .ok (.iload_n 2, 1) by decide +kernel) rfl rfl, ?_⟩
  refine List.forall_mem_cons.mpr ⟨ok_aload_n C (show decode cX11_restore 39 = .ok (.aload_n 0, 1) by decide +kernel) rfl rfl, ?_⟩
  refine List.forall_mem_cons.mpr ⟨ok_getf C (wi_X11) rfl (by decide) kw_1220 (show decode cX11_restore 40 = .ok (.getfield 78, 3) by decide +kernel) rfl, ?_⟩
  refine List.forall_mem_cons.mpr ⟨ok_sipush C (show decode cX11_restore 43 = .ok (.sipush 434, 3) by decide +kernel) (by decide) rfl, ?_⟩
  refine List.forall_mem_cons.mpr ⟨ok_iload_n C (show decode cX11_restore 46 = .ok (.iload_n 1, 1) by decide +kernel) rfl rfl, ?_⟩
  refine List.forall_mem_cons.mpr ⟨ok_imul C (show decode cX11_restore 47 = .ok (.imul, 1) by decide +kernel) rfl, ?_⟩
  refine List.forall_mem_cons.mpr ⟨ok_iload_n C (show decode cX11_restore 48 = .ok (.iload_n 2, 1) by decide +kernel) rfl rfl, ?_⟩
  refine List.forall_mem_cons.mpr ⟨ok_iadd C (show decode cX11_restore 49 = .ok (.iadd, 1) by decide +kernel) rfl, ?_⟩
  refine List.forall_mem_cons.mpr ⟨ok_iaload C (show decode cX11_restore 50 = .ok (.iaload, 1) by decide +kernel) rfl, ?_⟩
  refine List.forall_mem_cons.mpr ⟨ok_iastore C (show decode cX11_restore 51 = .ok (.iastore, 1) by decide +kernel) rfl, ?_⟩
  refine List.forall_mem_cons.mpr ⟨ok_iinc C (show decode cX11_restore 52 = .ok (.iinc 2 1, 3) by decide +kernel) (by decide) (by decide) rfl, ?_⟩
  refine List.forall_mem_cons.mpr ⟨ok_goto C (show decode cX11_restore 55 = .ok (.goto (-28), 3) by decide +kernel) (tg := 27) (by decide) rfl, ?_⟩
  refine List.forall_mem_cons.mpr ⟨ok_iconst C (show decode cX11_restore 58 = .ok (.iconst 0, 1) by decide +kernel) (by decide) rfl, ?_⟩
  refine List.forall_mem_cons.mpr ⟨ok_istore_n C (show decode cX11_restore 59 = .ok (.istore_n 2, 1) by decide +kernel) rfl (by decide) rfl, ?_⟩
  refine List.forall_mem_cons.mpr ⟨ok_iload_n C (show decode cX11_restore 60 = .ok (.iload_n 2, 1) by decide +kernel) rfl rfl, ?_⟩
  refine List.forall_mem_cons.mpr ⟨ok_bipush C (show decode cX11_restore 61 = .ok (.bipush 14, 2) by decide +kernel) (by decide) rfl, ?_⟩
  refine List.forall_mem_cons.mpr ⟨ok_icmpge C (show decode cX11_restore 63 = .ok (.if_icmp .ge 26, 3) by decide +kernel) (tg := 89) (by decide) rfl rfl, ?_⟩
  refine List.forall_mem_cons.mpr ⟨ok_aload_n C (show decode cX11_restore 66 = .ok (.aload_n 0, 1) by decide +kernel) rfl rfl, ?_⟩
  refine List.forall_mem_cons.mpr ⟨ok_getf C (wi_X11) rfl (by decide) kw_1189 (show decode cX11_restore 67 = .ok (.getfield 43, 3) by decide +kernel) rfl, ?_⟩
  refine List.forall_mem_cons.mpr ⟨ok_iload_n C (show decode cX11_restore 70 = .ok (.iload_n 2, 1) by decide +kernel) rfl rfl, ?_⟩
  refine List.forall_mem_cons.mpr ⟨ok_aload_n C (show decode cX11_restore 71 = .ok (.aload_n 0, 1) by decide +kernel) rfl rfl, ?_⟩
  refine List.forall_mem_cons.mpr ⟨ok_getf C (wi_X11) rfl (by decide) kw_1221 (show decode cX11_restore 72 = .ok (.getfield 81, 3) by decide +kernel) rfl, ?_⟩
  refine List.forall_mem_cons.mpr ⟨ok_bipush C (show decode cX11_restore 75 = .ok (.bipush 14, 2) by decide +kernel) (by decide) rfl, ?_⟩
  refine List.forall_mem_cons.mpr ⟨ok_iload_n C (show decode cX11_restore 77 = .ok (.iload_n 1, 1) by decide +kernel) rfl rfl, ?_⟩
  refine List.forall_mem_cons.mpr ⟨ok_imul C (show decode cX11_restore 78 = .ok (.imul, 1) by decide +kernel) rfl, ?_⟩
  refine List.forall_mem_cons.mpr ⟨ok_iload_n C (show decode cX11_restore 79 = .ok (.iload_n 2, 1) by decide +kernel) rfl rfl, ?_⟩
  refine List.forall_mem_cons.mpr ⟨ok_iadd C (show decode cX11_restore 80 = .ok (.iadd, 1) by decide +kernel) rfl, ?_⟩
  refine List.forall_mem_cons.mpr ⟨ok_laload C (show decode cX11_restore 81 = .ok (.laload, 1) by decide +kernel) rfl, ?_⟩
  refine List.forall_mem_cons.mpr ⟨ok_lastore C (show decode cX11_restore 82 = .ok (.lastore, 1) by decide +kernel) rfl, ?_⟩
  refine List.forall_mem_cons.mpr ⟨ok_iinc C (show decode cX11_restore 83 = .ok (.iinc 2 1, 3) by decide +kernel) (by decide) (by decide) rfl, ?_⟩
  refine List.forall_mem_cons.mpr ⟨ok_goto C (show decode cX11_restore 86 = .ok (.goto (-26), 3) by decide +kernel) (tg := 60) (by decide) rfl, ?_⟩
  refine List.forall_mem_cons.mpr ⟨ok_aload_n C (show decode cX11_restore 89 = .ok (.aload_n 0, 1) by decide +kernel) rfl rfl, ?_⟩
  refine List.forall_mem_cons.mpr ⟨ok_iconst C (show decode cX11_restore 90 = .ok (.iconst 0, 1) by decide +kernel) (by decide) rfl, ?_⟩
  refine List.forall_mem_cons.mpr ⟨ok_putf C (wi_X11) tyX11 tyX11_ok nmX11 rfl (by decide) kw_1205 (Or.inl rfl) (Or.inl ⟨rfl, rfl⟩) (show decode cX11_restore 91 = .ok (.putfield 236, 3) by decide +kernel) rfl, ?_⟩
  refine List.forall_mem_cons.mpr ⟨ok_iconst C (show decode cX11_restore 94 = .ok (.iconst 1, 1) by decide +kernel) (by decide) rfl, ?_⟩
  refine List.forall_mem_cons.mpr ⟨ok_zret C rfl (show decode cX11_restore 95 = .ok (.ireturn, 1) by decide +kernel), ?_⟩
  exact fun _ h => absurd h List.not_mem_nil
def L_X11_count (f_X11_isIn : List Value → ab_H → Option ab_O) : List (Nat × ab_A) := [
  (0, ab_nx 1 (ab_aload 0)),
  (1, ab_nx 2 (ab_lit (.int 0))),
  (2, ab_nx 5 (ab_putf 11 0 0)),
  (5, ab_nx 6 (ab_iload 1)),
  (6, ab_nx 7 (ab_lit (.int 4))),
  (7, ab_icmp 10 17 (fun x y => !decide (x = y))),
  (10, ab_nx 11 (ab_aload 0)),
  (11, ab_nx 14 (ab_getf 11 2)),
  (14, ab_goto 36),
  (17, ab_nx 18 (ab_iload 1)),
  (18, ab_nx 19 (ab_lit (.int 0))),
  (19, ab_nx 20 (ab_lit (.int 3))),
  (20, ab_nx 23 (ab_call 3 f_X11_isIn 0 0 0 0)),
  (23, ab_if 26 35 (fun x => decide (x = 0))),
  (26, ab_nx 27 (ab_aload 0)),
  (27, ab_nx 30 (ab_getf 11 6)),
  (30, ab_nx 31 (ab_iload 1)),
  (31, ab_nx 32 (ab_ald 1)),
  (32, ab_goto 36),
  (35, ab_nx 36 (ab_lit (.int (-1)))),
  (36, ab_ret 0 0)]
set_option maxRecDepth 100000 in
set_option maxHeartbeats 4000000 in
theorem M_X11_count {l : Launch} {b : ab_B} {D : va_G} {cA : Nat → ClassId} {f_X11_isIn : List Value → ab_H → Option ab_O} (h_X11_isIn : ab_M l b D ab_cl cA (ab_E0 b) yX11_isIn (Cond.code yX11_isIn cX11_isIn 3 (some .boolean) :: ab_G) ({ frames := 1, cells := 0, slots := 0, locals := 100 } : Room) f_X11_isIn) : ab_M l b D ab_cl cA (ab_E0 b) yX11_count (Cond.code yX11_count cX11_count 2 (some .int) :: ab_G) ({ frames := 2, cells := 0, slots := 0, locals := 200 } : Room) (ab_X (ab_T (L_X11_count f_X11_isIn)) 2) := by
  refine ab_meth (ret := (some .int)) (L_X11_count f_X11_isIn) (by decide) rfl fun p e R s m args below meth c o C => ?_
  unfold L_X11_count
  refine List.forall_mem_cons.mpr ⟨ok_aload_n C (show decode cX11_count 0 = .ok (.aload_n 0, 1) by decide +kernel) rfl rfl, ?_⟩
  refine List.forall_mem_cons.mpr ⟨ok_iconst C (show decode cX11_count 1 = .ok (.iconst 0, 1) by decide +kernel) (by decide) rfl, ?_⟩
  refine List.forall_mem_cons.mpr ⟨ok_putf C (wi_X11) tyX11 tyX11_ok nmX11 rfl (by decide) kw_1180 (Or.inl rfl) (Or.inl ⟨rfl, rfl⟩) (show decode cX11_count 2 = .ok (.putfield 1, 3) by decide +kernel) rfl, ?_⟩
  refine List.forall_mem_cons.mpr ⟨ok_iload_n C (show decode cX11_count 5 = .ok (.iload_n 1, 1) by decide +kernel) rfl rfl, ?_⟩
  refine List.forall_mem_cons.mpr ⟨ok_iconst C (show decode cX11_count 6 = .ok (.iconst 4, 1) by decide +kernel) (by decide) rfl, ?_⟩
  refine List.forall_mem_cons.mpr ⟨ok_icmpne C (show decode cX11_count 7 = .ok (.if_icmp .ne 10, 3) by decide +kernel) (tg := 17) (by decide) rfl rfl, ?_⟩
  refine List.forall_mem_cons.mpr ⟨ok_aload_n C (show decode cX11_count 10 = .ok (.aload_n 0, 1) by decide +kernel) rfl rfl, ?_⟩
  refine List.forall_mem_cons.mpr ⟨ok_getf C (wi_X11) rfl (by decide) kw_1182 (show decode cX11_count 11 = .ok (.getfield 7, 3) by decide +kernel) rfl, ?_⟩
  refine List.forall_mem_cons.mpr ⟨ok_goto C (show decode cX11_count 14 = .ok (.goto 22, 3) by decide +kernel) (tg := 36) (by decide) rfl, ?_⟩
  refine List.forall_mem_cons.mpr ⟨ok_iload_n C (show decode cX11_count 17 = .ok (.iload_n 1, 1) by decide +kernel) rfl rfl, ?_⟩
  refine List.forall_mem_cons.mpr ⟨ok_iconst C (show decode cX11_count 18 = .ok (.iconst 0, 1) by decide +kernel) (by decide) rfl, ?_⟩
  refine List.forall_mem_cons.mpr ⟨ok_iconst C (show decode cX11_count 19 = .ok (.iconst 3, 1) by decide +kernel) (by decide) rfl, ?_⟩
  refine List.forall_mem_cons.mpr ⟨ok_callS C h_X11_isIn ⟨rfl, rfl⟩ kw_1355 kw_1353 kw_1354 kw_11 ds_X11_isIn ⟨by decide, by decide⟩ (show decode cX11_count 20 = .ok (.invokestatic 179, 3) by decide +kernel) rfl, ?_⟩
  refine List.forall_mem_cons.mpr ⟨ok_ifeq C (show decode cX11_count 23 = .ok (.ifCond .eq 12, 3) by decide +kernel) (tg := 35) (by decide) rfl rfl, ?_⟩
  refine List.forall_mem_cons.mpr ⟨ok_aload_n C (show decode cX11_count 26 = .ok (.aload_n 0, 1) by decide +kernel) rfl rfl, ?_⟩
  refine List.forall_mem_cons.mpr ⟨ok_getf C (wi_X11) rfl (by decide) kw_1186 (show decode cX11_count 27 = .ok (.getfield 33, 3) by decide +kernel) rfl, ?_⟩
  refine List.forall_mem_cons.mpr ⟨ok_iload_n C (show decode cX11_count 30 = .ok (.iload_n 1, 1) by decide +kernel) rfl rfl, ?_⟩
  refine List.forall_mem_cons.mpr ⟨ok_iaload C (show decode cX11_count 31 = .ok (.iaload, 1) by decide +kernel) rfl, ?_⟩
  refine List.forall_mem_cons.mpr ⟨ok_goto C (show decode cX11_count 32 = .ok (.goto 4, 3) by decide +kernel) (tg := 36) (by decide) rfl, ?_⟩
  refine List.forall_mem_cons.mpr ⟨ok_iconst C (show decode cX11_count 35 = .ok (.iconst (-1), 1) by decide +kernel) (by decide) rfl, ?_⟩
  refine List.forall_mem_cons.mpr ⟨ok_ret C rfl (show decode cX11_count 36 = .ok (.ireturn, 1) by decide +kernel), ?_⟩
  exact fun _ h => absurd h List.not_mem_nil
