def L_X5_holdsOf (f_X5_isSo : List Value → ab_H → Option ab_O) : List (Nat × ab_A) := [
  (0, ab_nx 1 (ab_lit (.int 0))),
  (1, ab_nx 3 (ab_istore 4)),
  (3, ab_nx 4 (ab_lit (.int 0))),
  (4, ab_nx 6 (ab_istore 5)),
  (6, ab_nx 8 (ab_iload 5)),
  (8, ab_nx 9 (ab_aload 0)),
  (9, ab_nx 12 (ab_getf 5 3)),
  (12, ab_icmp 15 133 (fun x y => decide (y ≤ x))),
  (15, ab_nx 17 (ab_iload 4)),
  (17, ab_nx 18 (ab_lit (.int 1))),
  (18, ab_nx 19 (ab_bin (fun x y => x &&& y))),
  (19, ab_nx 21 (ab_istore 6)),
  (21, ab_nx 22 (ab_aload 0)),
  (22, ab_nx 25 (ab_getf 5 0)),
  (25, ab_nx 27 (ab_iload 5)),
  (27, ab_nx 28 (ab_ald 1)),
  (28, ab_nx 30 (ab_lit (.int 79))),
  (30, ab_icmp 33 42 (fun x y => !decide (x = y))),
  (33, ab_nx 35 (ab_iload 4)),
  (35, ab_nx 36 (ab_lit (.int 1))),
  (36, ab_nx 37 (ab_bin (fun x y => x ^^^ y))),
  (37, ab_nx 39 (ab_istore 4)),
  (39, ab_goto 127),
  (42, ab_nx 43 (ab_aload 0)),
  (43, ab_nx 46 (ab_getf 5 0)),
  (46, ab_nx 48 (ab_iload 5)),
  (48, ab_nx 49 (ab_ald 1)),
  (49, ab_nx 51 (ab_lit (.int 78))),
  (51, ab_icmp 54 79 (fun x y => !decide (x = y))),
  (54, ab_nx 56 (ab_iload 6)),
  (56, ab_nx 57 (ab_lit (.int 1))),
  (57, ab_icmp 60 67 (fun x y => !decide (x = y))),
  (60, ab_nx 62 (ab_iload 4)),
  (62, ab_nx 63 (ab_lit (.int 1))),
  (63, ab_nx 64 (ab_bin (fun x y => x >>> (y &&& 31)))),
  (64, ab_goto 74),
  (67, ab_nx 69 (ab_iload 4)),
  (69, ab_nx 70 (ab_lit (.int 1))),
  (70, ab_nx 71 (ab_bin (fun x y => x >>> (y &&& 31)))),
  (71, ab_nx 73 (ab_lit (.int (-2)))),
  (73, ab_nx 74 (ab_bin (fun x y => x &&& y))),
  (74, ab_nx 76 (ab_istore 4)),
  (76, ab_goto 127),
  (79, ab_nx 80 (ab_aload 0)),
  (80, ab_nx 83 (ab_getf 5 0)),
  (83, ab_nx 85 (ab_iload 5)),
  (85, ab_nx 86 (ab_ald 1)),
  (86, ab_nx 88 (ab_lit (.int 77))),
  (88, ab_icmp 91 103 (fun x y => !decide (x = y))),
  (91, ab_nx 93 (ab_iload 4)),
  (93, ab_nx 94 (ab_lit (.int 1))),
  (94, ab_nx 95 (ab_bin (fun x y => x >>> (y &&& 31)))),
  (95, ab_nx 97 (ab_iload 6)),
  (97, ab_nx 98 (ab_bin (fun x y => x ||| y))),
  (98, ab_nx 100 (ab_istore 4)),
  (100, ab_goto 127),
  (103, ab_nx 105 (ab_iload 4)),
  (105, ab_nx 106 (ab_lit (.int 1))),
  (106, ab_nx 107 (ab_bin (fun x y => x <<< (y &&& 31)))),
  (107, ab_nx 108 (ab_aload 0)),
  (108, ab_nx 110 (ab_iload 5)),
  (110, ab_nx 111 (ab_iload 1)),
  (111, ab_nx 112 (ab_aload 2)),
  (112, ab_nx 113 (ab_aload 3)),
  (113, ab_nx 116 (ab_callV 5 5 f_X5_isSo 0 0 0 0)),
  (116, ab_if 119 123 (fun x => decide (x = 0))),
  (119, ab_nx 120 (ab_lit (.int 1))),
  (120, ab_goto 124),
  (123, ab_nx 124 (ab_lit (.int 0))),
  (124, ab_nx 125 (ab_bin (fun x y => x ||| y))),
  (125, ab_nx 127 (ab_istore 4)),
  (127, ab_nx 130 (ab_iinc 5 1)),
  (130, ab_goto 6),
  (133, ab_nx 135 (ab_iload 4)),
  (135, ab_nx 136 (ab_lit (.int 1))),
  (136, ab_nx 137 (ab_bin (fun x y => x &&& y))),
  (137, ab_nx 138 (ab_lit (.int 1))),
  (138, ab_icmp 141 145 (fun x y => !decide (x = y))),
  (141, ab_nx 142 (ab_lit (.int 1))),
  (142, ab_goto 146),
  (145, ab_nx 146 (ab_lit (.int 0))),
  (146, ab_zret 0 0)]
set_option maxRecDepth 100000 in
set_option maxHeartbeats 4000000 in
theorem M_X5_holdsOf {l : Launch} {b : ab_B} {D : va_G} {cA : Nat → ClassId} {f_X5_isSo : List Value → ab_H → Option ab_O} (h_X5_isSo : ab_M l b D ab_cl cA (ab_E0 b) yX5_isSo (Cond.code yX5_isSo cX5_isSo 5 (some .boolean) :: ab_G) ({ frames := 4, cells := 0, slots := 0, locals := 400 } : Room) f_X5_isSo) : ab_M l b D ab_cl cA (ab_E0 b) yX5_holdsOf (Cond.code yX5_holdsOf cX5_holdsOf 7 (some .boolean) :: ab_G) ({ frames := 5, cells := 0, slots := 0, locals := 500 } : Room) (ab_X (ab_T (L_X5_holdsOf f_X5_isSo)) 7) := by
  refine ab_meth (ret := (some .boolean)) (L_X5_holdsOf f_X5_isSo) (by decide) rfl fun p e R s m args below meth c o C => ?_
  unfold L_X5_holdsOf
  refine List.forall_mem_cons.mpr ⟨ok_iconst C (show decode cX5_holdsOf 0 = .ok (.iconst 0, 1) by decide +kernel) (by decide) rfl, ?_⟩
  refine List.forall_mem_cons.mpr ⟨ok_istore C (show decode cX5_holdsOf 1 = .ok (.istore 4, 2) by decide +kernel) (by decide) rfl, ?_⟩
  refine List.forall_mem_cons.mpr ⟨ok_iconst C (show decode cX5_holdsOf 3 = .ok (.iconst 0, 1) by decide +kernel) (by decide) rfl, ?_⟩
  refine List.forall_mem_cons.mpr ⟨ok_istore C (show decode cX5_holdsOf 4 = .ok (.istore 5, 2) by decide +kernel) (by decide) rfl, ?_⟩
  refine List.forall_mem_cons.mpr ⟨ok_iload C (show decode cX5_holdsOf 6 = .ok (.iload 5, 2) by decide +kernel) rfl, ?_⟩
  refine List.forall_mem_cons.mpr ⟨ok_aload_n C (show decode cX5_holdsOf 8 = .ok (.aload_n 0, 1) by decide +kernel) rfl rfl, ?_⟩
  refine List.forall_mem_cons.mpr ⟨ok_getf C (wi_X5) rfl (by decide) kw_297 (show decode cX5_holdsOf 9 = .ok (.getfield 27, 3) by decide +kernel) rfl, ?_⟩
  refine List.forall_mem_cons.mpr ⟨ok_icmpge C (show decode cX5_holdsOf 12 = .ok (.if_icmp .ge 121, 3) by decide +kernel) (tg := 133) (by decide) rfl rfl, ?_⟩
  refine List.forall_mem_cons.mpr ⟨ok_iload C (show decode cX5_holdsOf 15 = .ok (.iload 4, 2) by decide +kernel) rfl, ?_⟩
  refine List.forall_mem_cons.mpr ⟨ok_iconst C (show decode cX5_holdsOf 17 = .ok (.iconst 1, 1) by decide +kernel) (by decide) rfl, ?_⟩
  refine List.forall_mem_cons.mpr ⟨ok_iand C (show decode cX5_holdsOf 18 = .ok (.iand, 1) by decide +kernel) rfl, ?_⟩
  refine List.forall_mem_cons.mpr ⟨ok_istore C (show decode cX5_holdsOf 19 = .ok (.istore 6, 2) by decide +kernel) (by decide) rfl, ?_⟩
  refine List.forall_mem_cons.mpr ⟨ok_aload_n C (show decode cX5_holdsOf 21 = .ok (.aload_n 0, 1) by decide +kernel) rfl rfl, ?_⟩
  refine List.forall_mem_cons.mpr ⟨ok_getf C (wi_X5) rfl (by decide) kw_294 (show decode cX5_holdsOf 22 = .ok (.getfield 11, 3) by decide +kernel) rfl, ?_⟩
  refine List.forall_mem_cons.mpr ⟨ok_iload C (show decode cX5_holdsOf 25 = .ok (.iload 5, 2) by decide +kernel) rfl, ?_⟩
  refine List.forall_mem_cons.mpr ⟨ok_iaload C (show decode cX5_holdsOf 27 = .ok (.iaload, 1) by decide +kernel) rfl, ?_⟩
  refine List.forall_mem_cons.mpr ⟨ok_bipush C (show decode cX5_holdsOf 28 = .ok (.bipush 79, 2) by decide +kernel) (by decide) rfl, ?_⟩
  refine List.forall_mem_cons.mpr ⟨ok_icmpne C (show decode cX5_holdsOf 30 = .ok (.if_icmp .ne 12, 3) by decide +kernel) (tg := 42) (by decide) rfl rfl, ?_⟩
  refine List.forall_mem_cons.mpr ⟨ok_iload C (show decode cX5_holdsOf 33 = .ok (.iload 4, 2) by decide +kernel) rfl, ?_⟩
  refine List.forall_mem_cons.mpr ⟨ok_iconst C (show decode cX5_holdsOf 35 = .ok (.iconst 1, 1) by decide +kernel) (by decide) rfl, ?_⟩
  refine List.forall_mem_cons.mpr ⟨ok_ixor C (show decode cX5_holdsOf 36 = .ok (.ixor, 1) by decide +kernel) rfl, ?_⟩
  refine List.forall_mem_cons.mpr ⟨ok_istore C (show decode cX5_holdsOf 37 = .ok (.istore 4, 2) by decide +kernel) (by decide) rfl, ?_⟩
  refine List.forall_mem_cons.mpr ⟨ok_goto C (show decode cX5_holdsOf 39 = .ok (.goto 88, 3) by decide +kernel) (tg := 127) (by decide) rfl, ?_⟩
  refine List.forall_mem_cons.mpr ⟨ok_aload_n C (show decode cX5_holdsOf 42 = .ok (.aload_n 0, 1) by decide +kernel) rfl rfl, ?_⟩
  refine List.forall_mem_cons.mpr ⟨ok_getf C (wi_X5) rfl (by decide) kw_294 (show decode cX5_holdsOf 43 = .ok (.getfield 11, 3) by decide +kernel) rfl, ?_⟩
  refine List.forall_mem_cons.mpr ⟨ok_iload C (show decode cX5_holdsOf 46 = .ok (.iload 5, 2) by decide +kernel) rfl, ?_⟩
  refine List.forall_mem_cons.mpr ⟨ok_iaload C (show decode cX5_holdsOf 48 = .ok (.iaload, 1) by decide +kernel) rfl, ?_⟩
  refine List.forall_mem_cons.mpr ⟨ok_bipush C (show decode cX5_holdsOf 49 = .ok (.bipush 78, 2) by decide +kernel) (by decide) rfl, ?_⟩
  refine List.forall_mem_cons.mpr ⟨ok_icmpne C (show decode cX5_holdsOf 51 = .ok (.if_icmp .ne 28, 3) by decide +kernel) (tg := 79) (by decide) rfl rfl, ?_⟩
  refine List.forall_mem_cons.mpr ⟨ok_iload C (show decode cX5_holdsOf 54 = .ok (.iload 6, 2) by decide +kernel) rfl, ?_⟩
  refine List.forall_mem_cons.mpr ⟨ok_iconst C (show decode cX5_holdsOf 56 = .ok (.iconst 1, 1) by decide +kernel) (by decide) rfl, ?_⟩
  refine List.forall_mem_cons.mpr ⟨ok_icmpne C (show decode cX5_holdsOf 57 = .ok (.if_icmp .ne 10, 3) by decide +kernel) (tg := 67) (by decide) rfl rfl, ?_⟩
  refine List.forall_mem_cons.mpr ⟨ok_iload C (show decode cX5_holdsOf 60 = .ok (.iload 4, 2) by decide +kernel) rfl, ?_⟩
  refine List.forall_mem_cons.mpr ⟨ok_iconst C (show decode cX5_holdsOf 62 = .ok (.iconst 1, 1) by decide +kernel) (by decide) rfl, ?_⟩
  refine List.forall_mem_cons.mpr ⟨ok_ishr C (show decode cX5_holdsOf 63 = .ok (.ishr, 1) by decide +kernel) rfl, ?_⟩
  refine List.forall_mem_cons.mpr ⟨ok_goto C (show decode cX5_holdsOf 64 = .ok (.goto 10, 3) by decide +kernel) (tg := 74) (by decide) rfl, ?_⟩
  refine List.forall_mem_cons.mpr ⟨ok_iload C (show decode cX5_holdsOf 67 = .ok (.iload 4, 2) by decide +kernel) rfl, ?_⟩
  refine List.forall_mem_cons.mpr ⟨ok_iconst C (show decode cX5_holdsOf 69 = .ok (.iconst 1, 1) by decide +kernel) (by decide) rfl, ?_⟩
  refine List.forall_mem_cons.mpr ⟨ok_ishr C (show decode cX5_holdsOf 70 = .ok (.ishr, 1) by decide +kernel) rfl, ?_⟩
  refine List.forall_mem_cons.mpr ⟨ok_bipush C (show decode cX5_holdsOf 71 = .ok (.bipush (-2), 2) by decide +kernel) (by decide) rfl, ?_⟩
  refine List.forall_mem_cons.mpr ⟨ok_iand C (show decode cX5_holdsOf 73 = .ok (.iand, 1) by decide +kernel) rfl, ?_⟩
  refine List.forall_mem_cons.mpr ⟨ok_istore C (show decode cX5_holdsOf 74 = .ok (.istore 4, 2) by decide +kernel) (by decide) rfl, ?_⟩
  refine List.forall_mem_cons.mpr ⟨ok_goto C (show decode cX5_holdsOf 76 = .ok (.goto 51, 3) by decide +kernel) (tg := 127) (by decide) rfl, ?_⟩
  refine List.forall_mem_cons.mpr ⟨ok_aload_n C (show decode cX5_holdsOf 79 = .ok (.aload_n 0, 1) by decide +kernel) rfl rfl, ?_⟩
  refine List.forall_mem_cons.mpr ⟨ok_getf C (wi_X5) rfl (by decide) kw_294 (show decode cX5_holdsOf 80 = .ok (.getfield 11, 3) by decide +kernel) rfl, ?_⟩
  refine List.forall_mem_cons.mpr ⟨ok_iload C (show decode cX5_holdsOf 83 = .ok (.iload 5, 2) by decide +kernel) rfl, ?_⟩
  refine List.forall_mem_cons.mpr ⟨ok_iaload C (show decode cX5_holdsOf 85 = .ok (.iaload, 1) by decide +kernel) rfl, ?_⟩
  refine List.forall_mem_cons.mpr ⟨ok_bipush C (show decode cX5_holdsOf 86 = .ok (.bipush 77, 2) by decide +kernel) (by decide) rfl, ?_⟩
  refine List.forall_mem_cons.mpr ⟨ok_icmpne C (show decode cX5_holdsOf 88 = .ok (.if_icmp .ne 15, 3) by decide +kernel) (tg := 103) (by decide) rfl rfl, ?_⟩
  refine List.forall_mem_cons.mpr ⟨ok_iload C (show decode cX5_holdsOf 91 = .ok (.iload 4, 2) by decide +kernel) rfl, ?_⟩
  refine List.forall_mem_cons.mpr ⟨ok_iconst C (show decode cX5_holdsOf 93 = .ok (.iconst 1, 1) by decide +kernel) (by decide) rfl, ?_⟩
  refine List.forall_mem_cons.mpr ⟨ok_ishr C (show decode cX5_holdsOf 94 = .ok (.ishr, 1) by decide +kernel) rfl, ?_⟩
  refine List.forall_mem_cons.mpr ⟨ok_iload C (show decode cX5_holdsOf 95 = .ok (.iload 6, 2) by decide +kernel) rfl, ?_⟩
  refine List.forall_mem_cons.mpr ⟨ok_ior C (show decode cX5_holdsOf 97 = .ok (.ior, 1) by decide +kernel) rfl, ?_⟩
  refine List.forall_mem_cons.mpr ⟨ok_istore C (show decode cX5_holdsOf 98 = .ok (.istore 4, 2) by decide +kernel) (by decide) rfl, ?_⟩
  refine List.forall_mem_cons.mpr ⟨ok_goto C (show decode cX5_holdsOf 100 = .ok (.goto 27, 3) by decide +kernel) (tg := 127) (by decide) rfl, ?_⟩
  refine List.forall_mem_cons.mpr ⟨ok_iload C (show decode cX5_holdsOf 103 = .ok (.iload 4, 2) by decide +kernel) rfl, ?_⟩
  refine List.forall_mem_cons.mpr ⟨ok_iconst C (show decode cX5_holdsOf 105 = .ok (.iconst 1, 1) by decide +kernel) (by decide) rfl, ?_⟩
  refine List.forall_mem_cons.mpr ⟨ok_ishl C (show decode cX5_holdsOf 106 = .ok (.ishl, 1) by decide +kernel) rfl, ?_⟩
  refine List.forall_mem_cons.mpr ⟨ok_aload_n C (show decode cX5_holdsOf 107 = .ok (.aload_n 0, 1) by decide +kernel) rfl rfl, ?_⟩
  refine List.forall_mem_cons.mpr ⟨ok_iload C (show decode cX5_holdsOf 108 = .ok (.iload 5, 2) by decide +kernel) rfl, ?_⟩
  refine List.forall_mem_cons.mpr ⟨ok_iload_n C (show decode cX5_holdsOf 110 = .ok (.iload_n 1, 1) by decide +kernel) rfl rfl, ?_⟩
  refine List.forall_mem_cons.mpr ⟨ok_aload_n C (show decode cX5_holdsOf 111 = .ok (.aload_n 2, 1) by decide +kernel) rfl rfl, ?_⟩
  refine List.forall_mem_cons.mpr ⟨ok_aload_n C (show decode cX5_holdsOf 112 = .ok (.aload_n 3, 1) by decide +kernel) rfl rfl, ?_⟩
  refine List.forall_mem_cons.mpr ⟨ok_callV C h_X5_isSo ⟨rfl, rfl⟩ rfl kw_1003 kw_1000 kw_1002 kp_45 kw_10 rfl ds_X5_isSo ⟨by decide, by decide⟩ (show decode cX5_holdsOf 113 = .ok (.invokevirtual 80, 3) by decide +kernel) rfl, ?_⟩
  refine List.forall_mem_cons.mpr ⟨ok_ifeq C (show decode cX5_holdsOf 116 = .ok (.ifCond .eq 7, 3) by decide +kernel) (tg := 123) (by decide) rfl rfl, ?_⟩
  refine List.forall_mem_cons.mpr ⟨ok_iconst C (show decode cX5_holdsOf 119 = .ok (.iconst 1, 1) by decide +kernel) (by decide) rfl, ?_⟩
  refine List.forall_mem_cons.mpr ⟨ok_goto C (show decode cX5_holdsOf 120 = .ok (.goto 4, 3) by decide +kernel) (tg := 124) (by decide) rfl, ?_⟩
  refine List.forall_mem_cons.mpr ⟨ok_iconst C (show decode cX5_holdsOf 123 = .ok (.iconst 0, 1) by decide +kernel) (by decide) rfl, ?_⟩
  refine List.forall_mem_cons.mpr ⟨ok_ior C (show decode cX5_holdsOf 124 = .ok (.ior, 1) by decide +kernel) rfl, ?_⟩
  refine List.forall_mem_cons.mpr ⟨ok_istore C (show decode cX5_holdsOf 125 = .ok (.istore 4, 2) by decide +kernel) (by decide) rfl, ?_⟩
  refine List.forall_mem_cons.mpr ⟨ok_iinc C (show decode cX5_holdsOf 127 = .ok (.iinc 5 1, 3) by decide +kernel) (by decide) (by decide) rfl, ?_⟩
  refine List.forall_mem_cons.mpr ⟨ok_goto C (show decode cX5_holdsOf 130 = .ok (.goto (-124), 3) by decide +kernel) (tg := 6) (by decide) rfl, ?_⟩
  refine List.forall_mem_cons.mpr ⟨ok_iload C (show decode cX5_holdsOf 133 = .ok (.iload 4, 2) by decide +kernel) rfl, ?_⟩
  refine List.forall_mem_cons.mpr ⟨ok_iconst C (show decode cX5_holdsOf 135 = .ok (.iconst 1, 1) by decide +kernel) (by decide) rfl, ?_⟩
  refine List.forall_mem_cons.mpr ⟨ok_iand C (show decode cX5_holdsOf 136 = .ok (.iand, 1) by decide +kernel) rfl, ?_⟩
  refine List.forall_mem_cons.mpr ⟨ok_iconst C (show decode cX5_holdsOf 137 = .ok (.iconst 1, 1) by decide +kernel) (by decide) rfl, ?_⟩
  refine List.forall_mem_cons.mpr ⟨ok_icmpne C (show decode cX5_holdsOf 138 = .ok (.if_icmp .ne 7, 3) by decide +kernel) (tg := 145) (by decide) rfl rfl, ?_⟩
  refine List.forall_mem_cons.mpr ⟨ok_iconst C (show decode cX5_holdsOf 141 = .ok (.iconst 1, 1) by decide +kernel) (by decide) rfl, ?_⟩
  refine List.forall_mem_cons.mpr ⟨ok_goto C (show decode cX5_holdsOf 142 = .ok (.goto 4, 3) by decide +kernel) (tg := 146) (by decide) rfl, ?_⟩
  refine List.forall_mem_cons.mpr ⟨ok_iconst C (show decode cX5_holdsOf 145 = .ok (.iconst 0, 1) by decide +kernel) (by decide) rfl, ?_⟩
  refine List.forall_mem_cons.mpr ⟨ok_zret C rfl (show decode cX5_holdsOf 146 = .ok (.ireturn, 1) by decide +kernel), ?_⟩
  exact fun _ h => absurd h List.not_mem_nil
def L_X6_beginAs (f_X7_amountOf : List Value → ab_H → Option ab_O) : List (Nat × ab_A) := [
  (0, ab_nx 1 (ab_lit (.int 0))),
  (1, ab_nx 2 (ab_istore 2)),
  (2, ab_nx 3 (ab_iload 2)),
  (3, ab_nx 5 (ab_lit (.int 12))),
  (5, ab_icmp 8 47 (fun x y => decide (y ≤ x))),
  (8, ab_nx 9 (ab_aload 0)),
  (9, ab_nx 12 (ab_getf 6 0)),
  (12, ab_nx 13 (ab_iload 2)),
  (13, ab_nx 14 (ab_aload 1)),
  (14, ab_nx 15 (ab_lit (.int 0))),
  (15, ab_nx 16 (ab_iload 2)),
  (16, ab_nx 19 (ab_callV 3 7 f_X7_amountOf 0 0 0 0)),
  (19, ab_nx 20 (ab_ast 1)),
  (20, ab_nx 21 (ab_aload 0)),
  (21, ab_nx 24 (ab_getf 6 1)),
  (24, ab_nx 25 (ab_iload 2)),
  (25, ab_nx 26 (ab_lit (.int 0))),
  (26, ab_nx 27 (ab_ast 1)),
  (27, ab_nx 28 (ab_aload 0)),
  (28, ab_nx 31 (ab_getf 6 2)),
  (31, ab_nx 32 (ab_iload 2)),
  (32, ab_nx 33 (ab_lit (.int 0))),
  (33, ab_nx 34 (ab_ast 1)),
  (34, ab_nx 35 (ab_aload 0)),
  (35, ab_nx 38 (ab_getf 6 3)),
  (38, ab_nx 39 (ab_iload 2)),
  (39, ab_nx 40 (ab_lit (.int 0))),
  (40, ab_nx 41 (ab_ast 1)),
  (41, ab_nx 44 (ab_iinc 2 1)),
  (44, ab_goto 2),
  (47, ab_nx 48 (ab_lit (.int 0))),
  (48, ab_nx 49 (ab_istore 2)),
  (49, ab_nx 50 (ab_iload 2)),
  (50, ab_nx 52 (ab_lit (.int 8))),
  (52, ab_icmp 55 80 (fun x y => decide (y ≤ x))),
  (55, ab_nx 56 (ab_aload 0)),
  (56, ab_nx 59 (ab_getf 6 4)),
  (59, ab_nx 60 (ab_iload 2)),
  (60, ab_nx 61 (ab_aload 1)),
  (61, ab_nx 64 (ab_getf 7 2)),
  (64, ab_nx 65 (ab_iload 2)),
  (65, ab_nx 66 (ab_ald 1)),
  (66, ab_nx 67 (ab_ast 1)),
  (67, ab_nx 68 (ab_aload 0)),
  (68, ab_nx 71 (ab_getf 6 5)),
  (71, ab_nx 72 (ab_iload 2)),
  (72, ab_nx 73 (ab_lit (.int 0))),
  (73, ab_nx 74 (ab_ast 1)),
  (74, ab_nx 77 (ab_iinc 2 1)),
  (77, ab_goto 49),
  (80, ab_nx 81 (ab_lit (.int 0))),
  (81, ab_nx 82 (ab_istore 2)),
  (82, ab_nx 83 (ab_iload 2)),
  (83, ab_nx 85 (ab_lit (.int 64))),
  (85, ab_icmp 88 101 (fun x y => decide (y ≤ x))),
  (88, ab_nx 89 (ab_aload 0)),
  (89, ab_nx 92 (ab_getf 6 6)),
  (92, ab_nx 93 (ab_iload 2)),
  (93, ab_nx 94 (ab_lit (.int 0))),
  (94, ab_nx 95 (ab_ast 1)),
  (95, ab_nx 98 (ab_iinc 2 1)),
  (98, ab_goto 82),
  (101, ab_nx 102 (ab_aload 0)),
  (102, ab_nx 103 (ab_lit (.int 0))),
  (103, ab_nx 106 (ab_putf 6 7 0)),
  (106, ab_nx 107 (ab_aload 0)),
  (107, ab_nx 108 (ab_lit (.int 0))),
  (108, ab_nx 111 (ab_putf 6 8 0)),
  (111, ab_nx 112 (ab_aload 0)),
  (112, ab_nx 113 (ab_lit (.int 0))),
  (113, ab_nx 116 (ab_putf 6 9 0)),
  (116, ab_vret 0 0)]
set_option maxRecDepth 100000 in
set_option maxHeartbeats 4000000 in
theorem M_X6_beginAs {l : Launch} {b : ab_B} {D : va_G} {cA : Nat → ClassId} {f_X7_amountOf : List Value → ab_H → Option ab_O} (h_X7_amountOf : ab_M l b D ab_cl cA (ab_E0 b) yX7_amountOf (Cond.code yX7_amountOf cX7_amountOf 3 (some .int) :: ab_G) ({ frames := 1, cells := 0, slots := 0, locals := 100 } : Room) f_X7_amountOf) : ab_M l b D ab_cl cA (ab_E0 b) yX6_beginAs (Cond.code yX6_beginAs cX6_beginAs 3 none :: ab_G) ({ frames := 2, cells := 0, slots := 0, locals := 200 } : Room) (ab_X (ab_T (L_X6_beginAs f_X7_amountOf)) 3) := by
  refine ab_meth (ret := none) (L_X6_beginAs f_X7_amountOf) (by decide) rfl fun p e R s m args below meth c o C => ?_
  unfold L_X6_beginAs
  refine List.forall_mem_cons.mpr ⟨ok_iconst C (show decode cX6_beginAs 0 = .ok (.iconst 0, 1) by decide +kernel) (by decide) rfl, ?_⟩
  refine List.forall_mem_cons.mpr ⟨ok_istore_n C (show decode cX6_beginAs 1 = .ok (.istore_n 2, 1) by decide +kernel) rfl (by decide) rfl, ?_⟩
  refine List.forall_mem_cons.mpr ⟨ok_iload_n C (show decode cX6_beginAs 2 = .ok (.iload_n 2, 1) by decide +kernel) rfl rfl, ?_⟩
  refine List.forall_mem_cons.mpr ⟨ok_bipush C (show decode cX6_beginAs 3 = .ok (.bipush 12, 2) by decide +kernel) (by decide) rfl, ?_⟩
  refine List.forall_mem_cons.mpr ⟨ok_icmpge C (show decode cX6_beginAs 5 = .ok (.if_icmp .ge 42, 3) by decide +kernel) (tg := 47) (by decide) rfl rfl, ?_⟩
  refine List.forall_mem_cons.mpr ⟨ok_aload_n C (show decode cX6_beginAs 8 = .ok (.aload_n 0, 1) by decide +kernel) rfl rfl, ?_⟩
  refine List.forall_mem_cons.mpr ⟨ok_getf C (wi_X6) rfl (by decide) kw_142 (show decode cX6_beginAs 9 = .ok (.getfield 9, 3) by decide +kernel) rfl, ?_⟩
  refine List.forall_mem_cons.mpr ⟨ok_iload_n C (show decode cX6_beginAs 12 = .ok (.iload_n 2, 1) by decide +kernel) rfl rfl, ?_⟩
  refine List.forall_mem_cons.mpr ⟨ok_aload_n C (show decode cX6_beginAs 13 = .ok (.aload_n 1, 1) by decide +kernel) rfl rfl, ?_⟩
  refine List.forall_mem_cons.mpr ⟨ok_iconst C (show decode cX6_beginAs 14 = .ok (.iconst 0, 1) by decide +kernel) (by decide) rfl, ?_⟩
  refine List.forall_mem_cons.mpr ⟨ok_iload_n C (show decode cX6_beginAs 15 = .ok (.iload_n 2, 1) by decide +kernel) rfl rfl, ?_⟩
  refine List.forall_mem_cons.mpr ⟨ok_callV C h_X7_amountOf ⟨rfl, rfl⟩ rfl kw_576 kw_573 kw_574 kw_575 kw_9 rfl ds_X7_amountOf ⟨by decide, by decide⟩ (show decode cX6_beginAs 16 = .ok (.invokevirtual 33, 3) by decide +kernel) rfl, ?_⟩
  refine List.forall_mem_cons.mpr ⟨ok_iastore C (show decode cX6_beginAs 19 = .ok (.iastore, 1) by decide +kernel) rfl, ?_⟩
  refine List.forall_mem_cons.mpr ⟨ok_aload_n C (show decode cX6_beginAs 20 = .ok (.aload_n 0, 1) by decide +kernel) rfl rfl, ?_⟩
  refine List.forall_mem_cons.mpr ⟨ok_getf C (wi_X6) rfl (by decide) kw_146 (show decode cX6_beginAs 21 = .ok (.getfield 15, 3) by decide +kernel) rfl, ?_⟩
  refine List.forall_mem_cons.mpr ⟨ok_iload_n C (show decode cX6_beginAs 24 = .ok (.iload_n 2, 1) by decide +kernel) rfl rfl, ?_⟩
  refine List.forall_mem_cons.mpr ⟨ok_iconst C (show decode cX6_beginAs 25 = .ok (.iconst 0, 1) by decide +kernel) (by decide) rfl, ?_⟩
  refine List.forall_mem_cons.mpr ⟨ok_iastore C (show decode cX6_beginAs 26 = .ok (.iastore, 1) by decide +kernel) rfl, ?_⟩
  refine List.forall_mem_cons.mpr ⟨ok_aload_n C (show decode cX6_beginAs 27 = .ok (.aload_n 0, 1) by decide +kernel) rfl rfl, ?_⟩
  refine List.forall_mem_cons.mpr ⟨ok_getf C (wi_X6) rfl (by decide) kw_149 (show decode cX6_beginAs 28 = .ok (.getfield 18, 3) by decide +kernel) rfl, ?_⟩
  refine List.forall_mem_cons.mpr ⟨ok_iload_n C (show decode cX6_beginAs 31 = .ok (.iload_n 2, 1) by decide +kernel) rfl rfl, ?_⟩
  refine List.forall_mem_cons.mpr ⟨ok_iconst C (show decode cX6_beginAs 32 = .ok (.iconst 0, 1) by decide +kernel) (by decide) rfl, ?_⟩
  refine List.forall_mem_cons.mpr ⟨ok_iastore C (show decode cX6_beginAs 33 = .ok (.iastore, 1) by decide +kernel) rfl, ?_⟩
  refine List.forall_mem_cons.mpr ⟨ok_aload_n C (show decode cX6_beginAs 34 = .ok (.aload_n 0, 1) by decide +kernel) rfl rfl, ?_⟩
  refine List.forall_mem_cons.mpr ⟨ok_getf C (wi_X6) rfl (by decide) kw_151 (show decode cX6_beginAs 35 = .ok (.getfield 21, 3) by decide +kernel) rfl, ?_⟩
  refine List.forall_mem_cons.mpr ⟨ok_iload_n C (show decode cX6_beginAs 38 = .ok (.iload_n 2, 1) by decide +kernel) rfl rfl, ?_⟩
  refine List.forall_mem_cons.mpr ⟨ok_iconst C (show decode cX6_beginAs 39 = .ok (.iconst 0, 1) by decide +kernel) (by decide) rfl, ?_⟩
  refine List.forall_mem_cons.mpr ⟨ok_iastore C (show decode cX6_beginAs 40 = .ok (.iastore, 1) by decide +kernel) rfl, ?_⟩
  refine List.forall_mem_cons.mpr ⟨ok_iinc C (show decode cX6_beginAs 41 = .ok (.iinc 2 1, 3) by decide +kernel) (by decide) (by decide) rfl, ?_⟩
  refine List.forall_mem_cons.mpr ⟨ok_goto C (show decode cX6_beginAs 44 = .ok (.goto (-42), 3) by decide +kernel) (tg := 2) (by decide) rfl, ?_⟩
  refine List.forall_mem_cons.mpr ⟨ok_iconst C (show decode cX6_beginAs 47 = .ok (.iconst 0, 1) by decide +kernel) (by decide) rfl, ?_⟩
  refine List.forall_mem_cons.mpr ⟨ok_istore_n C (show decode cX6_beginAs 48 = .ok (.istore_n 2, 1) by decide +kernel) rfl (by decide) rfl, ?_⟩
  refine List.forall_mem_cons.mpr ⟨ok_iload_n C (show decode cX6_beginAs 49 = .ok (.iload_n 2, 1) by decide +kernel) rfl rfl, ?_⟩
  refine List.forall_mem_cons.mpr ⟨ok_bipush C (show decode cX6_beginAs 50 = .ok (.bipush 8, 2) by decide +kernel) (by decide) rfl, ?_⟩
  refine List.forall_mem_cons.mpr ⟨ok_icmpge C (show decode cX6_beginAs 52 = .ok (.if_icmp .ge 28, 3) by decide +kernel) (tg := 80) (by decide) rfl rfl, ?_⟩
  refine List.forall_mem_cons.mpr ⟨ok_aload_n C (show decode cX6_beginAs 55 = .ok (.aload_n 0, 1) by decide +kernel) rfl rfl, ?_⟩
  refine List.forall_mem_cons.mpr ⟨ok_getf C (wi_X6) rfl (by decide) kw_155 (show decode cX6_beginAs 56 = .ok (.getfield 24, 3) by decide +kernel) rfl, ?_⟩
  refine List.forall_mem_cons.mpr ⟨ok_iload_n C (show decode cX6_beginAs 59 = .ok (.iload_n 2, 1) by decide +kernel) rfl rfl, ?_⟩
  refine List.forall_mem_cons.mpr ⟨ok_aload_n C (show decode cX6_beginAs 60 = .ok (.aload_n 1, 1) by decide +kernel) rfl rfl, ?_⟩
  refine List.forall_mem_cons.mpr ⟨ok_getf C (wi_X7) rfl (by decide) kw_237 (show decode cX6_beginAs 61 = .ok (.getfield 39, 3) by decide +kernel) rfl, ?_⟩
  refine List.forall_mem_cons.mpr ⟨ok_iload_n C (show decode cX6_beginAs 64 = .ok (.iload_n 2, 1) by decide +kernel) rfl rfl, ?_⟩
  refine List.forall_mem_cons.mpr ⟨ok_iaload C (show decode cX6_beginAs 65 = .ok (.iaload, 1) by decide +kernel) rfl, ?_⟩
  refine List.forall_mem_cons.mpr ⟨ok_iastore C (show decode cX6_beginAs 66 = .ok (.iastore, 1) by decide +kernel) rfl, ?_⟩
  refine List.forall_mem_cons.mpr ⟨ok_aload_n C (show decode cX6_beginAs 67 = .ok (.aload_n 0, 1) by decide +kernel) rfl rfl, ?_⟩
  refine List.forall_mem_cons.mpr ⟨ok_getf C (wi_X6) rfl (by decide) kw_158 (show decode cX6_beginAs 68 = .ok (.getfield 27, 3) by decide +kernel) rfl, ?_⟩
  refine List.forall_mem_cons.mpr ⟨ok_iload_n C (show decode cX6_beginAs 71 = .ok (.iload_n 2, 1) by decide +kernel) rfl rfl, ?_⟩
  refine List.forall_mem_cons.mpr ⟨ok_iconst C (show decode cX6_beginAs 72 = .ok (.iconst 0, 1) by decide +kernel) (by decide) rfl, ?_⟩
  refine List.forall_mem_cons.mpr ⟨ok_iastore C (show decode cX6_beginAs 73 = .ok (.iastore, 1) by decide +kernel) rfl, ?_⟩
  refine List.forall_mem_cons.mpr ⟨ok_iinc C (show decode cX6_beginAs 74 = .ok (.iinc 2 1, 3) by decide +kernel) (by decide) (by decide) rfl, ?_⟩
  refine List.forall_mem_cons.mpr ⟨ok_goto C (show decode cX6_beginAs 77 = .ok (.goto (-28), 3) by decide +kernel) (tg := 49) (by decide) rfl, ?_⟩
  refine List.forall_mem_cons.mpr ⟨ok_iconst C (show decode cX6_beginAs 80 = .ok (.iconst 0, 1) by decide +kernel) (by decide) rfl, ?_⟩
  refine List.forall_mem_cons.mpr ⟨ok_istore_n C (show decode cX6_beginAs 81 = .ok (.istore_n 2, 1) by decide +kernel) rfl (by decide) rfl, ?_⟩
  refine List.forall_mem_cons.mpr ⟨ok_iload_n C (show decode cX6_beginAs 82 = .ok (.iload_n 2, 1) by decide +kernel) rfl rfl, ?_⟩
  refine List.forall_mem_cons.mpr ⟨ok_bipush C (show decode cX6_beginAs 83 = .ok (.bipush 64, 2) by decide +kernel) (by decide) rfl, ?_⟩
  refine List.forall_mem_cons.mpr ⟨ok_icmpge C (show decode cX6_beginAs 85 = .ok (.if_icmp .ge 16, 3) by decide +kernel) (tg := 101) (by decide) rfl rfl, ?_⟩
  refine List.forall_mem_cons.mpr ⟨ok_aload_n C (show decode cX6_beginAs 88 = .ok (.aload_n 0, 1) by decide +kernel) rfl rfl, ?_⟩
  refine List.forall_mem_cons.mpr ⟨ok_getf C (wi_X6) rfl (by decide) kw_161 (show decode cX6_beginAs 89 = .ok (.getfield 30, 3) by decide +kernel) rfl, ?_⟩
  refine List.forall_mem_cons.mpr ⟨ok_iload_n C (show decode cX6_beginAs 92 = .ok (.iload_n 2, 1) by decide +kernel) rfl rfl, ?_⟩
  refine List.forall_mem_cons.mpr ⟨ok_iconst C (show decode cX6_beginAs 93 = .ok (.iconst 0, 1) by decide +kernel) (by decide) rfl, ?_⟩
  refine List.forall_mem_cons.mpr ⟨ok_iastore C (show decode cX6_beginAs 94 = .ok (.iastore, 1) by decide +kernel) rfl, ?_⟩
  refine List.forall_mem_cons.mpr ⟨ok_iinc C (show decode cX6_beginAs 95 = .ok (.iinc 2 1, 3) by decide +kernel) (by decide) (by decide) rfl, ?_⟩
  refine List.forall_mem_cons.mpr ⟨ok_goto C (show decode cX6_beginAs 98 = .ok (.goto (-16), 3) by decide +kernel) (tg := 82) (by decide) rfl, ?_⟩
  refine List.forall_mem_cons.mpr ⟨ok_aload_n C (show decode cX6_beginAs 101 = .ok (.aload_n 0, 1) by decide +kernel) rfl rfl, ?_⟩
  refine List.forall_mem_cons.mpr ⟨ok_iconst C (show decode cX6_beginAs 102 = .ok (.iconst 0, 1) by decide +kernel) (by decide) rfl, ?_⟩
  refine List.forall_mem_cons.mpr ⟨ok_putf C (wi_X6) tyX6 tyX6_ok nmX6 rfl (by decide) kw_162 (Or.inl rfl) (Or.inl ⟨rfl, rfl⟩) (show decode cX6_beginAs 103 = .ok (.putfield 42, 3) by decide +kernel) rfl, ?_⟩
  refine List.forall_mem_cons.mpr ⟨ok_aload_n C (show decode cX6_beginAs 106 = .ok (.aload_n 0, 1) by decide +kernel) rfl rfl, ?_⟩
  refine List.forall_mem_cons.mpr ⟨ok_iconst C (show decode cX6_beginAs 107 = .ok (.iconst 0, 1) by decide +kernel) (by decide) rfl, ?_⟩
  refine List.forall_mem_cons.mpr ⟨ok_putf C (wi_X6) tyX6 tyX6_ok nmX6 rfl (by decide) kw_165 (Or.inl rfl) (Or.inl ⟨rfl, rfl⟩) (show decode cX6_beginAs 108 = .ok (.putfield 46, 3) by decide +kernel) rfl, ?_⟩
  refine List.forall_mem_cons.mpr ⟨ok_aload_n C (show decode cX6_beginAs 111 = .ok (.aload_n 0, 1) by decide +kernel) rfl rfl, ?_⟩
  refine List.forall_mem_cons.mpr ⟨ok_iconst C (show decode cX6_beginAs 112 = .ok (.iconst 0, 1) by decide +kernel) (by decide) rfl, ?_⟩
  refine List.forall_mem_cons.mpr ⟨ok_putf C (wi_X6) tyX6 tyX6_ok nmX6 rfl (by decide) kw_168 (Or.inl rfl) (Or.inl ⟨rfl, rfl⟩) (show decode cX6_beginAs 113 = .ok (.putfield 49, 3) by decide +kernel) rfl, ?_⟩
  refine List.forall_mem_cons.mpr ⟨ok_vret C rfl (show decode cX6_beginAs 116 = .ok (.return_, 1) by decide +kernel), ?_⟩
  exact fun _ h => absurd h List.not_mem_nil
def L_X6_looksLike : List (Nat × ab_A) := [
  (0, ab_nx 1 (ab_lit (.int 0))),
  (1, ab_nx 2 (ab_istore 2)),
  (2, ab_nx 3 (ab_iload 2)),
  (3, ab_nx 5 (ab_lit (.int 12))),
  (5, ab_icmp 8 31 (fun x y => decide (y ≤ x))),
  (8, ab_nx 9 (ab_aload 0)),
  (9, ab_nx 12 (ab_getf 6 0)),
  (12, ab_nx 13 (ab_iload 2)),
  (13, ab_nx 14 (ab_ald 1)),
  (14, ab_nx 15 (ab_aload 1)),
  (15, ab_nx 18 (ab_getf 6 0)),
  (18, ab_nx 19 (ab_iload 2)),
  (19, ab_nx 20 (ab_ald 1)),
  (20, ab_icmp 23 25 (fun x y => decide (x = y))),
  (23, ab_nx 24 (ab_lit (.int 0))),
  (24, ab_zret 0 0),
  (25, ab_nx 28 (ab_iinc 2 1)),
  (28, ab_goto 2),
  (31, ab_nx 32 (ab_lit (.int 0))),
  (32, ab_nx 33 (ab_istore 2)),
  (33, ab_nx 34 (ab_iload 2)),
  (34, ab_nx 36 (ab_lit (.int 8))),
  (36, ab_icmp 39 62 (fun x y => decide (y ≤ x))),
  (39, ab_nx 40 (ab_aload 0)),
  (40, ab_nx 43 (ab_getf 6 4)),
  (43, ab_nx 44 (ab_iload 2)),
  (44, ab_nx 45 (ab_ald 1)),
  (45, ab_nx 46 (ab_aload 1)),
  (46, ab_nx 49 (ab_getf 6 4)),
  (49, ab_nx 50 (ab_iload 2)),
  (50, ab_nx 51 (ab_ald 1)),
  (51, ab_icmp 54 56 (fun x y => decide (x = y))),
  (54, ab_nx 55 (ab_lit (.int 0))),
  (55, ab_zret 0 0),
  (56, ab_nx 59 (ab_iinc 2 1)),
  (59, ab_goto 33),
  (62, ab_nx 63 (ab_lit (.int 1))),
  (63, ab_zret 0 0)]
set_option maxRecDepth 100000 in
set_option maxHeartbeats 4000000 in
theorem M_X6_looksLike {l : Launch} {b : ab_B} {D : va_G} {cA : Nat → ClassId} : ab_M l b D ab_cl cA (ab_E0 b) yX6_looksLike (Cond.code yX6_looksLike cX6_looksLike 3 (some .boolean) :: ab_G) ({ frames := 1, cells := 0, slots := 0, locals := 100 } : Room) (ab_X (ab_T L_X6_looksLike) 3) := by
  refine ab_meth (ret := (some .boolean)) L_X6_looksLike (by decide) rfl fun p e R s m args below meth c o C => ?_
  unfold L_X6_looksLike
  refine List.forall_mem_cons.mpr ⟨ok_iconst C (show decode cX6_looksLike 0 = .ok (.iconst 0, 1) by decide +kernel) (by decide) rfl, ?_⟩
  refine List.forall_mem_cons.mpr ⟨ok_istore_n C (show decode cX6_looksLike 1 = .ok (.istore_n 2, 1) by decide +kernel) rfl (by decide) rfl, ?_⟩
  refine List.forall_mem_cons.mpr ⟨ok_iload_n C (show decode cX6_looksLike 2 = .ok (.iload_n 2, 1) by decide +kernel) rfl rfl, ?_⟩
  refine List.forall_mem_cons.mpr ⟨ok_bipush C (show decode cX6_looksLike 3 = .ok (.bipush 12, 2) by decide +kernel) (by decide) rfl, ?_⟩
  refine List.forall_mem_cons.mpr ⟨ok_icmpge C (show decode cX6_looksLike 5 = .ok (.if_icmp .ge 26, 3) by decide +kernel) (tg := 31) (by decide) rfl rfl, ?_⟩
  refine List.forall_mem_cons.mpr ⟨ok_aload_n C (show decode cX6_looksLike 8 = .ok (.aload_n 0, 1) by decide +kernel) rfl rfl, ?_⟩
  refine List.forall_mem_cons.mpr ⟨ok_getf C (wi_X6) rfl (by decide) kw_142 (show decode cX6_looksLike 9 = .ok (.getfield 9, 3) by decide +kernel) rfl, ?_⟩
  refine List.forall_mem_cons.mpr ⟨ok_iload_n C (show decode cX6_looksLike 12 = .ok (.iload_n 2, 1) by decide +kernel) rfl rfl, ?_⟩
  refine List.forall_mem_cons.mpr ⟨ok_iaload C (show decode cX6_looksLike 13 = .ok (.iaload, 1) by decide +kernel) rfl, ?_⟩
  refine List.forall_mem_cons.mpr ⟨ok_aload_n C (show decode cX6_looksLike 14 = .ok (.aload_n 1, 1) by decide +kernel) rfl rfl, ?_⟩
  refine List.forall_mem_cons.mpr ⟨ok_getf C (wi_X6) rfl (by decide) kw_142 (show decode cX6_looksLike 15 = .ok (.getfield 9, 3) by decide +kernel) rfl, ?_⟩
  refine List.forall_mem_cons.mpr ⟨ok_iload_n C (show decode cX6_looksLike 18 = .ok (.iload_n 2, 1) by decide +kernel) rfl rfl, ?_⟩
  refine List.forall_mem_cons.mpr ⟨ok_iaload C (show decode cX6_looksLike 19 = .ok (.iaload, 1) by decide +kernel) rfl, ?_⟩
  refine List.forall_mem_cons.mpr ⟨ok_icmpeq C (show decode cX6_looksLike 20 = .ok (.if_icmp .eq 5, 3) by decide +kernel) (tg := 25) (by decide) rfl rfl, ?_⟩
  refine List.forall_mem_cons.mpr ⟨ok_iconst C (show decode cX6_looksLike 23 = .ok (.iconst 0, 1) by decide +kernel) (by decide) rfl, ?_⟩
  refine List.forall_mem_cons.mpr ⟨ok_zret C rfl (show decode cX6_looksLike 24 = .ok (.ireturn, 1) by decide +kernel), ?_⟩
  refine List.forall_mem_cons.mpr ⟨ok_iinc C (show decode cX6_looksLike 25 = .ok (.iinc 2 1, 3) by decide +kernel) (by decide) (by decide) rfl, ?_⟩
  refine List.forall_mem_cons.mpr ⟨ok_goto C (show decode cX6_looksLike 28 = .ok (.goto (-26), 3) by decide +kernel) (tg := 2) (by decide) rfl, ?_⟩
  refine List.forall_mem_cons.mpr ⟨ok_iconst C (show decode cX6_looksLike 31 = .ok (.iconst 0, 1) by decide +kernel) (by decide) rfl, ?_⟩
  refine List.forall_mem_cons.mpr ⟨ok_istore_n C (show decode cX6_looksLike 32 = .ok (.istore_n 2, 1) by decide +kernel) rfl (by decide) rfl, ?_⟩
  refine List.forall_mem_cons.mpr ⟨ok_iload_n C (show decode cX6_looksLike 33 = .ok (.iload_n 2, 1) by decide +kernel) rfl rfl, ?_⟩
  refine List.forall_mem_cons.mpr ⟨ok_bipush C (show decode cX6_looksLike 34 = .ok (.bipush 8, 2) by decide +kernel) (by decide) rfl, ?_⟩
  refine List.forall_mem_cons.mpr ⟨ok_icmpge C (show decode cX6_looksLike 36 = .ok (.if_icmp .ge 26, 3) by decide +kernel) (tg := 62) (by decide) rfl rfl, ?_⟩
  refine List.forall_mem_cons.mpr ⟨ok_aload_n C (show decode cX6_looksLike 39 = .ok (.aload_n 0, 1) by decide +kernel) rfl rfl, ?_⟩
  refine List.forall_mem_cons.mpr ⟨ok_getf C (wi_X6) rfl (by decide) kw_155 (show decode cX6_looksLike 40 = .ok (.getfield 24, 3) by decide +kernel) rfl, ?_⟩
  refine List.forall_mem_cons.mpr ⟨ok_iload_n C (show decode cX6_looksLike 43 = .ok (.iload_n 2, 1) by decide +kernel) rfl rfl, ?_⟩
  refine List.forall_mem_cons.mpr ⟨ok_iaload C (show decode cX6_looksLike 44 = .ok (.iaload, 1) by decide +kernel) rfl, ?_⟩
  refine List.forall_mem_cons.mpr ⟨ok_aload_n C (show decode cX6_looksLike 45 = .ok (.aload_n 1, 1) by decide +kernel) rfl rfl, ?_⟩
  refine List.forall_mem_cons.mpr ⟨ok_getf C (wi_X6) rfl (by decide) kw_155 (show decode cX6_looksLike 46 = .ok (.getfield 24, 3) by decide +kernel) rfl, ?_⟩
  refine List.forall_mem_cons.mpr ⟨ok_iload_n C (show decode cX6_looksLike 49 = .ok (.iload_n 2, 1) by decide +kernel) rfl rfl, ?_⟩
  refine List.forall_mem_cons.mpr ⟨ok_iaload C (show decode cX6_looksLike 50 = .ok (.iaload, 1) by decide +kernel) rfl, ?_⟩
  refine List.forall_mem_cons.mpr ⟨ok_icmpeq C (show decode cX6_looksLike 51 = .ok (.if_icmp .eq 5, 3) by decide +kernel) (tg := 56) (by decide) rfl rfl, ?_⟩
  refine List.forall_mem_cons.mpr ⟨ok_iconst C (show decode cX6_looksLike 54 = .ok (.iconst 0, 1) by decide +kernel) (by decide) rfl, ?_⟩
  refine List.forall_mem_cons.mpr ⟨ok_zret C rfl (show decode cX6_looksLike 55 = .ok (.ireturn, 1) by decide +kernel), ?_⟩
  refine List.forall_mem_cons.mpr ⟨ok_iinc C (show decode cX6_looksLike 56 = .ok (.iinc 2 1, 3) by decide +kernel) (by decide) (by decide) rfl, ?_⟩
  refine List.forall_mem_cons.mpr ⟨ok_goto C (show decode cX6_looksLike 59 = .ok (.goto (-26), 3) by decide +kernel) (tg := 33) (by decide) rfl, ?_⟩
  refine List.forall_mem_cons.mpr ⟨ok_iconst C (show decode cX6_looksLike 62 = .ok (.iconst 1, 1) by decide +kernel) (by decide) rfl, ?_⟩
  refine List.forall_mem_cons.mpr ⟨ok_zret C rfl (show decode cX6_looksLike 63 = .ok (.ireturn, 1) by decide +kernel), ?_⟩
  exact fun _ h => absurd h List.not_mem_nil
def L_X6_hungerInAll : List (Nat × ab_A) := [
  (0, ab_nx 1 (ab_lit (.int 0))),
  (1, ab_nx 2 (ab_istore 1)),
  (2, ab_nx 3 (ab_lit (.int 0))),
  (3, ab_nx 4 (ab_istore 2)),
  (4, ab_nx 5 (ab_iload 2)),
  (5, ab_nx 7 (ab_lit (.int 12))),
  (7, ab_icmp 10 25 (fun x y => decide (y ≤ x))),
  (10, ab_nx 11 (ab_iload 1)),
  (11, ab_nx 12 (ab_aload 0)),
  (12, ab_nx 15 (ab_getf 6 2)),
  (15, ab_nx 16 (ab_iload 2)),
  (16, ab_nx 17 (ab_ald 1)),
  (17, ab_nx 18 (ab_bin (fun x y => x + y))),
  (18, ab_nx 19 (ab_istore 1)),
  (19, ab_nx 22 (ab_iinc 2 1)),
  (22, ab_goto 4),
  (25, ab_nx 26 (ab_iload 1)),
  (26, ab_ret 0 0)]
set_option maxRecDepth 100000 in
set_option maxHeartbeats 4000000 in
theorem M_X6_hungerInAll {l : Launch} {b : ab_B} {D : va_G} {cA : Nat → ClassId} : ab_M l b D ab_cl cA (ab_E0 b) yX6_hungerInAll (Cond.code yX6_hungerInAll cX6_hungerInAll 3 (some .int) :: ab_G) ({ frames := 1, cells := 0, slots := 0, locals := 100 } : Room) (ab_X (ab_T L_X6_hungerInAll) 3) := by
  refine ab_meth (ret := (some .int)) L_X6_hungerInAll (by decide) rfl fun p e R s m args below meth c o C => ?_
  unfold L_X6_hungerInAll
  refine List.forall_mem_cons.mpr ⟨ok_iconst C (show decode cX6_hungerInAll 0 = .ok (.iconst 0, 1) by decide +kernel) (by decide) rfl, ?_⟩
  refine List.forall_mem_cons.mpr ⟨ok_istore_n C (show decode cX6_hungerInAll 1 = .ok (.istore_n 1, 1) by decide +kernel) rfl (by decide) rfl, ?_⟩
  refine List.forall_mem_cons.mpr ⟨ok_iconst C (show decode cX6_hungerInAll 2 = .ok (.iconst 0, 1) by decide +kernel) (by decide) rfl, ?_⟩
  refine List.forall_mem_cons.mpr ⟨ok_istore_n C (show decode cX6_hungerInAll 3 = .ok (.istore_n 2, 1) by decide +kernel) rfl (by decide) rfl, ?_⟩
  refine List.forall_mem_cons.mpr ⟨ok_iload_n C (show decode cX6_hungerInAll 4 = .ok (.iload_n 2, 1) by decide +kernel) rfl rfl, ?_⟩
  refine List.forall_mem_cons.mpr ⟨ok_bipush C (show decode cX6_hungerInAll 5 = .ok (.bipush 12, 2) by decide +kernel) (by decide) rfl, ?_⟩
  refine List.forall_mem_cons.mpr ⟨ok_icmpge C (show decode cX6_hungerInAll 7 = .ok (.if_icmp .ge 18, 3) by decide +kernel) (tg := 25) (by decide) rfl rfl, ?_⟩
  refine List.forall_mem_cons.mpr ⟨ok_iload_n C (show decode cX6_hungerInAll 10 = .ok (.iload_n 1, 1) by decide +kernel) rfl rfl, ?_⟩
  refine List.forall_mem_cons.mpr ⟨ok_aload_n C (show decode cX6_hungerInAll 11 = .ok (.aload_n 0, 1) by decide +kernel) rfl rfl, ?_⟩
  refine List.forall_mem_cons.mpr ⟨ok_getf C (wi_X6) rfl (by decide) kw_149 (show decode cX6_hungerInAll 12 = .ok (.getfield 18, 3) by decide +kernel) rfl, ?_⟩
  refine List.forall_mem_cons.mpr ⟨ok_iload_n C (show decode cX6_hungerInAll 15 = .ok (.iload_n 2, 1) by decide +kernel) rfl rfl, ?_⟩
  refine List.forall_mem_cons.mpr ⟨ok_iaload C (show decode cX6_hungerInAll 16 = .ok (.iaload, 1) by decide +kernel) rfl, ?_⟩
  refine List.forall_mem_cons.mpr ⟨ok_iadd C (show decode cX6_hungerInAll 17 = .ok (.iadd, 1) by decide +kernel) rfl, ?_⟩
  refine List.forall_mem_cons.mpr ⟨ok_istore_n C (show decode cX6_hungerInAll 18 = .ok (.istore_n 1, 1) by decide +kernel) rfl (by decide) rfl, ?_⟩
  refine List.forall_mem_cons.mpr ⟨ok_iinc C (show decode cX6_hungerInAll 19 = .ok (.iinc 2 1, 3) by decide +kernel) (by decide) (by decide) rfl, ?_⟩
  refine List.forall_mem_cons.mpr ⟨ok_goto C (show decode cX6_hungerInAll 22 = .ok (.goto (-18), 3) by decide +kernel) (tg := 4) (by decide) rfl, ?_⟩
  refine List.forall_mem_cons.mpr ⟨ok_iload_n C (show decode cX6_hungerInAll 25 = .ok (.iload_n 1, 1) by decide +kernel) rfl rfl, ?_⟩
  refine List.forall_mem_cons.mpr ⟨ok_ret C rfl (show decode cX6_hungerInAll 26 = .ok (.ireturn, 1) by decide +kernel), ?_⟩
  exact fun _ h => absurd h List.not_mem_nil
def L_X6_isAlive : List (Nat × ab_A) := [
  (0, ab_nx 1 (ab_aload 0)),
  (1, ab_nx 4 (ab_getf 6 4)),
  (4, ab_nx 5 (ab_iload 1)),
  (5, ab_nx 6 (ab_ald 1)),
  (6, ab_nx 7 (ab_lit (.int (-1)))),
  (7, ab_icmp 10 14 (fun x y => decide (x = y))),
  (10, ab_nx 11 (ab_lit (.int 1))),
  (11, ab_goto 15),
  (14, ab_nx 15 (ab_lit (.int 0))),
  (15, ab_zret 0 0)]
set_option maxRecDepth 100000 in
set_option maxHeartbeats 4000000 in
theorem M_X6_isAlive {l : Launch} {b : ab_B} {D : va_G} {cA : Nat → ClassId} : ab_M l b D ab_cl cA (ab_E0 b) yX6_isAlive (Cond.code yX6_isAlive cX6_isAlive 2 (some .boolean) :: ab_G) ({ frames := 1, cells := 0, slots := 0, locals := 100 } : Room) (ab_X (ab_T L_X6_isAlive) 2) := by
  refine ab_meth (ret := (some .boolean)) L_X6_isAlive (by decide) rfl fun p e R s m args below meth c o C => ?_
  unfold L_X6_isAlive
  refine List.forall_mem_cons.mpr ⟨ok_aload_n C (show decode cX6_isAlive 0 = .ok (.aload_n 0, 1) by decide +kernel) rfl rfl, ?_⟩
  refine List.forall_mem_cons.mpr ⟨ok_getf C (wi_X6) rfl (by decide) kw_155 (show decode cX6_isAlive 1 = .ok (.getfield 24, 3) by decide +kernel) rfl, ?_⟩
  refine List.forall_mem_cons.mpr ⟨ok_iload_n C (show decode cX6_isAlive 4 = .ok (.iload_n 1, 1) by decide +kernel) rfl rfl, ?_⟩
  refine List.forall_mem_cons.mpr ⟨ok_iaload C (show decode cX6_isAlive 5 = .ok (.iaload, 1) by decide +kernel) rfl, ?_⟩
  refine List.forall_mem_cons.mpr ⟨ok_iconst C (show decode cX6_isAlive 6 = .ok (.iconst (-1), 1) by decide +kernel) (by decide) rfl, ?_⟩
  refine List.forall_mem_cons.mpr ⟨ok_icmpeq C (show decode cX6_isAlive 7 = .ok (.if_icmp .eq 7, 3) by decide +kernel) (tg := 14) (by decide) rfl rfl, ?_⟩
  refine List.forall_mem_cons.mpr ⟨ok_iconst C (show decode cX6_isAlive 10 = .ok (.iconst 1, 1) by decide +kernel) (by decide) rfl, ?_⟩
  refine List.forall_mem_cons.mpr ⟨ok_goto C (show decode cX6_isAlive 11 = .ok (.goto 4, 3) by decide +kernel) (tg := 15) (by decide) rfl, ?_⟩
  refine List.forall_mem_cons.mpr ⟨ok_iconst C (show decode cX6_isAlive 14 = .ok (.iconst 0, 1) by decide +kernel) (by decide) rfl, ?_⟩
  refine List.forall_mem_cons.mpr ⟨ok_zret C rfl (show decode cX6_isAlive 15 = .ok (.ireturn, 1) by decide +kernel), ?_⟩
  exact fun _ h => absurd h List.not_mem_nil
def L_X6_menOn : List (Nat × ab_A) := [
  (0, ab_nx 1 (ab_lit (.int 0))),
  (1, ab_nx 2 (ab_istore 3)),
  (2, ab_nx 3 (ab_lit (.int 0))),
  (3, ab_nx 5 (ab_istore 4)),
  (5, ab_nx 7 (ab_iload 4)),
  (7, ab_nx 8 (ab_aload 1)),
  (8, ab_nx 11 (ab_getf 7 9)),
  (11, ab_icmp 14 38 (fun x y => decide (y ≤ x))),
  (14, ab_nx 15 (ab_aload 0)),
  (15, ab_nx 18 (ab_getf 6 4)),
  (18, ab_nx 20 (ab_iload 4)),
  (20, ab_nx 21 (ab_ald 1)),
  (21, ab_nx 22 (ab_iload 2)),
  (22, ab_icmp 25 32 (fun x y => !decide (x = y))),
  (25, ab_nx 26 (ab_iload 3)),
  (26, ab_nx 27 (ab_lit (.int 1))),
  (27, ab_nx 29 (ab_iload 4)),
  (29, ab_nx 30 (ab_bin (fun x y => x <<< (y &&& 31)))),
  (30, ab_nx 31 (ab_bin (fun x y => x ||| y))),
  (31, ab_nx 32 (ab_istore 3)),
  (32, ab_nx 35 (ab_iinc 4 1)),
  (35, ab_goto 5),
  (38, ab_nx 39 (ab_iload 3)),
  (39, ab_ret 0 0)]
set_option maxRecDepth 100000 in
set_option maxHeartbeats 4000000 in
theorem M_X6_menOn {l : Launch} {b : ab_B} {D : va_G} {cA : Nat → ClassId} : ab_M l b D ab_cl cA (ab_E0 b) yX6_menOn (Cond.code yX6_menOn cX6_menOn 5 (some .int) :: ab_G) ({ frames := 1, cells := 0, slots := 0, locals := 100 } : Room) (ab_X (ab_T L_X6_menOn) 5) := by
  refine ab_meth (ret := (some .int)) L_X6_menOn (by decide) rfl fun p e R s m args below meth c o C => ?_
  unfold L_X6_menOn
  refine List.forall_mem_cons.mpr ⟨ok_iconst C (show decode cX6_menOn 0 = .ok (.iconst 0, 1) by decide +kernel) (by decide) rfl, ?_⟩
  refine List.forall_mem_cons.mpr ⟨ok_istore_n C (show decode cX6_menOn 1 = .ok (.istore_n 3, 1) by decide +kernel) rfl (by decide) rfl, ?_⟩
  refine List.forall_mem_cons.mpr ⟨ok_iconst C (show decode cX6_menOn 2 = .ok (.iconst 0, 1) by decide +kernel) (by decide) rfl, ?_⟩
  refine List.forall_mem_cons.mpr ⟨ok_istore C (show decode cX6_menOn 3 = .ok (.istore 4, 2) by decide +kernel) (by decide) rfl, ?_⟩
  refine List.forall_mem_cons.mpr ⟨ok_iload C (show decode cX6_menOn 5 = .ok (.iload 4, 2) by decide +kernel) rfl, ?_⟩
  refine List.forall_mem_cons.mpr ⟨ok_aload_n C (show decode cX6_menOn 7 = .ok (.aload_n 1, 1) by decide +kernel) rfl rfl, ?_⟩
  refine List.forall_mem_cons.mpr ⟨ok_getf C (wi_X7) rfl (by decide) kw_255 (show decode cX6_menOn 8 = .ok (.getfield 63, 3) by decide +kernel) rfl, ?_⟩
  refine List.forall_mem_cons.mpr ⟨ok_icmpge C (show decode cX6_menOn 11 = .ok (.if_icmp .ge 27, 3) by decide +kernel) (tg := 38) (by decide) rfl rfl, ?_⟩
  refine List.forall_mem_cons.mpr ⟨ok_aload_n C (show decode cX6_menOn 14 = .ok (.aload_n 0, 1) by decide +kernel) rfl rfl, ?_⟩
  refine List.forall_mem_cons.mpr ⟨ok_getf C (wi_X6) rfl (by decide) kw_155 (show decode cX6_menOn 15 = .ok (.getfield 24, 3) by decide +kernel) rfl, ?_⟩
  refine List.forall_mem_cons.mpr ⟨ok_iload C (show decode cX6_menOn 18 = .ok (.iload 4, 2) by decide +kernel) rfl, ?_⟩
  refine List.forall_mem_cons.mpr ⟨ok_iaload C (show decode cX6_menOn 20 = .ok (.iaload, 1) by decide +kernel) rfl, ?_⟩
  refine List.forall_mem_cons.mpr ⟨ok_iload_n C (show decode cX6_menOn 21 = .ok (.iload_n 2, 1) by decide +kernel) rfl rfl, ?_⟩
  refine List.forall_mem_cons.mpr ⟨ok_icmpne C (show decode cX6_menOn 22 = .ok (.if_icmp .ne 10, 3) by decide +kernel) (tg := 32) (by decide) rfl rfl, ?_⟩
  refine List.forall_mem_cons.mpr ⟨ok_iload_n C (show decode cX6_menOn 25 = .ok (.iload_n 3, 1) by decide +kernel) rfl rfl, ?_⟩
  refine List.forall_mem_cons.mpr ⟨ok_iconst C (show decode cX6_menOn 26 = .ok (.iconst 1, 1) by decide +kernel) (by decide) rfl, ?_⟩
  refine List.forall_mem_cons.mpr ⟨ok_iload C (show decode cX6_menOn 27 = .ok (.iload 4, 2) by decide +kernel) rfl, ?_⟩
  refine List.forall_mem_cons.mpr ⟨ok_ishl C (show decode cX6_menOn 29 = .ok (.ishl, 1) by decide +kernel) rfl, ?_⟩
  refine List.forall_mem_cons.mpr ⟨ok_ior C (show decode cX6_menOn 30 = .ok (.ior, 1) by decide +kernel) rfl, ?_⟩
  refine List.forall_mem_cons.mpr ⟨ok_istore_n C (show decode cX6_menOn 31 = .ok (.istore_n 3, 1) by decide +kernel) rfl (by decide) rfl, ?_⟩
  refine List.forall_mem_cons.mpr ⟨ok_iinc C (show decode cX6_menOn 32 = .ok (.iinc 4 1, 3) by decide +kernel) (by decide) (by decide) rfl, ?_⟩
  refine List.forall_mem_cons.mpr ⟨ok_goto C (show decode cX6_menOn 35 = .ok (.goto (-30), 3) by decide +kernel) (tg := 5) (by decide) rfl, ?_⟩
  refine List.forall_mem_cons.mpr ⟨ok_iload_n C (show decode cX6_menOn 38 = .ok (.iload_n 3, 1) by decide +kernel) rfl rfl, ?_⟩
  refine List.forall_mem_cons.mpr ⟨ok_ret C rfl (show decode cX6_menOn 39 = .ok (.ireturn, 1) by decide +kernel), ?_⟩
  exact fun _ h => absurd h List.not_mem_nil
def L_X6_missersOf (f_X6_isFelt : List Value → ab_H → Option ab_O) : List (Nat × ab_A) := [
  (0, ab_nx 1 (ab_lit (.int 0))),
  (1, ab_nx 2 (ab_istore 3)),
  (2, ab_nx 3 (ab_lit (.int 0))),
  (3, ab_nx 5 (ab_istore 4)),
  (5, ab_nx 7 (ab_iload 4)),
  (7, ab_nx 8 (ab_aload 1)),
  (8, ab_nx 11 (ab_getf 7 10)),
  (11, ab_icmp 14 53 (fun x y => decide (y ≤ x))),
  (14, ab_nx 15 (ab_aload 1)),
  (15, ab_nx 18 (ab_getf 7 5)),
  (18, ab_nx 20 (ab_iload 4)),
  (20, ab_nx 21 (ab_ald 1)),
  (21, ab_nx 22 (ab_iload 2)),
  (22, ab_icmp 25 47 (fun x y => !decide (x = y))),
  (25, ab_nx 26 (ab_aload 0)),
  (26, ab_nx 27 (ab_aload 1)),
  (27, ab_nx 29 (ab_iload 4)),
  (29, ab_nx 32 (ab_callV 3 6 f_X6_isFelt 0 0 0 0)),
  (32, ab_if 35 47 (fun x => decide (x = 0))),
  (35, ab_nx 36 (ab_iload 3)),
  (36, ab_nx 37 (ab_lit (.int 1))),
  (37, ab_nx 38 (ab_aload 1)),
  (38, ab_nx 41 (ab_getf 7 4)),
  (41, ab_nx 43 (ab_iload 4)),
  (43, ab_nx 44 (ab_ald 1)),
  (44, ab_nx 45 (ab_bin (fun x y => x <<< (y &&& 31)))),
  (45, ab_nx 46 (ab_bin (fun x y => x ||| y))),
  (46, ab_nx 47 (ab_istore 3)),
  (47, ab_nx 50 (ab_iinc 4 1)),
  (50, ab_goto 5),
  (53, ab_nx 54 (ab_iload 3)),
  (54, ab_ret 0 0)]
set_option maxRecDepth 100000 in
set_option maxHeartbeats 4000000 in
theorem M_X6_missersOf {l : Launch} {b : ab_B} {D : va_G} {cA : Nat → ClassId} {f_X6_isFelt : List Value → ab_H → Option ab_O} (h_X6_isFelt : ab_M l b D ab_cl cA (ab_E0 b) yX6_isFelt (Cond.code yX6_isFelt cX6_isFelt 6 (some .boolean) :: ab_G) ({ frames := 2, cells := 0, slots := 0, locals := 200 } : Room) f_X6_isFelt) : ab_M l b D ab_cl cA (ab_E0 b) yX6_missersOf (Cond.code yX6_missersOf cX6_missersOf 5 (some .int) :: ab_G) ({ frames := 3, cells := 0, slots := 0, locals := 300 } : Room) (ab_X (ab_T (L_X6_missersOf f_X6_isFelt)) 5) := by
  refine ab_meth (ret := (some .int)) (L_X6_missersOf f_X6_isFelt) (by decide) rfl fun p e R s m args below meth c o C => ?_
  unfold L_X6_missersOf
  refine List.forall_mem_cons.mpr ⟨ok_iconst C (show decode cX6_missersOf 0 = .ok (.iconst 0, 1) by decide +kernel) (by decide) rfl, ?_⟩
  refine List.forall_mem_cons.mpr ⟨ok_istore_n C (show decode cX6_missersOf 1 = .ok (.istore_n 3, 1) by decide +kernel) rfl (by decide) rfl, ?_⟩
  refine List.forall_mem_cons.mpr ⟨ok_iconst C (show decode cX6_missersOf 2 = .ok (.iconst 0, 1) by decide +kernel) (by decide) rfl, ?_⟩
  refine List.forall_mem_cons.mpr ⟨ok_istore C (show decode cX6_missersOf 3 = .ok (.istore 4, 2) by decide +kernel) (by decide) rfl, ?_⟩
  refine List.forall_mem_cons.mpr ⟨ok_iload C (show decode cX6_missersOf 5 = .ok (.iload 4, 2) by decide +kernel) rfl, ?_⟩
  refine List.forall_mem_cons.mpr ⟨ok_aload_n C (show decode cX6_missersOf 7 = .ok (.aload_n 1, 1) by decide +kernel) rfl rfl, ?_⟩
  refine List.forall_mem_cons.mpr ⟨ok_getf C (wi_X7) rfl (by decide) kw_257 (show decode cX6_missersOf 8 = .ok (.getfield 78, 3) by decide +kernel) rfl, ?_⟩
  refine List.forall_mem_cons.mpr ⟨ok_icmpge C (show decode cX6_missersOf 11 = .ok (.if_icmp .ge 42, 3) by decide +kernel) (tg := 53) (by decide) rfl rfl, ?_⟩
  refine List.forall_mem_cons.mpr ⟨ok_aload_n C (show decode cX6_missersOf 14 = .ok (.aload_n 1, 1) by decide +kernel) rfl rfl, ?_⟩
  refine List.forall_mem_cons.mpr ⟨ok_getf C (wi_X7) rfl (by decide) kw_242 (show decode cX6_missersOf 15 = .ok (.getfield 69, 3) by decide +kernel) rfl, ?_⟩
  refine List.forall_mem_cons.mpr ⟨ok_iload C (show decode cX6_missersOf 18 = .ok (.iload 4, 2) by decide +kernel) rfl, ?_⟩
  refine List.forall_mem_cons.mpr ⟨ok_iaload C (show decode cX6_missersOf 20 = .ok (.iaload, 1) by decide +kernel) rfl, ?_⟩
  refine List.forall_mem_cons.mpr ⟨ok_iload_n C (show decode cX6_missersOf 21 = .ok (.iload_n 2, 1) by decide +kernel) rfl rfl, ?_⟩
  refine List.forall_mem_cons.mpr ⟨ok_icmpne C (show decode cX6_missersOf 22 = .ok (.if_icmp .ne 25, 3) by decide +kernel) (tg := 47) (by decide) rfl rfl, ?_⟩
  refine List.forall_mem_cons.mpr ⟨ok_aload_n C (show decode cX6_missersOf 25 = .ok (.aload_n 0, 1) by decide +kernel) rfl rfl, ?_⟩
  refine List.forall_mem_cons.mpr ⟨ok_aload_n C (show decode cX6_missersOf 26 = .ok (.aload_n 1, 1) by decide +kernel) rfl rfl, ?_⟩
  refine List.forall_mem_cons.mpr ⟨ok_iload C (show decode cX6_missersOf 27 = .ok (.iload 4, 2) by decide +kernel) rfl, ?_⟩
  refine List.forall_mem_cons.mpr ⟨ok_callV C h_X6_isFelt ⟨rfl, rfl⟩ rfl kw_672 kw_669 kw_671 kp_19 kw_6 rfl ds_X6_isFelt ⟨by decide, by decide⟩ (show decode cX6_missersOf 29 = .ok (.invokevirtual 81, 3) by decide +kernel) rfl, ?_⟩
  refine List.forall_mem_cons.mpr ⟨ok_ifeq C (show decode cX6_missersOf 32 = .ok (.ifCond .eq 15, 3) by decide +kernel) (tg := 47) (by decide) rfl rfl, ?_⟩
  refine List.forall_mem_cons.mpr ⟨ok_iload_n C (show decode cX6_missersOf 35 = .ok (.iload_n 3, 1) by decide +kernel) rfl rfl, ?_⟩
  refine List.forall_mem_cons.mpr ⟨ok_iconst C (show decode cX6_missersOf 36 = .ok (.iconst 1, 1) by decide +kernel) (by decide) rfl, ?_⟩
  refine List.forall_mem_cons.mpr ⟨ok_aload_n C (show decode cX6_missersOf 37 = .ok (.aload_n 1, 1) by decide +kernel) rfl rfl, ?_⟩
  refine List.forall_mem_cons.mpr ⟨ok_getf C (wi_X7) rfl (by decide) kw_240 (show decode cX6_missersOf 38 = .ok (.getfield 66, 3) by decide +kernel) rfl, ?_⟩
  refine List.forall_mem_cons.mpr ⟨ok_iload C (show decode cX6_missersOf 41 = .ok (.iload 4, 2) by decide +kernel) rfl, ?_⟩
  refine List.forall_mem_cons.mpr ⟨ok_iaload C (show decode cX6_missersOf 43 = .ok (.iaload, 1) by decide +kernel) rfl, ?_⟩
  refine List.forall_mem_cons.mpr ⟨ok_ishl C (show decode cX6_missersOf 44 = .ok (.ishl, 1) by decide +kernel) rfl, ?_⟩
  refine List.forall_mem_cons.mpr ⟨ok_ior C (show decode cX6_missersOf 45 = .ok (.ior, 1) by decide +kernel) rfl, ?_⟩
  refine List.forall_mem_cons.mpr ⟨ok_istore_n C (show decode cX6_missersOf 46 = .ok (.istore_n 3, 1) by decide +kernel) rfl (by decide) rfl, ?_⟩
  refine List.forall_mem_cons.mpr ⟨ok_iinc C (show decode cX6_missersOf 47 = .ok (.iinc 4 1, 3) by decide +kernel) (by decide) (by decide) rfl, ?_⟩
  refine List.forall_mem_cons.mpr ⟨ok_goto C (show decode cX6_missersOf 50 = .ok (.goto (-45), 3) by decide +kernel) (tg := 5) (by decide) rfl, ?_⟩
  refine List.forall_mem_cons.mpr ⟨ok_iload_n C (show decode cX6_missersOf 53 = .ok (.iload_n 3, 1) by decide +kernel) rfl rfl, ?_⟩
  refine List.forall_mem_cons.mpr ⟨ok_ret C rfl (show decode cX6_missersOf 54 = .ok (.ireturn, 1) by decide +kernel), ?_⟩
  exact fun _ h => absurd h List.not_mem_nil
def L_X6_missedBy (f_X6_isFelt : List Value → ab_H → Option ab_O) : List (Nat × ab_A) := [
  (0, ab_nx 1 (ab_lit (.int 0))),
  (1, ab_nx 2 (ab_istore 3)),
  (2, ab_nx 3 (ab_lit (.int 0))),
  (3, ab_nx 5 (ab_istore 4)),
  (5, ab_nx 7 (ab_iload 4)),
  (7, ab_nx 8 (ab_aload 1)),
  (8, ab_nx 11 (ab_getf 7 10)),
  (11, ab_icmp 14 53 (fun x y => decide (y ≤ x))),
  (14, ab_nx 15 (ab_aload 1)),
  (15, ab_nx 18 (ab_getf 7 4)),
  (18, ab_nx 20 (ab_iload 4)),
  (20, ab_nx 21 (ab_ald 1)),
  (21, ab_nx 22 (ab_iload 2)),
  (22, ab_icmp 25 47 (fun x y => !decide (x = y))),
  (25, ab_nx 26 (ab_aload 0)),
  (26, ab_nx 27 (ab_aload 1)),
  (27, ab_nx 29 (ab_iload 4)),
  (29, ab_nx 32 (ab_callV 3 6 f_X6_isFelt 0 0 0 0)),
  (32, ab_if 35 47 (fun x => decide (x = 0))),
  (35, ab_nx 36 (ab_iload 3)),
  (36, ab_nx 37 (ab_lit (.int 1))),
  (37, ab_nx 38 (ab_aload 1)),
  (38, ab_nx 41 (ab_getf 7 5)),
  (41, ab_nx 43 (ab_iload 4)),
  (43, ab_nx 44 (ab_ald 1)),
  (44, ab_nx 45 (ab_bin (fun x y => x <<< (y &&& 31)))),
  (45, ab_nx 46 (ab_bin (fun x y => x ||| y))),
  (46, ab_nx 47 (ab_istore 3)),
  (47, ab_nx 50 (ab_iinc 4 1)),
  (50, ab_goto 5),
  (53, ab_nx 54 (ab_iload 3)),
  (54, ab_ret 0 0)]
set_option maxRecDepth 100000 in
set_option maxHeartbeats 4000000 in
theorem M_X6_missedBy {l : Launch} {b : ab_B} {D : va_G} {cA : Nat → ClassId} {f_X6_isFelt : List Value → ab_H → Option ab_O} (h_X6_isFelt : ab_M l b D ab_cl cA (ab_E0 b) yX6_isFelt (Cond.code yX6_isFelt cX6_isFelt 6 (some .boolean) :: ab_G) ({ frames := 2, cells := 0, slots := 0, locals := 200 } : Room) f_X6_isFelt) : ab_M l b D ab_cl cA (ab_E0 b) yX6_missedBy (Cond.code yX6_missedBy cX6_missedBy 5 (some .int) :: ab_G) ({ frames := 3, cells := 0, slots := 0, locals := 300 } : Room) (ab_X (ab_T (L_X6_missedBy f_X6_isFelt)) 5) := by
  refine ab_meth (ret := (some .int)) (L_X6_missedBy f_X6_isFelt) (by decide) rfl fun p e R s m args below meth c o C => ?_
  unfold L_X6_missedBy
  refine List.forall_mem_cons.mpr ⟨ok_iconst C (show decode cX6_missedBy 0 = .ok (.iconst 0, 1) by decide +kernel) (by decide) rfl, ?_⟩
  refine List.forall_mem_cons.mpr ⟨ok_istore_n C (show decode cX6_missedBy 1 = .ok (.istore_n 3, 1) by decide +kernel) rfl (by decide) rfl, ?_⟩
  refine List.forall_mem_cons.mpr ⟨ok_iconst C (show decode cX6_missedBy 2 = .ok (.iconst 0, 1) by decide +kernel) (by decide) rfl, ?_⟩
  refine List.forall_mem_cons.mpr ⟨ok_istore C (show decode cX6_missedBy 3 = .ok (.istore 4, 2) by decide +kernel) (by decide) rfl, ?_⟩
  refine List.forall_mem_cons.mpr ⟨ok_iload C (show decode cX6_missedBy 5 = .ok (.iload 4, 2) by decide +kernel) rfl, ?_⟩
  refine List.forall_mem_cons.mpr ⟨ok_aload_n C (show decode cX6_missedBy 7 = .ok (.aload_n 1, 1) by decide +kernel) rfl rfl, ?_⟩
  refine List.forall_mem_cons.mpr ⟨ok_getf C (wi_X7) rfl (by decide) kw_257 (show decode cX6_missedBy 8 = .ok (.getfield 78, 3) by decide +kernel) rfl, ?_⟩
  refine List.forall_mem_cons.mpr ⟨ok_icmpge C (show decode cX6_missedBy 11 = .ok (.if_icmp .ge 42, 3) by decide +kernel) (tg := 53) (by decide) rfl rfl, ?_⟩
  refine List.forall_mem_cons.mpr ⟨ok_aload_n C (show decode cX6_missedBy 14 = .ok (.aload_n 1, 1) by decide +kernel) rfl rfl, ?_⟩
  refine List.forall_mem_cons.mpr ⟨ok_getf C (wi_X7) rfl (by decide) kw_240 (show decode cX6_missedBy 15 = .ok (.getfield 66, 3) by decide +kernel) rfl, ?_⟩
  refine List.forall_mem_cons.mpr ⟨ok_iload C (show decode cX6_missedBy 18 = .ok (.iload 4, 2) by decide +kernel) rfl, ?_⟩
  refine List.forall_mem_cons.mpr ⟨ok_iaload C (show decode cX6_missedBy 20 = .ok (.iaload, 1) by decide +kernel) rfl, ?_⟩
  refine List.forall_mem_cons.mpr ⟨ok_iload_n C (show decode cX6_missedBy 21 = .ok (.iload_n 2, 1) by decide +kernel) rfl rfl, ?_⟩
  refine List.forall_mem_cons.mpr ⟨ok_icmpne C (show decode cX6_missedBy 22 = .ok (.if_icmp .ne 25, 3) by decide +kernel) (tg := 47) (by decide) rfl rfl, ?_⟩
  refine List.forall_mem_cons.mpr ⟨ok_aload_n C (show decode cX6_missedBy 25 = .ok (.aload_n 0, 1) by decide +kernel) rfl rfl, ?_⟩
  refine List.forall_mem_cons.mpr ⟨ok_aload_n C (show decode cX6_missedBy 26 = .ok (.aload_n 1, 1) by decide +kernel) rfl rfl, ?_⟩
  refine List.forall_mem_cons.mpr ⟨ok_iload C (show decode cX6_missedBy 27 = .ok (.iload 4, 2) by decide +kernel) rfl, ?_⟩
  refine List.forall_mem_cons.mpr ⟨ok_callV C h_X6_isFelt ⟨rfl, rfl⟩ rfl kw_672 kw_669 kw_671 kp_19 kw_6 rfl ds_X6_isFelt ⟨by decide, by decide⟩ (show decode cX6_missedBy 29 = .ok (.invokevirtual 81, 3) by decide +kernel) rfl, ?_⟩
  refine List.forall_mem_cons.mpr ⟨ok_ifeq C (show decode cX6_missedBy 32 = .ok (.ifCond .eq 15, 3) by decide +kernel) (tg := 47) (by decide) rfl rfl, ?_⟩
  refine List.forall_mem_cons.mpr ⟨ok_iload_n C (show decode cX6_missedBy 35 = .ok (.iload_n 3, 1) by decide +kernel) rfl rfl, ?_⟩
  refine List.forall_mem_cons.mpr ⟨ok_iconst C (show decode cX6_missedBy 36 = .ok (.iconst 1, 1) by decide +kernel) (by decide) rfl, ?_⟩
  refine List.forall_mem_cons.mpr ⟨ok_aload_n C (show decode cX6_missedBy 37 = .ok (.aload_n 1, 1) by decide +kernel) rfl rfl, ?_⟩
  refine List.forall_mem_cons.mpr ⟨ok_getf C (wi_X7) rfl (by decide) kw_242 (show decode cX6_missedBy 38 = .ok (.getfield 69, 3) by decide +kernel) rfl, ?_⟩
  refine List.forall_mem_cons.mpr ⟨ok_iload C (show decode cX6_missedBy 41 = .ok (.iload 4, 2) by decide +kernel) rfl, ?_⟩
  refine List.forall_mem_cons.mpr ⟨ok_iaload C (show decode cX6_missedBy 43 = .ok (.iaload, 1) by decide +kernel) rfl, ?_⟩
  refine List.forall_mem_cons.mpr ⟨ok_ishl C (show decode cX6_missedBy 44 = .ok (.ishl, 1) by decide +kernel) rfl, ?_⟩
  refine List.forall_mem_cons.mpr ⟨ok_ior C (show decode cX6_missedBy 45 = .ok (.ior, 1) by decide +kernel) rfl, ?_⟩
  refine List.forall_mem_cons.mpr ⟨ok_istore_n C (show decode cX6_missedBy 46 = .ok (.istore_n 3, 1) by decide +kernel) rfl (by decide) rfl, ?_⟩
  refine List.forall_mem_cons.mpr ⟨ok_iinc C (show decode cX6_missedBy 47 = .ok (.iinc 4 1, 3) by decide +kernel) (by decide) (by decide) rfl, ?_⟩
  refine List.forall_mem_cons.mpr ⟨ok_goto C (show decode cX6_missedBy 50 = .ok (.goto (-45), 3) by decide +kernel) (tg := 5) (by decide) rfl, ?_⟩
  refine List.forall_mem_cons.mpr ⟨ok_iload_n C (show decode cX6_missedBy 53 = .ok (.iload_n 3, 1) by decide +kernel) rfl rfl, ?_⟩
  refine List.forall_mem_cons.mpr ⟨ok_ret C rfl (show decode cX6_missedBy 54 = .ok (.ireturn, 1) by decide +kernel), ?_⟩
  exact fun _ h => absurd h List.not_mem_nil
def L_X6_couldBeMissed (f_X6_isAlive : List Value → ab_H → Option ab_O) : List (Nat × ab_A) := [
  (0, ab_nx 1 (ab_lit (.int 0))),
  (1, ab_nx 2 (ab_istore 3)),
  (2, ab_nx 3 (ab_iload 3)),
  (3, ab_nx 4 (ab_aload 1)),
  (4, ab_nx 7 (ab_getf 7 10)),
  (7, ab_icmp 10 41 (fun x y => decide (y ≤ x))),
  (10, ab_nx 11 (ab_aload 1)),
  (11, ab_nx 14 (ab_getf 7 5)),
  (14, ab_nx 15 (ab_iload 3)),
  (15, ab_nx 16 (ab_ald 1)),
  (16, ab_nx 17 (ab_iload 2)),
  (17, ab_icmp 20 35 (fun x y => !decide (x = y))),
  (20, ab_nx 21 (ab_aload 0)),
  (21, ab_nx 22 (ab_aload 1)),
  (22, ab_nx 25 (ab_getf 7 4)),
  (25, ab_nx 26 (ab_iload 3)),
  (26, ab_nx 27 (ab_ald 1)),
  (27, ab_nx 30 (ab_callV 2 6 f_X6_isAlive 0 0 0 0)),
  (30, ab_if 33 35 (fun x => decide (x = 0))),
  (33, ab_nx 34 (ab_lit (.int 1))),
  (34, ab_zret 0 0),
  (35, ab_nx 38 (ab_iinc 3 1)),
  (38, ab_goto 2),
  (41, ab_nx 42 (ab_lit (.int 0))),
  (42, ab_zret 0 0)]
set_option maxRecDepth 100000 in
set_option maxHeartbeats 4000000 in
theorem M_X6_couldBeMissed {l : Launch} {b : ab_B} {D : va_G} {cA : Nat → ClassId} {f_X6_isAlive : List Value → ab_H → Option ab_O} (h_X6_isAlive : ab_M l b D ab_cl cA (ab_E0 b) yX6_isAlive (Cond.code yX6_isAlive cX6_isAlive 2 (some .boolean) :: ab_G) ({ frames := 1, cells := 0, slots := 0, locals := 100 } : Room) f_X6_isAlive) : ab_M l b D ab_cl cA (ab_E0 b) yX6_couldBeMissed (Cond.code yX6_couldBeMissed cX6_couldBeMissed 4 (some .boolean) :: ab_G) ({ frames := 2, cells := 0, slots := 0, locals := 200 } : Room) (ab_X (ab_T (L_X6_couldBeMissed f_X6_isAlive)) 4) := by
  refine ab_meth (ret := (some .boolean)) (L_X6_couldBeMissed f_X6_isAlive) (by decide) rfl fun p e R s m args below meth c o C => ?_
  unfold L_X6_couldBeMissed
  refine List.forall_mem_cons.mpr ⟨ok_iconst C (show decode cX6_couldBeMissed 0 = .ok (.iconst 0, 1) by decide +kernel) (by decide) rfl, ?_⟩
  refine List.forall_mem_cons.mpr ⟨ok_istore_n C (show decode cX6_couldBeMissed 1 = .ok (.istore_n 3, 1) by decide +kernel) rfl (by decide) rfl, ?_⟩
  refine List.forall_mem_cons.mpr ⟨ok_iload_n C (show decode cX6_couldBeMissed 2 = .ok (.iload_n 3, 1) by decide +kernel) rfl rfl, ?_⟩
  refine List.forall_mem_cons.mpr ⟨ok_aload_n C (show decode cX6_couldBeMissed 3 = .ok (.aload_n 1, 1) by decide +kernel) rfl rfl, ?_⟩
  refine List.forall_mem_cons.mpr ⟨ok_getf C (wi_X7) rfl (by decide) kw_257 (show decode cX6_couldBeMissed 4 = .ok (.getfield 78, 3) by decide +kernel) rfl, ?_⟩
  refine List.forall_mem_cons.mpr ⟨ok_icmpge C (show decode cX6_couldBeMissed 7 = .ok (.if_icmp .ge 34, 3) by decide +kernel) (tg := 41) (by decide) rfl rfl, ?_⟩
  refine List.forall_mem_cons.mpr ⟨ok_aload_n C (show decode cX6_couldBeMissed 10 = .ok (.aload_n 1, 1) by decide +kernel) rfl rfl, ?_⟩
  refine List.forall_mem_cons.mpr ⟨ok_getf C (wi_X7) rfl (by decide) kw_242 (show decode cX6_couldBeMissed 11 = .ok (.getfield 69, 3) by decide +kernel) rfl, ?_⟩
  refine List.forall_mem_cons.mpr ⟨ok_iload_n C (show decode cX6_couldBeMissed 14 = .ok (.iload_n 3, 1) by decide +kernel) rfl rfl, ?_⟩
  refine List.forall_mem_cons.mpr ⟨ok_iaload C (show decode cX6_couldBeMissed 15 = .ok (.iaload, 1) by decide +kernel) rfl, ?_⟩
  refine List.forall_mem_cons.mpr ⟨ok_iload_n C (show decode cX6_couldBeMissed 16 = .ok (.iload_n 2, 1) by decide +kernel) rfl rfl, ?_⟩
  refine List.forall_mem_cons.mpr ⟨ok_icmpne C (show decode cX6_couldBeMissed 17 = .ok (.if_icmp .ne 18, 3) by decide +kernel) (tg := 35) (by decide) rfl rfl, ?_⟩
  refine List.forall_mem_cons.mpr ⟨ok_aload_n C (show decode cX6_couldBeMissed 20 = .ok (.aload_n 0, 1) by decide +kernel) rfl rfl, ?_⟩
  refine List.forall_mem_cons.mpr ⟨ok_aload_n C (show decode cX6_couldBeMissed 21 = .ok (.aload_n 1, 1) by decide +kernel) rfl rfl, ?_⟩
  refine List.forall_mem_cons.mpr ⟨ok_getf C (wi_X7) rfl (by decide) kw_240 (show decode cX6_couldBeMissed 22 = .ok (.getfield 66, 3) by decide +kernel) rfl, ?_⟩
  refine List.forall_mem_cons.mpr ⟨ok_iload_n C (show decode cX6_couldBeMissed 25 = .ok (.iload_n 3, 1) by decide +kernel) rfl rfl, ?_⟩
  refine List.forall_mem_cons.mpr ⟨ok_iaload C (show decode cX6_couldBeMissed 26 = .ok (.iaload, 1) by decide +kernel) rfl, ?_⟩
  refine List.forall_mem_cons.mpr ⟨ok_callV C h_X6_isAlive ⟨rfl, rfl⟩ rfl kw_632 kw_688 kw_630 kw_631 kw_6 rfl ds_X6_isAlive ⟨by decide, by decide⟩ (show decode cX6_couldBeMissed 27 = .ok (.invokevirtual 85, 3) by decide +kernel) rfl, ?_⟩
  refine List.forall_mem_cons.mpr ⟨ok_ifeq C (show decode cX6_couldBeMissed 30 = .ok (.ifCond .eq 5, 3) by decide +kernel) (tg := 35) (by decide) rfl rfl, ?_⟩
  refine List.forall_mem_cons.mpr ⟨ok_iconst C (show decode cX6_couldBeMissed 33 = .ok (.iconst 1, 1) by decide +kernel) (by decide) rfl, ?_⟩
  refine List.forall_mem_cons.mpr ⟨ok_zret C rfl (show decode cX6_couldBeMissed 34 = .ok (.ireturn, 1) by decide +kernel), ?_⟩
  refine List.forall_mem_cons.mpr ⟨ok_iinc C (show decode cX6_couldBeMissed 35 = .ok (.iinc 3 1, 3) by decide +kernel) (by decide) (by decide) rfl, ?_⟩
  refine List.forall_mem_cons.mpr ⟨ok_goto C (show decode cX6_couldBeMissed 38 = .ok (.goto (-36), 3) by decide +kernel) (tg := 2) (by decide) rfl, ?_⟩
  refine List.forall_mem_cons.mpr ⟨ok_iconst C (show decode cX6_couldBeMissed 41 = .ok (.iconst 0, 1) by decide +kernel) (by decide) rfl, ?_⟩
  refine List.forall_mem_cons.mpr ⟨ok_zret C rfl (show decode cX6_couldBeMissed 42 = .ok (.ireturn, 1) by decide +kernel), ?_⟩
  exact fun _ h => absurd h List.not_mem_nil
def L_X6_whyNot (f_X6_isAlive : List Value → ab_H → Option ab_O) : List (Nat × ab_A) := [
  (0, ab_nx 1 (ab_iload 1)),
  (1, ab_tab 0 [28, 44, 78] 94),
  (28, ab_nx 29 (ab_aload 0)),
  (29, ab_nx 32 (ab_getf 6 0)),
  (32, ab_nx 33 (ab_iload 2)),
  (33, ab_nx 34 (ab_ald 1)),
  (34, ab_nx 35 (ab_iload 3)),
  (35, ab_icmp 38 42 (fun x y => decide (y ≤ x))),
  (38, ab_nx 39 (ab_lit (.int 1))),
  (39, ab_goto 43),
  (42, ab_nx 43 (ab_lit (.int 0))),
  (43, ab_ret 0 0),
  (44, ab_nx 45 (ab_aload 0)),
  (45, ab_nx 48 (ab_getf 6 1)),
  (48, ab_nx 49 (ab_iload 2)),
  (49, ab_nx 50 (ab_ald 1)),
  (50, ab_nx 51 (ab_iload 3)),
  (51, ab_icmp 54 58 (fun x y => decide (y ≤ x))),
  (54, ab_nx 55 (ab_lit (.int 1))),
  (55, ab_goto 77),
  (58, ab_nx 59 (ab_aload 0)),
  (59, ab_nx 62 (ab_getf 6 0)),
  (62, ab_nx 63 (ab_iload 2)),
  (63, ab_nx 64 (ab_ald 1)),
  (64, ab_nx 65 (ab_iload 3)),
  (65, ab_nx 66 (ab_bin (fun x y => x + y))),
  (66, ab_nx 69 (ab_lit (.int 999))),
  (69, ab_icmp 72 76 (fun x y => decide (x ≤ y))),
  (72, ab_nx 73 (ab_lit (.int 2))),
  (73, ab_goto 77),
  (76, ab_nx 77 (ab_lit (.int 0))),
  (77, ab_ret 0 0),
  (78, ab_nx 79 (ab_aload 0)),
  (79, ab_nx 82 (ab_getf 6 0)),
  (82, ab_nx 83 (ab_iload 2)),
  (83, ab_nx 84 (ab_ald 1)),
  (84, ab_nx 85 (ab_iload 3)),
  (85, ab_icmp 88 92 (fun x y => decide (y ≤ x))),
  (88, ab_nx 89 (ab_lit (.int 1))),
  (89, ab_goto 93),
  (92, ab_nx 93 (ab_lit (.int 0))),
  (93, ab_ret 0 0),
  (94, ab_nx 95 (ab_aload 0)),
  (95, ab_nx 96 (ab_iload 2)),
  (96, ab_nx 99 (ab_callV 2 6 f_X6_isAlive 0 0 0 0)),
  (99, ab_if 102 106 (fun x => decide (x = 0))),
  (102, ab_nx 103 (ab_lit (.int 0))),
  (103, ab_goto 107),
  (106, ab_nx 107 (ab_lit (.int 1))),
  (107, ab_ret 0 0)]
set_option maxRecDepth 100000 in
set_option maxHeartbeats 4000000 in
theorem M_X6_whyNot {l : Launch} {b : ab_B} {D : va_G} {cA : Nat → ClassId} {f_X6_isAlive : List Value → ab_H → Option ab_O} (h_X6_isAlive : ab_M l b D ab_cl cA (ab_E0 b) yX6_isAlive (Cond.code yX6_isAlive cX6_isAlive 2 (some .boolean) :: ab_G) ({ frames := 1, cells := 0, slots := 0, locals := 100 } : Room) f_X6_isAlive) : ab_M l b D ab_cl cA (ab_E0 b) yX6_whyNot (Cond.code yX6_whyNot cX6_whyNot 4 (some .int) :: ab_G) ({ frames := 2, cells := 0, slots := 0, locals := 200 } : Room) (ab_X (ab_T (L_X6_whyNot f_X6_isAlive)) 4) := by
  refine ab_meth (ret := (some .int)) (L_X6_whyNot f_X6_isAlive) (by decide) rfl fun p e R s m args below meth c o C => ?_
  unfold L_X6_whyNot
  refine List.forall_mem_cons.mpr ⟨ok_iload_n C (show decode cX6_whyNot 0 = .ok (.iload_n 1, 1) by decide +kernel) rfl rfl, ?_⟩
  refine List.forall_mem_cons.mpr ⟨ok_tab C (show decode cX6_whyNot 1 = .ok (.tableswitch 93 0 2 #[27, 43, 77], 27) by decide +kernel) (by decide) (by decide) (by decide), ?_⟩
  refine List.forall_mem_cons.mpr ⟨ok_aload_n C (show decode cX6_whyNot 28 = .ok (.aload_n 0, 1) by decide +kernel) rfl rfl, ?_⟩
  refine List.forall_mem_cons.mpr ⟨ok_getf C (wi_X6) rfl (by decide) kw_142 (show decode cX6_whyNot 29 = .ok (.getfield 9, 3) by decide +kernel) rfl, ?_⟩
  refine List.forall_mem_cons.mpr ⟨ok_iload_n C (show decode cX6_whyNot 32 = .ok (.iload_n 2, 1) by decide +kernel) rfl rfl, ?_⟩
  refine List.forall_mem_cons.mpr ⟨ok_iaload C (show decode cX6_whyNot 33 = .ok (.iaload, 1) by decide +kernel) rfl, ?_⟩
  refine List.forall_mem_cons.mpr ⟨ok_iload_n C (show decode cX6_whyNot 34 = .ok (.iload_n 3, 1) by decide +kernel) rfl rfl, ?_⟩
  refine List.forall_mem_cons.mpr ⟨ok_icmpge C (show decode cX6_whyNot 35 = .ok (.if_icmp .ge 7, 3) by decide +kernel) (tg := 42) (by decide) rfl rfl, ?_⟩
  refine List.forall_mem_cons.mpr ⟨ok_iconst C (show decode cX6_whyNot 38 = .ok (.iconst 1, 1) by decide +kernel) (by decide) rfl, ?_⟩
  refine List.forall_mem_cons.mpr ⟨ok_goto C (show decode cX6_whyNot 39 = .ok (.goto 4, 3) by decide +kernel) (tg := 43) (by decide) rfl, ?_⟩
  refine List.forall_mem_cons.mpr ⟨ok_iconst C (show decode cX6_whyNot 42 = .ok (.iconst 0, 1) by decide +kernel) (by decide) rfl, ?_⟩
  refine List.forall_mem_cons.mpr ⟨ok_ret C rfl (show decode cX6_whyNot 43 = .ok (.ireturn, 1) by decide +kernel), ?_⟩
  refine List.forall_mem_cons.mpr ⟨ok_aload_n C (show decode cX6_whyNot 44 = .ok (.aload_n 0, 1) by decide +kernel) rfl rfl, ?_⟩
  refine List.forall_mem_cons.mpr ⟨ok_getf C (wi_X6) rfl (by decide) kw_146 (show decode cX6_whyNot 45 = .ok (.getfield 15, 3) by decide +kernel) rfl, ?_⟩
  refine List.forall_mem_cons.mpr ⟨ok_iload_n C (show decode cX6_whyNot 48 = .ok (.iload_n 2, 1) by decide +kernel) rfl rfl, ?_⟩
  refine List.forall_mem_cons.mpr ⟨ok_iaload C (show decode cX6_whyNot 49 = .ok (.iaload, 1) by decide +kernel) rfl, ?_⟩
  refine List.forall_mem_cons.mpr ⟨ok_iload_n C (show decode cX6_whyNot 50 = .ok (.iload_n 3, 1) by decide +kernel) rfl rfl, ?_⟩
  refine List.forall_mem_cons.mpr ⟨ok_icmpge C (show decode cX6_whyNot 51 = .ok (.if_icmp .ge 7, 3) by decide +kernel) (tg := 58) (by decide) rfl rfl, ?_⟩
  refine List.forall_mem_cons.mpr ⟨ok_iconst C (show decode cX6_whyNot 54 = .ok (.iconst 1, 1) by decide +kernel) (by decide) rfl, ?_⟩
  refine List.forall_mem_cons.mpr ⟨ok_goto C (show decode cX6_whyNot 55 = .ok (.goto 22, 3) by decide +kernel) (tg := 77) (by decide) rfl, ?_⟩
  refine List.forall_mem_cons.mpr ⟨ok_aload_n C (show decode cX6_whyNot 58 = .ok (.aload_n 0, 1) by decide +kernel) rfl rfl, ?_⟩
  refine List.forall_mem_cons.mpr ⟨ok_getf C (wi_X6) rfl (by decide) kw_142 (show decode cX6_whyNot 59 = .ok (.getfield 9, 3) by decide +kernel) rfl, ?_⟩
  refine List.forall_mem_cons.mpr ⟨ok_iload_n C (show decode cX6_whyNot 62 = .ok (.iload_n 2, 1) by decide +kernel) rfl rfl, ?_⟩
  refine List.forall_mem_cons.mpr ⟨ok_iaload C (show decode cX6_whyNot 63 = .ok (.iaload, 1) by decide +kernel) rfl, ?_⟩
  refine List.forall_mem_cons.mpr ⟨ok_iload_n C (show decode cX6_whyNot 64 = .ok (.iload_n 3, 1) by decide +kernel) rfl rfl, ?_⟩
  refine List.forall_mem_cons.mpr ⟨ok_iadd C (show decode cX6_whyNot 65 = .ok (.iadd, 1) by decide +kernel) rfl, ?_⟩
  refine List.forall_mem_cons.mpr ⟨ok_sipush C (show decode cX6_whyNot 66 = .ok (.sipush 999, 3) by decide +kernel) (by decide) rfl, ?_⟩
  refine List.forall_mem_cons.mpr ⟨ok_icmple C (show decode cX6_whyNot 69 = .ok (.if_icmp .le 7, 3) by decide +kernel) (tg := 76) (by decide) rfl rfl, ?_⟩
  refine List.forall_mem_cons.mpr ⟨ok_iconst C (show decode cX6_whyNot 72 = .ok (.iconst 2, 1) by decide +kernel) (by decide) rfl, ?_⟩
  refine List.forall_mem_cons.mpr ⟨ok_goto C (show decode cX6_whyNot 73 = .ok (.goto 4, 3) by decide +kernel) (tg := 77) (by decide) rfl, ?_⟩
  refine List.forall_mem_cons.mpr ⟨ok_iconst C (show decode cX6_whyNot 76 = .ok (.iconst 0, 1) by decide +kernel) (by decide) rfl, ?_⟩
  refine List.forall_mem_cons.mpr ⟨ok_ret C rfl (show decode cX6_whyNot 77 = .ok (.ireturn, 1) by decide +kernel), ?_⟩
  refine List.forall_mem_cons.mpr ⟨ok_aload_n C (show decode cX6_whyNot 78 = .ok (.aload_n 0, 1) by decide +kernel) rfl rfl, ?_⟩
  refine List.forall_mem_cons.mpr ⟨ok_getf C (wi_X6) rfl (by decide) kw_142 (show decode cX6_whyNot 79 = .ok (.getfield 9, 3) by decide +kernel) rfl, ?_⟩
  refine List.forall_mem_cons.mpr ⟨ok_iload_n C (show decode cX6_whyNot 82 = .ok (.iload_n 2, 1) by decide +kernel) rfl rfl, ?_⟩
  refine List.forall_mem_cons.mpr ⟨ok_iaload C (show decode cX6_whyNot 83 = .ok (.iaload, 1) by decide +kernel) rfl, ?_⟩
  refine List.forall_mem_cons.mpr ⟨ok_iload_n C (show decode cX6_whyNot 84 = .ok (.iload_n 3, 1) by decide +kernel) rfl rfl, ?_⟩
  refine List.forall_mem_cons.mpr ⟨ok_icmpge C (show decode cX6_whyNot 85 = .ok (.if_icmp .ge 7, 3) by decide +kernel) (tg := 92) (by decide) rfl rfl, ?_⟩
  refine List.forall_mem_cons.mpr ⟨ok_iconst C (show decode cX6_whyNot 88 = .ok (.iconst 1, 1) by decide +kernel) (by decide) rfl, ?_⟩
  refine List.forall_mem_cons.mpr ⟨ok_goto C (show decode cX6_whyNot 89 = .ok (.goto 4, 3) by decide +kernel) (tg := 93) (by decide) rfl, ?_⟩
  refine List.forall_mem_cons.mpr ⟨ok_iconst C (show decode cX6_whyNot 92 = .ok (.iconst 0, 1) by decide +kernel) (by decide) rfl, ?_⟩
  refine List.forall_mem_cons.mpr ⟨ok_ret C rfl (show decode cX6_whyNot 93 = .ok (.ireturn, 1) by decide +kernel), ?_⟩
  refine List.forall_mem_cons.mpr ⟨ok_aload_n C (show decode cX6_whyNot 94 = .ok (.aload_n 0, 1) by decide +kernel) rfl rfl, ?_⟩
  refine List.forall_mem_cons.mpr ⟨ok_iload_n C (show decode cX6_whyNot 95 = .ok (.iload_n 2, 1) by decide +kernel) rfl rfl, ?_⟩
  refine List.forall_mem_cons.mpr ⟨ok_callV C h_X6_isAlive ⟨rfl, rfl⟩ rfl kw_632 kw_688 kw_630 kw_631 kw_6 rfl ds_X6_isAlive ⟨by decide, by decide⟩ (show decode cX6_whyNot 96 = .ok (.invokevirtual 85, 3) by decide +kernel) rfl, ?_⟩
  refine List.forall_mem_cons.mpr ⟨ok_ifeq C (show decode cX6_whyNot 99 = .ok (.ifCond .eq 7, 3) by decide +kernel) (tg := 106) (by decide) rfl rfl, ?_⟩
  refine List.forall_mem_cons.mpr ⟨ok_iconst C (show decode cX6_whyNot 102 = .ok (.iconst 0, 1) by decide +kernel) (by decide) rfl, ?_⟩
  refine List.forall_mem_cons.mpr ⟨ok_goto C (show decode cX6_whyNot 103 = .ok (.goto 4, 3) by decide +kernel) (tg := 107) (by decide) rfl, ?_⟩
  refine List.forall_mem_cons.mpr ⟨ok_iconst C (show decode cX6_whyNot 106 = .ok (.iconst 1, 1) by decide +kernel) (by decide) rfl, ?_⟩
  refine List.forall_mem_cons.mpr ⟨ok_ret C rfl (show decode cX6_whyNot 107 = .ok (.ireturn, 1) by decide +kernel), ?_⟩
  exact fun _ h => absurd h List.not_mem_nil
def L_X6_perform : List (Nat × ab_A) := [
  (0, ab_nx 1 (ab_iload 1)),
  (1, ab_nx 2 (ab_lit (.int 3))),
  (2, ab_icmp 5 13 (fun x y => !decide (x = y))),
  (5, ab_nx 6 (ab_aload 0)),
  (6, ab_nx 9 (ab_getf 6 4)),
  (9, ab_nx 10 (ab_iload 2)),
  (10, ab_nx 11 (ab_lit (.int (-1)))),
  (11, ab_nx 12 (ab_ast 1)),
  (12, ab_vret 0 0),
  (13, ab_nx 14 (ab_aload 0)),
  (14, ab_nx 17 (ab_getf 6 0)),
  (17, ab_nx 18 (ab_iload 2)),
  (18, ab_nx 19 ab_dup2),
  (19, ab_nx 20 (ab_ald 1)),
  (20, ab_nx 21 (ab_iload 1)),
  (21, ab_nx 22 (ab_lit (.int 1))),
  (22, ab_icmp 25 29 (fun x y => !decide (x = y))),
  (25, ab_nx 26 (ab_iload 3)),
  (26, ab_goto 31),
  (29, ab_nx 30 (ab_iload 3)),
  (30, ab_nx 31 (ab_un (fun x => -x))),
  (31, ab_nx 32 (ab_bin (fun x y => x + y))),
  (32, ab_nx 33 (ab_ast 1)),
  (33, ab_nx 34 (ab_iload 1)),
  (34, ab_if 37 50 (fun x => !decide (x = 0))),
  (37, ab_nx 38 (ab_aload 0)),
  (38, ab_nx 41 (ab_getf 6 1)),
  (41, ab_nx 42 (ab_iload 2)),
  (42, ab_nx 43 ab_dup2),
  (43, ab_nx 44 (ab_ald 1)),
  (44, ab_nx 45 (ab_iload 3)),
  (45, ab_nx 46 (ab_bin (fun x y => x + y))),
  (46, ab_nx 47 (ab_ast 1)),
  (47, ab_goto 65),
  (50, ab_nx 51 (ab_iload 1)),
  (51, ab_nx 52 (ab_lit (.int 1))),
  (52, ab_icmp 55 65 (fun x y => !decide (x = y))),
  (55, ab_nx 56 (ab_aload 0)),
  (56, ab_nx 59 (ab_getf 6 1)),
  (59, ab_nx 60 (ab_iload 2)),
  (60, ab_nx 61 ab_dup2),
  (61, ab_nx 62 (ab_ald 1)),
  (62, ab_nx 63 (ab_iload 3)),
  (63, ab_nx 64 (ab_bin (fun x y => x - y))),
  (64, ab_nx 65 (ab_ast 1)),
  (65, ab_vret 0 0)]
set_option maxRecDepth 100000 in
set_option maxHeartbeats 4000000 in
theorem M_X6_perform {l : Launch} {b : ab_B} {D : va_G} {cA : Nat → ClassId} : ab_M l b D ab_cl cA (ab_E0 b) yX6_perform (Cond.code yX6_perform cX6_perform 4 none :: ab_G) ({ frames := 1, cells := 0, slots := 0, locals := 100 } : Room) (ab_X (ab_T L_X6_perform) 4) := by
  refine ab_meth (ret := none) L_X6_perform (by decide) rfl fun p e R s m args below meth c o C => ?_
  unfold L_X6_perform
  refine List.forall_mem_cons.mpr ⟨ok_iload_n C (show decode cX6_perform 0 = .ok (.iload_n 1, 1) by decide +kernel) rfl rfl, ?_⟩
  refine List.forall_mem_cons.mpr ⟨ok_iconst C (show decode cX6_perform 1 = .ok (.iconst 3, 1) by decide +kernel) (by decide) rfl, ?_⟩
  refine List.forall_mem_cons.mpr ⟨ok_icmpne C (show decode cX6_perform 2 = .ok (.if_icmp .ne 11, 3) by decide +kernel) (tg := 13) (by decide) rfl rfl, ?_⟩
  refine List.forall_mem_cons.mpr ⟨ok_aload_n C (show decode cX6_perform 5 = .ok (.aload_n 0, 1) by decide +kernel) rfl rfl, ?_⟩
  refine List.forall_mem_cons.mpr ⟨ok_getf C (wi_X6) rfl (by decide) kw_155 (show decode cX6_perform 6 = .ok (.getfield 24, 3) by decide +kernel) rfl, ?_⟩
  refine List.forall_mem_cons.mpr ⟨ok_iload_n C (show decode cX6_perform 9 = .ok (.iload_n 2, 1) by decide +kernel) rfl rfl, ?_⟩
  refine List.forall_mem_cons.mpr ⟨ok_iconst C (show decode cX6_perform 10 = .ok (.iconst (-1), 1) by decide +kernel) (by decide) rfl, ?_⟩
  refine List.forall_mem_cons.mpr ⟨ok_iastore C (show decode cX6_perform 11 = .ok (.iastore, 1) by decide +kernel) rfl, ?_⟩
  refine List.forall_mem_cons.mpr ⟨ok_vret C rfl (show decode cX6_perform 12 = .ok (.return_, 1) by decide +kernel), ?_⟩
  refine List.forall_mem_cons.mpr ⟨ok_aload_n C (show decode cX6_perform 13 = .ok (.aload_n 0, 1) by decide +kernel) rfl rfl, ?_⟩
  refine List.forall_mem_cons.mpr ⟨ok_getf C (wi_X6) rfl (by decide) kw_142 (show decode cX6_perform 14 = .ok (.getfield 9, 3) by decide +kernel) rfl, ?_⟩
  refine List.forall_mem_cons.mpr ⟨ok_iload_n C (show decode cX6_perform 17 = .ok (.iload_n 2, 1) by decide +kernel) rfl rfl, ?_⟩
  refine List.forall_mem_cons.mpr ⟨ok_dup2 C (show decode cX6_perform 18 = .ok (.dup2, 1) by decide +kernel) rfl, ?_⟩
  refine List.forall_mem_cons.mpr ⟨ok_iaload C (show decode cX6_perform 19 = .ok (.iaload, 1) by decide +kernel) rfl, ?_⟩
  refine List.forall_mem_cons.mpr ⟨ok_iload_n C (show decode cX6_perform 20 = .ok (.iload_n 1, 1) by decide +kernel) rfl rfl, ?_⟩
  refine List.forall_mem_cons.mpr ⟨ok_iconst C (show decode cX6_perform 21 = .ok (.iconst 1, 1) by decide +kernel) (by decide) rfl, ?_⟩
  refine List.forall_mem_cons.mpr ⟨ok_icmpne C (show decode cX6_perform 22 = .ok (.if_icmp .ne 7, 3) by decide +kernel) (tg := 29) (by decide) rfl rfl, ?_⟩
  refine List.forall_mem_cons.mpr ⟨ok_iload_n C (show decode cX6_perform 25 = .ok (.iload_n 3, 1) by decide +kernel) rfl rfl, ?_⟩
  refine List.forall_mem_cons.mpr ⟨ok_goto C (show decode cX6_perform 26 = .ok (.goto 5, 3) by decide +kernel) (tg := 31) (by decide) rfl, ?_⟩
  refine List.forall_mem_cons.mpr ⟨ok_iload_n C (show decode cX6_perform 29 = .ok (.iload_n 3, 1) by decide +kernel) rfl rfl, ?_⟩
  refine List.forall_mem_cons.mpr ⟨ok_ineg C (show decode cX6_perform 30 = .ok (.ineg, 1) by decide +kernel) rfl, ?_⟩
  refine List.forall_mem_cons.mpr ⟨ok_iadd C (show decode cX6_perform 31 = .ok (.iadd, 1) by decide +kernel) rfl, ?_⟩
  refine List.forall_mem_cons.mpr ⟨ok_iastore C (show decode cX6_perform 32 = .ok (.iastore, 1) by decide +kernel) rfl, ?_⟩
  refine List.forall_mem_cons.mpr ⟨ok_iload_n C (show decode cX6_perform 33 = .ok (.iload_n 1, 1) by decide +kernel) rfl rfl, ?_⟩
  refine List.forall_mem_cons.mpr ⟨ok_ifne C (show decode cX6_perform 34 = .ok (.ifCond .ne 16, 3) by decide +kernel) (tg := 50) (by decide) rfl rfl, ?_⟩
  refine List.forall_mem_cons.mpr ⟨ok_aload_n C (show decode cX6_perform 37 = .ok (.aload_n 0, 1) by decide +kernel) rfl rfl, ?_⟩
  refine List.forall_mem_cons.mpr ⟨ok_getf C (wi_X6) rfl (by decide) kw_146 (show decode cX6_perform 38 = .ok (.getfield 15, 3) by decide +kernel) rfl, ?_⟩
  refine List.forall_mem_cons.mpr ⟨ok_iload_n C (show decode cX6_perform 41 = .ok (.iload_n 2, 1) by decide +kernel) rfl rfl, ?_⟩
  refine List.forall_mem_cons.mpr ⟨ok_dup2 C (show decode cX6_perform 42 = .ok (.dup2, 1) by decide +kernel) rfl, ?_⟩
  refine List.forall_mem_cons.mpr ⟨ok_iaload C (show decode cX6_perform 43 = .ok (.iaload, 1) by decide +kernel) rfl, ?_⟩
  refine List.forall_mem_cons.mpr ⟨ok_iload_n C (show decode cX6_perform 44 = .ok (.iload_n 3, 1) by decide +kernel) rfl rfl, ?_⟩
  refine List.forall_mem_cons.mpr ⟨ok_iadd C (show decode cX6_perform 45 = .ok (.iadd, 1) by decide +kernel) rfl, ?_⟩
  refine List.forall_mem_cons.mpr ⟨ok_iastore C (show decode cX6_perform 46 = .ok (.iastore, 1) by decide +kernel) rfl, ?_⟩
  refine List.forall_mem_cons.mpr ⟨ok_goto C (show decode cX6_perform 47 = .ok (.goto 18, 3) by decide +kernel) (tg := 65) (by decide) rfl, ?_⟩
  refine List.forall_mem_cons.mpr ⟨ok_iload_n C (show decode cX6_perform 50 = .ok (.iload_n 1, 1) by decide +kernel) rfl rfl, ?_⟩
  refine List.forall_mem_cons.mpr ⟨ok_iconst C (show decode cX6_perform 51 = .ok (.iconst 1, 1) by decide +kernel) (by decide) rfl, ?_⟩
  refine List.forall_mem_cons.mpr ⟨ok_icmpne C (show decode cX6_perform 52 = .ok (.if_icmp .ne 13, 3) by decide +kernel) (tg := 65) (by decide) rfl rfl, ?_⟩
  refine List.forall_mem_cons.mpr ⟨ok_aload_n C (show decode cX6_perform 55 = .ok (.aload_n 0, 1) by decide +kernel) rfl rfl, ?_⟩
  refine List.forall_mem_cons.mpr ⟨ok_getf C (wi_X6) rfl (by decide) kw_146 (show decode cX6_perform 56 = .ok (.getfield 15, 3) by decide +kernel) rfl, ?_⟩
  refine List.forall_mem_cons.mpr ⟨ok_iload_n C (show decode cX6_perform 59 = .ok (.iload_n 2, 1) by decide +kernel) rfl rfl, ?_⟩
  refine List.forall_mem_cons.mpr ⟨ok_dup2 C (show decode cX6_perform 60 = .ok (.dup2, 1) by decide +kernel) rfl, ?_⟩
  refine List.forall_mem_cons.mpr ⟨ok_iaload C (show decode cX6_perform 61 = .ok (.iaload, 1) by decide +kernel) rfl, ?_⟩
  refine List.forall_mem_cons.mpr ⟨ok_iload_n C (show decode cX6_perform 62 = .ok (.iload_n 3, 1) by decide +kernel) rfl rfl, ?_⟩
  refine List.forall_mem_cons.mpr ⟨ok_isub C (show decode cX6_perform 63 = .ok (.isub, 1) by decide +kernel) rfl, ?_⟩
  refine List.forall_mem_cons.mpr ⟨ok_iastore C (show decode cX6_perform 64 = .ok (.iastore, 1) by decide +kernel) rfl, ?_⟩
  refine List.forall_mem_cons.mpr ⟨ok_vret C rfl (show decode cX6_perform 65 = .ok (.return_, 1) by decide +kernel), ?_⟩
  exact fun _ h => absurd h List.not_mem_nil
def L_X6_attempt (f_X6_whyNot : List Value → ab_H → Option ab_O) (f_X6_perform : List Value → ab_H → Option ab_O) : List (Nat × ab_A) := [
  (0, ab_nx 1 (ab_aload 0)),
  (1, ab_nx 2 (ab_iload 1)),
  (2, ab_nx 3 (ab_iload 2)),
  (3, ab_nx 4 (ab_iload 3)),
  (4, ab_nx 7 (ab_callV 4 6 f_X6_whyNot 0 0 0 0)),
  (7, ab_nx 9 (ab_istore 4)),
  (9, ab_nx 11 (ab_iload 4)),
  (11, ab_if 14 21 (fun x => !decide (x = 0))),
  (14, ab_nx 15 (ab_aload 0)),
  (15, ab_nx 16 (ab_iload 1)),
  (16, ab_nx 17 (ab_iload 2)),
  (17, ab_nx 18 (ab_iload 3)),
  (18, ab_nx 21 (ab_callV 4 6 f_X6_perform 0 0 0 0)),
  (21, ab_nx 23 (ab_iload 4)),
  (23, ab_ret 0 0)]
set_option maxRecDepth 100000 in
set_option maxHeartbeats 4000000 in
theorem M_X6_attempt {l : Launch} {b : ab_B} {D : va_G} {cA : Nat → ClassId} {f_X6_whyNot : List Value → ab_H → Option ab_O} (h_X6_whyNot : ab_M l b D ab_cl cA (ab_E0 b) yX6_whyNot (Cond.code yX6_whyNot cX6_whyNot 4 (some .int) :: ab_G) ({ frames := 2, cells := 0, slots := 0, locals := 200 } : Room) f_X6_whyNot) {f_X6_perform : List Value → ab_H → Option ab_O} (h_X6_perform : ab_M l b D ab_cl cA (ab_E0 b) yX6_perform (Cond.code yX6_perform cX6_perform 4 none :: ab_G) ({ frames := 1, cells := 0, slots := 0, locals := 100 } : Room) f_X6_perform) : ab_M l b D ab_cl cA (ab_E0 b) yX6_attempt (Cond.code yX6_attempt cX6_attempt 5 (some .int) :: ab_G) ({ frames := 3, cells := 0, slots := 0, locals := 300 } : Room) (ab_X (ab_T (L_X6_attempt f_X6_whyNot f_X6_perform)) 5) := by
  refine ab_meth (ret := (some .int)) (L_X6_attempt f_X6_whyNot f_X6_perform) (by decide) rfl fun p e R s m args below meth c o C => ?_
  unfold L_X6_attempt
  refine List.forall_mem_cons.mpr ⟨ok_aload_n C (show decode cX6_attempt 0 = .ok (.aload_n 0, 1) by decide +kernel) rfl rfl, ?_⟩
  refine List.forall_mem_cons.mpr ⟨ok_iload_n C (show decode cX6_attempt 1 = .ok (.iload_n 1, 1) by decide +kernel) rfl rfl, ?_⟩
  refine List.forall_mem_cons.mpr ⟨ok_iload_n C (show decode cX6_attempt 2 = .ok (.iload_n 2, 1) by decide +kernel) rfl rfl, ?_⟩
  refine List.forall_mem_cons.mpr ⟨ok_iload_n C (show decode cX6_attempt 3 = .ok (.iload_n 3, 1) by decide +kernel) rfl rfl, ?_⟩
  refine List.forall_mem_cons.mpr ⟨ok_callV C h_X6_whyNot ⟨rfl, rfl⟩ rfl kw_711 kw_896 kw_709 kw_710 kw_6 rfl ds_X6_whyNot ⟨by decide, by decide⟩ (show decode cX6_attempt 4 = .ok (.invokevirtual 89, 3) by decide +kernel) rfl, ?_⟩
  refine List.forall_mem_cons.mpr ⟨ok_istore C (show decode cX6_attempt 7 = .ok (.istore 4, 2) by decide +kernel) (by decide) rfl, ?_⟩
  refine List.forall_mem_cons.mpr ⟨ok_iload C (show decode cX6_attempt 9 = .ok (.iload 4, 2) by decide +kernel) rfl, ?_⟩
  refine List.forall_mem_cons.mpr ⟨ok_ifne C (show decode cX6_attempt 11 = .ok (.ifCond .ne 10, 3) by decide +kernel) (tg := 21) (by decide) rfl rfl, ?_⟩
  refine List.forall_mem_cons.mpr ⟨ok_aload_n C (show decode cX6_attempt 14 = .ok (.aload_n 0, 1) by decide +kernel) rfl rfl, ?_⟩
  refine List.forall_mem_cons.mpr ⟨ok_iload_n C (show decode cX6_attempt 15 = .ok (.iload_n 1, 1) by decide +kernel) rfl rfl, ?_⟩
  refine List.forall_mem_cons.mpr ⟨ok_iload_n C (show decode cX6_attempt 16 = .ok (.iload_n 2, 1) by decide +kernel) rfl rfl, ?_⟩
  refine List.forall_mem_cons.mpr ⟨ok_iload_n C (show decode cX6_attempt 17 = .ok (.iload_n 3, 1) by decide +kernel) rfl rfl, ?_⟩
  refine List.forall_mem_cons.mpr ⟨ok_callV C h_X6_perform ⟨rfl, rfl⟩ rfl kw_731 kw_897 kw_729 kw_730 kw_6 rfl ds_X6_perform ⟨by decide, by decide⟩ (show decode cX6_attempt 18 = .ok (.invokevirtual 93, 3) by decide +kernel) rfl, ?_⟩
  refine List.forall_mem_cons.mpr ⟨ok_iload C (show decode cX6_attempt 21 = .ok (.iload 4, 2) by decide +kernel) rfl, ?_⟩
  refine List.forall_mem_cons.mpr ⟨ok_ret C rfl (show decode cX6_attempt 23 = .ok (.ireturn, 1) by decide +kernel), ?_⟩
  exact fun _ h => absurd h List.not_mem_nil
