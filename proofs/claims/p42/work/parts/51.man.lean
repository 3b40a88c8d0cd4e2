def L_X10_man (f_X10_isMan : List Value → ab_H → Option ab_O) (f_X6_missersOf : List Value → ab_H → Option ab_O) (f_X6_missedBy : List Value → ab_H → Option ab_O) (f_X6_isAlive : List Value → ab_H → Option ab_O) : List (Nat × ab_A) := [
  (0, ab_nx 1 (ab_aload 0)),
  (1, ab_nx 2 (ab_iload 1)),
  (2, ab_nx 5 (ab_callV 2 10 f_X10_isMan 0 0 1 6)),
  (5, ab_if 8 18 (fun x => !decide (x = 0))),
  (8, ab_thr),
  (11, ab_nx 12 ab_dup),
  (12, ab_no),
  (14, ab_no),
  (17, ab_no),
  (18, ab_nx 19 (ab_iload 2)),
  (19, ab_tab 0 [52, 62, 75, 88, 98] 115),
  (52, ab_nx 53 (ab_aload 0)),
  (53, ab_nx 56 (ab_getf 10 4)),
  (56, ab_nx 59 (ab_getf 6 4)),
  (59, ab_nx 60 (ab_iload 1)),
  (60, ab_nx 61 (ab_ald 1)),
  (61, ab_ret 1 6),
  (62, ab_nx 63 (ab_aload 0)),
  (63, ab_nx 66 (ab_getf 10 4)),
  (66, ab_nx 67 (ab_aload 0)),
  (67, ab_nx 70 (ab_getf 10 13)),
  (70, ab_nx 71 (ab_iload 1)),
  (71, ab_nx 74 (ab_callV 3 6 f_X6_missersOf 0 0 1 6)),
  (74, ab_ret 1 6),
  (75, ab_nx 76 (ab_aload 0)),
  (76, ab_nx 79 (ab_getf 10 4)),
  (79, ab_nx 80 (ab_aload 0)),
  (80, ab_nx 83 (ab_getf 10 13)),
  (83, ab_nx 84 (ab_iload 1)),
  (84, ab_nx 87 (ab_callV 3 6 f_X6_missedBy 0 0 1 6)),
  (87, ab_ret 1 6),
  (88, ab_nx 89 (ab_aload 0)),
  (89, ab_nx 92 (ab_getf 10 4)),
  (92, ab_nx 95 (ab_getf 6 5)),
  (95, ab_nx 96 (ab_iload 1)),
  (96, ab_nx 97 (ab_ald 1)),
  (97, ab_ret 1 6),
  (98, ab_nx 99 (ab_aload 0)),
  (99, ab_nx 102 (ab_getf 10 4)),
  (102, ab_nx 103 (ab_iload 1)),
  (103, ab_nx 106 (ab_callV 2 6 f_X6_isAlive 0 0 1 6)),
  (106, ab_if 109 113 (fun x => decide (x = 0))),
  (109, ab_nx 110 (ab_lit (.int 1))),
  (110, ab_goto 114),
  (113, ab_nx 114 (ab_lit (.int 0))),
  (114, ab_ret 1 6),
  (115, ab_thr),
  (118, ab_nx 119 ab_dup),
  (119, ab_no),
  (121, ab_no),
  (124, ab_no)]
def ab_Mx (l : Launch) (b : ab_B) (D : va_G) (cA : Nat → ClassId) (X : List Value → ab_H → Option ab_O) : Prop := ∀ (as : List Value) (hp : ab_H) (o : ab_O), X as hp = some o → vx_Met l yX10_man (Cond.code yX10_man cX10_man 3 (some .int) :: ab_G) ({ frames := 8, cells := 1, slots := 6, locals := 800 } : Room) (ab_Px b D ab_cl cA (ab_E0 b) as hp) (ab_Qy b D ab_cl cA o) (ab_Xc b D ab_cl cA o) 1 6 (fun q => b.1 ≤ q)
set_option maxRecDepth 100000 in
set_option maxHeartbeats 4000000 in
theorem M_X10_man {l : Launch} (htr : l.stackTraces = false) {b : ab_B} {D : va_G} {cA : Nat → ClassId} {f_X10_isMan : List Value → ab_H → Option ab_O} (h_X10_isMan : ab_M l b D ab_cl cA (ab_E0 b) yX10_isMan (Cond.code yX10_isMan cX10_isMan 2 (some .boolean) :: ab_G) ({ frames := 1, cells := 0, slots := 0, locals := 100 } : Room) f_X10_isMan) {f_X6_missersOf : List Value → ab_H → Option ab_O} (h_X6_missersOf : ab_M l b D ab_cl cA (ab_E0 b) yX6_missersOf (Cond.code yX6_missersOf cX6_missersOf 5 (some .int) :: ab_G) ({ frames := 3, cells := 0, slots := 0, locals := 300 } : Room) f_X6_missersOf) {f_X6_missedBy : List Value → ab_H → Option ab_O} (h_X6_missedBy : ab_M l b D ab_cl cA (ab_E0 b) yX6_missedBy (Cond.code yX6_missedBy cX6_missedBy 5 (some .int) :: ab_G) ({ frames := 3, cells := 0, slots := 0, locals := 300 } : Room) f_X6_missedBy) {f_X6_isAlive : List Value → ab_H → Option ab_O} (h_X6_isAlive : ab_M l b D ab_cl cA (ab_E0 b) yX6_isAlive (Cond.code yX6_isAlive cX6_isAlive 2 (some .boolean) :: ab_G) ({ frames := 1, cells := 0, slots := 0, locals := 100 } : Room) f_X6_isAlive) : ab_Mx l b D cA (ab_X (ab_T (L_X10_man f_X10_isMan f_X6_missersOf f_X6_missedBy f_X6_isAlive)) 3) := by
  refine ab_methx (ret := (some .int)) (L_X10_man f_X10_isMan f_X6_missersOf f_X6_missedBy f_X6_isAlive) (by decide) rfl fun p e R s m args below meth c o C hout => ?_
  unfold L_X10_man
  refine List.forall_mem_cons.mpr ⟨ok_aload_n C (show decode cX10_man 0 = .ok (.aload_n 0, 1) by decide +kernel) rfl rfl, ?_⟩
  refine List.forall_mem_cons.mpr ⟨ok_iload_n C (show decode cX10_man 1 = .ok (.iload_n 1, 1) by decide +kernel) rfl rfl, ?_⟩
  refine List.forall_mem_cons.mpr ⟨ok_callV C h_X10_isMan ⟨rfl, rfl⟩ rfl kw_628 kw_625 kw_627 kp_18 kw_1 rfl ds_X10_isMan ⟨by decide, by decide⟩ (show decode cX10_man 2 = .ok (.invokevirtual 149, 3) by decide +kernel) rfl, ?_⟩
  refine List.forall_mem_cons.mpr ⟨ok_ifne C (show decode cX10_man 5 = .ok (.ifCond .ne 13, 3) by decide +kernel) (tg := 18) (by decide) rfl rfl, ?_⟩
  refine List.forall_mem_cons.mpr ⟨ok_thr C htr hout (t := 2) (cx_E C).2.2.2.2.1 (show decode cX10_man 8 = .ok (.new 186, 3) by decide +kernel) (show decode cX10_man 11 = .ok (.dup, 1) by decide +kernel) (show decode cX10_man 12 = .ok (.ldc 188, 2) by decide +kernel) (show decode cX10_man 14 = .ok (.invokespecial 190, 3) by decide +kernel) (show decode cX10_man 17 = .ok (.athrow, 1) by decide +kernel), ?_⟩
  refine List.forall_mem_cons.mpr ⟨ok_dup C (show decode cX10_man 11 = .ok (.dup, 1) by decide +kernel) rfl, ?_⟩
  refine List.forall_mem_cons.mpr ⟨ok_no, ?_⟩
  refine List.forall_mem_cons.mpr ⟨ok_no, ?_⟩
  refine List.forall_mem_cons.mpr ⟨ok_no, ?_⟩
  refine List.forall_mem_cons.mpr ⟨ok_iload_n C (show decode cX10_man 18 = .ok (.iload_n 2, 1) by decide +kernel) rfl rfl, ?_⟩
  refine List.forall_mem_cons.mpr ⟨ok_tab C (show decode cX10_man 19 = .ok (.tableswitch 96 0 4 #[33, 43, 56, 69, 79], 33) by decide +kernel) (by decide) (by decide) (by decide), ?_⟩
  refine List.forall_mem_cons.mpr ⟨ok_aload_n C (show decode cX10_man 52 = .ok (.aload_n 0, 1) by decide +kernel) rfl rfl, ?_⟩
  refine List.forall_mem_cons.mpr ⟨ok_getf C (wi_X10) rfl (by decide) kw_319 (show decode cX10_man 53 = .ok (.getfield 40, 3) by decide +kernel) rfl, ?_⟩
  refine List.forall_mem_cons.mpr ⟨ok_getf C (wi_X6) rfl (by decide) kw_157 (show decode cX10_man 56 = .ok (.getfield 193, 3) by decide +kernel) rfl, ?_⟩
  refine List.forall_mem_cons.mpr ⟨ok_iload_n C (show decode cX10_man 59 = .ok (.iload_n 1, 1) by decide +kernel) rfl rfl, ?_⟩
  refine List.forall_mem_cons.mpr ⟨ok_iaload C (show decode cX10_man 60 = .ok (.iaload, 1) by decide +kernel) rfl, ?_⟩
  refine List.forall_mem_cons.mpr ⟨ok_retx C rfl (show decode cX10_man 61 = .ok (.ireturn, 1) by decide +kernel), ?_⟩
  refine List.forall_mem_cons.mpr ⟨ok_aload_n C (show decode cX10_man 62 = .ok (.aload_n 0, 1) by decide +kernel) rfl rfl, ?_⟩
  refine List.forall_mem_cons.mpr ⟨ok_getf C (wi_X10) rfl (by decide) kw_319 (show decode cX10_man 63 = .ok (.getfield 40, 3) by decide +kernel) rfl, ?_⟩
  refine List.forall_mem_cons.mpr ⟨ok_aload_n C (show decode cX10_man 66 = .ok (.aload_n 0, 1) by decide +kernel) rfl rfl, ?_⟩
  refine List.forall_mem_cons.mpr ⟨ok_getf C (wi_X10) rfl (by decide) kw_328 (show decode cX10_man 67 = .ok (.getfield 83, 3) by decide +kernel) rfl, ?_⟩
  refine List.forall_mem_cons.mpr ⟨ok_iload_n C (show decode cX10_man 70 = .ok (.iload_n 1, 1) by decide +kernel) rfl rfl, ?_⟩
  refine List.forall_mem_cons.mpr ⟨ok_callV C h_X6_missersOf ⟨rfl, rfl⟩ rfl kw_668 kw_665 kw_666 kw_667 kw_6 rfl ds_X6_missersOf ⟨by decide, by decide⟩ (show decode cX10_man 71 = .ok (.invokevirtual 196, 3) by decide +kernel) rfl, ?_⟩
  refine List.forall_mem_cons.mpr ⟨ok_retx C rfl (show decode cX10_man 74 = .ok (.ireturn, 1) by decide +kernel), ?_⟩
  refine List.forall_mem_cons.mpr ⟨ok_aload_n C (show decode cX10_man 75 = .ok (.aload_n 0, 1) by decide +kernel) rfl rfl, ?_⟩
  refine List.forall_mem_cons.mpr ⟨ok_getf C (wi_X10) rfl (by decide) kw_319 (show decode cX10_man 76 = .ok (.getfield 40, 3) by decide +kernel) rfl, ?_⟩
  refine List.forall_mem_cons.mpr ⟨ok_aload_n C (show decode cX10_man 79 = .ok (.aload_n 0, 1) by decide +kernel) rfl rfl, ?_⟩
  refine List.forall_mem_cons.mpr ⟨ok_getf C (wi_X10) rfl (by decide) kw_328 (show decode cX10_man 80 = .ok (.getfield 83, 3) by decide +kernel) rfl, ?_⟩
  refine List.forall_mem_cons.mpr ⟨ok_iload_n C (show decode cX10_man 83 = .ok (.iload_n 1, 1) by decide +kernel) rfl rfl, ?_⟩
  refine List.forall_mem_cons.mpr ⟨ok_callV C h_X6_missedBy ⟨rfl, rfl⟩ rfl kw_1135 kw_1132 kw_1133 kw_1134 kw_6 rfl ds_X6_missedBy ⟨by decide, by decide⟩ (show decode cX10_man 84 = .ok (.invokevirtual 199, 3) by decide +kernel) rfl, ?_⟩
  refine List.forall_mem_cons.mpr ⟨ok_retx C rfl (show decode cX10_man 87 = .ok (.ireturn, 1) by decide +kernel), ?_⟩
  refine List.forall_mem_cons.mpr ⟨ok_aload_n C (show decode cX10_man 88 = .ok (.aload_n 0, 1) by decide +kernel) rfl rfl, ?_⟩
  refine List.forall_mem_cons.mpr ⟨ok_getf C (wi_X10) rfl (by decide) kw_319 (show decode cX10_man 89 = .ok (.getfield 40, 3) by decide +kernel) rfl, ?_⟩
  refine List.forall_mem_cons.mpr ⟨ok_getf C (wi_X6) rfl (by decide) kw_160 (show decode cX10_man 92 = .ok (.getfield 202, 3) by decide +kernel) rfl, ?_⟩
  refine List.forall_mem_cons.mpr ⟨ok_iload_n C (show decode cX10_man 95 = .ok (.iload_n 1, 1) by decide +kernel) rfl rfl, ?_⟩
  refine List.forall_mem_cons.mpr ⟨ok_iaload C (show decode cX10_man 96 = .ok (.iaload, 1) by decide +kernel) rfl, ?_⟩
  refine List.forall_mem_cons.mpr ⟨ok_retx C rfl (show decode cX10_man 97 = .ok (.ireturn, 1) by decide +kernel), ?_⟩
  refine List.forall_mem_cons.mpr ⟨ok_aload_n C (show decode cX10_man 98 = .ok (.aload_n 0, 1) by decide +kernel) rfl rfl, ?_⟩
  refine List.forall_mem_cons.mpr ⟨ok_getf C (wi_X10) rfl (by decide) kw_319 (show decode cX10_man 99 = .ok (.getfield 40, 3) by decide +kernel) rfl, ?_⟩
  refine List.forall_mem_cons.mpr ⟨ok_iload_n C (show decode cX10_man 102 = .ok (.iload_n 1, 1) by decide +kernel) rfl rfl, ?_⟩
  refine List.forall_mem_cons.mpr ⟨ok_callV C h_X6_isAlive ⟨rfl, rfl⟩ rfl kw_632 kw_629 kw_630 kw_631 kw_6 rfl ds_X6_isAlive ⟨by decide, by decide⟩ (show decode cX10_man 103 = .ok (.invokevirtual 152, 3) by decide +kernel) rfl, ?_⟩
  refine List.forall_mem_cons.mpr ⟨ok_ifeq C (show decode cX10_man 106 = .ok (.ifCond .eq 7, 3) by decide +kernel) (tg := 113) (by decide) rfl rfl, ?_⟩
  refine List.forall_mem_cons.mpr ⟨ok_iconst C (show decode cX10_man 109 = .ok (.iconst 1, 1) by decide +kernel) (by decide) rfl, ?_⟩
  refine List.forall_mem_cons.mpr ⟨ok_goto C (show decode cX10_man 110 = .ok (.goto 4, 3) by decide +kernel) (tg := 114) (by decide) rfl, ?_⟩
  refine List.forall_mem_cons.mpr ⟨ok_iconst C (show decode cX10_man 113 = .ok (.iconst 0, 1) by decide +kernel) (by decide) rfl, ?_⟩
  refine List.forall_mem_cons.mpr ⟨ok_retx C rfl (show decode cX10_man 114 = .ok (.ireturn, 1) by decide +kernel), ?_⟩
  refine List.forall_mem_cons.mpr ⟨ok_thr C htr hout (t := 3) (cx_E C).2.2.2.2.2.1 (show decode cX10_man 115 = .ok (.new 186, 3) by decide +kernel) (show decode cX10_man 118 = .ok (.dup, 1) by decide +kernel) (show decode cX10_man 119 = .ok (.ldc 205, 2) by decide +kernel) (show decode cX10_man 121 = .ok (.invokespecial 190, 3) by decide +kernel) (show decode cX10_man 124 = .ok (.athrow, 1) by decide +kernel), ?_⟩
  refine List.forall_mem_cons.mpr ⟨ok_dup C (show decode cX10_man 118 = .ok (.dup, 1) by decide +kernel) rfl, ?_⟩
  refine List.forall_mem_cons.mpr ⟨ok_no, ?_⟩
  refine List.forall_mem_cons.mpr ⟨ok_no, ?_⟩
  refine List.forall_mem_cons.mpr ⟨ok_no, ?_⟩
  exact fun _ h => absurd h List.not_mem_nil
def L_L_man (f_X10_man : List Value → ab_H → Option ab_O) : List (Nat × ab_A) := [
  (0, ab_nx 1 (ab_aload 3)),
  (1, ab_nx 2 (ab_lit (.int 0))),
  (2, ab_nx 3 (ab_aload 0)),
  (3, ab_nx 4 (ab_iload 1)),
  (4, ab_nx 5 (ab_iload 2)),
  (5, ab_callX 8 15 4 3 10 f_X10_man 1 6 1 6),
  (8, ab_nx 9 ab_i2l),
  (9, ab_nx 10 ab_last),
  (10, ab_goto 17),
  (15, ab_nx 16 (ab_lit (.int 1))),
  (16, ab_ret 1 6),
  (17, ab_nx 18 (ab_lit (.int 0))),
  (18, ab_ret 1 6)]
set_option maxRecDepth 100000 in
set_option maxHeartbeats 4000000 in
theorem M_L_man {l : Launch} {b : ab_B} {D : va_G} {cA : Nat → ClassId} {f_X10_man : List Value → ab_H → Option ab_O} (h_X10_man : ab_Mx l b D cA f_X10_man) : ab_M l b D ab_cl cA (ab_E0 b) yL_man (Cond.codeWith yL_man cL_man 5 (some .int) [(0, 10, 13, 13)] :: ab_G) ({ frames := 9, cells := 1, slots := 6, locals := 900 } : Room) (ab_X (ab_T (L_L_man f_X10_man)) 5) := by
  refine ab_methW (ret := (some .int)) (L_L_man f_X10_man) (by decide) rfl fun p e R s m args below meth c o C htab => ?_
  unfold L_L_man
  refine List.forall_mem_cons.mpr ⟨ok_aload_n C (show decode cL_man 0 = .ok (.aload_n 3, 1) by decide +kernel) rfl rfl, ?_⟩
  refine List.forall_mem_cons.mpr ⟨ok_iconst C (show decode cL_man 1 = .ok (.iconst 0, 1) by decide +kernel) (by decide) rfl, ?_⟩
  refine List.forall_mem_cons.mpr ⟨ok_aload_n C (show decode cL_man 2 = .ok (.aload_n 0, 1) by decide +kernel) rfl rfl, ?_⟩
  refine List.forall_mem_cons.mpr ⟨ok_iload_n C (show decode cL_man 3 = .ok (.iload_n 1, 1) by decide +kernel) rfl rfl, ?_⟩
  refine List.forall_mem_cons.mpr ⟨ok_iload_n C (show decode cL_man 4 = .ok (.iload_n 2, 1) by decide +kernel) rfl rfl, ?_⟩
  refine List.forall_mem_cons.mpr ⟨ok_callX C h_X10_man htab rfl kw_1066 kw_1063 kw_1064 kw_1065 kw_1 ds_X10_man ⟨by decide, by decide⟩ kw_1062 (show decode cL_man 13 = .ok (.astore 4, 2) by decide +kernel) rfl (show decode cL_man 5 = .ok (.invokevirtual 7, 3) by decide +kernel) rfl, ?_⟩
  refine List.forall_mem_cons.mpr ⟨ok_i2l C (show decode cL_man 8 = .ok (.i2l, 1) by decide +kernel) rfl, ?_⟩
  refine List.forall_mem_cons.mpr ⟨ok_lastore C (show decode cL_man 9 = .ok (.lastore, 1) by decide +kernel) rfl, ?_⟩
  refine List.forall_mem_cons.mpr ⟨ok_goto C (show decode cL_man 10 = .ok (.goto 7, 3) by decide +kernel) (tg := 17) (by decide) rfl, ?_⟩
  refine List.forall_mem_cons.mpr ⟨ok_iconst C (show decode cL_man 15 = .ok (.iconst 1, 1) by decide +kernel) (by decide) rfl, ?_⟩
  refine List.forall_mem_cons.mpr ⟨ok_ret C rfl (show decode cL_man 16 = .ok (.ireturn, 1) by decide +kernel), ?_⟩
  refine List.forall_mem_cons.mpr ⟨ok_iconst C (show decode cL_man 17 = .ok (.iconst 0, 1) by decide +kernel) (by decide) rfl, ?_⟩
  refine List.forall_mem_cons.mpr ⟨ok_ret C rfl (show decode cL_man 18 = .ok (.ireturn, 1) by decide +kernel), ?_⟩
  exact fun _ h => absurd h List.not_mem_nil
