def L_X6_countApart : List (Nat × ab_A) := [
  (0, ab_nx 1 (ab_lit (.int 0))),
  (1, ab_nx 2 (ab_istore 2)),
  (2, ab_nx 3 (ab_iload 2)),
  (3, ab_nx 4 (ab_aload 1)),
  (4, ab_nx 7 (ab_getf 7 9)),
  (7, ab_icmp 10 74 (fun x y => decide (y ≤ x))),
  (10, ab_nx 11 (ab_lit (.int 0))),
  (11, ab_nx 12 (ab_istore 3)),
  (12, ab_nx 13 (ab_iload 3)),
  (13, ab_nx 14 (ab_iload 2)),
  (14, ab_icmp 17 68 (fun x y => decide (y ≤ x))),
  (17, ab_nx 18 (ab_iload 2)),
  (18, ab_nx 20 (ab_lit (.int 8))),
  (20, ab_nx 21 (ab_bin (fun x y => x * y))),
  (21, ab_nx 22 (ab_iload 3)),
  (22, ab_nx 23 (ab_bin (fun x y => x + y))),
  (23, ab_nx 25 (ab_istore 4)),
  (25, ab_nx 26 (ab_aload 0)),
  (26, ab_nx 29 (ab_getf 6 4)),
  (29, ab_nx 30 (ab_iload 2)),
  (30, ab_nx 31 (ab_ald 1)),
  (31, ab_nx 32 (ab_aload 0)),
  (32, ab_nx 35 (ab_getf 6 4)),
  (35, ab_nx 36 (ab_iload 3)),
  (36, ab_nx 37 (ab_ald 1)),
  (37, ab_icmp 40 51 (fun x y => !decide (x = y))),
  (40, ab_nx 41 (ab_aload 0)),
  (41, ab_nx 44 (ab_getf 6 6)),
  (44, ab_nx 46 (ab_iload 4)),
  (46, ab_nx 47 (ab_lit (.int 0))),
  (47, ab_nx 48 (ab_ast 1)),
  (48, ab_goto 62),
  (51, ab_nx 52 (ab_aload 0)),
  (52, ab_nx 55 (ab_getf 6 6)),
  (55, ab_nx 57 (ab_iload 4)),
  (57, ab_nx 58 ab_dup2),
  (58, ab_nx 59 (ab_ald 1)),
  (59, ab_nx 60 (ab_lit (.int 1))),
  (60, ab_nx 61 (ab_bin (fun x y => x + y))),
  (61, ab_nx 62 (ab_ast 1)),
  (62, ab_nx 65 (ab_iinc 3 1)),
  (65, ab_goto 12),
  (68, ab_nx 71 (ab_iinc 2 1)),
  (71, ab_goto 2),
  (74, ab_vret 0 0)]
set_option maxRecDepth 100000 in
set_option maxHeartbeats 4000000 in
theorem M_X6_countApart {l : Launch} {b : ab_B} {D : va_G} {cA : Nat → ClassId} : ab_M l b D ab_cl cA (ab_E0 b) yX6_countApart (Cond.code yX6_countApart cX6_countApart 5 none :: ab_G) ({ frames := 1, cells := 0, slots := 0, locals := 100 } : Room) (ab_X (ab_T L_X6_countApart) 5) := by
  refine ab_meth (ret := none) L_X6_countApart (by decide) rfl fun p e R s m args below meth c o C => ?_
  unfold L_X6_countApart
  refine List.forall_mem_cons.mpr ⟨ok_iconst C (show decode cX6_countApart 0 = .ok (.iconst 0, 1) by decide +kernel) (by decide) rfl, ?_⟩
  refine List.forall_mem_cons.mpr ⟨ok_istore_n C (show decode cX6_countApart 1 = .ok (.istore_n 2, 1) by decide +kernel) rfl (by decide) rfl, ?_⟩
  refine List.forall_mem_cons.mpr ⟨ok_iload_n C (show decode cX6_countApart 2 = .ok (.iload_n 2, 1) by decide +kernel) rfl rfl, ?_⟩
  refine List.forall_mem_cons.mpr ⟨ok_aload_n C (show decode cX6_countApart 3 = .ok (.aload_n 1, 1) by decide +kernel) rfl rfl, ?_⟩
  refine List.forall_mem_cons.mpr ⟨ok_getf C (wi_X7) rfl (by decide) kw_255 (show decode cX6_countApart 4 = .ok (.getfield 63, 3) by decide +kernel) rfl, ?_⟩
  refine List.forall_mem_cons.mpr ⟨ok_icmpge C (show decode cX6_countApart 7 = .ok (.if_icmp .ge 67, 3) by decide +kernel) (tg := 74) (by decide) rfl rfl, ?_⟩
  refine List.forall_mem_cons.mpr ⟨ok_iconst C (show decode cX6_countApart 10 = .ok (.iconst 0, 1) by decide +kernel) (by decide) rfl, ?_⟩
  refine List.forall_mem_cons.mpr ⟨ok_istore_n C (show decode cX6_countApart 11 = .ok (.istore_n 3, 1) by decide +kernel) rfl (by decide) rfl, ?_⟩
  refine List.forall_mem_cons.mpr ⟨ok_iload_n C (show decode cX6_countApart 12 = .ok (.iload_n 3, 1) by decide +kernel) rfl rfl, ?_⟩
  refine List.forall_mem_cons.mpr ⟨ok_iload_n C (show decode cX6_countApart 13 = .ok (.iload_n 2, 1) by decide +kernel) rfl rfl, ?_⟩
  refine List.forall_mem_cons.mpr ⟨ok_icmpge C (show decode cX6_countApart 14 = .ok (.if_icmp .ge 54, 3) by decide +kernel) (tg := 68) (by decide) rfl rfl, ?_⟩
  refine List.forall_mem_cons.mpr ⟨ok_iload_n C (show decode cX6_countApart 17 = .ok (.iload_n 2, 1) by decide +kernel) rfl rfl, ?_⟩
  refine List.forall_mem_cons.mpr ⟨ok_bipush C (show decode cX6_countApart 18 = .ok (.bipush 8, 2) by decide +kernel) (by decide) rfl, ?_⟩
  refine List.forall_mem_cons.mpr ⟨ok_imul C (show decode cX6_countApart 20 = .ok (.imul, 1) by decide +kernel) rfl, ?_⟩
  refine List.forall_mem_cons.mpr ⟨ok_iload_n C (show decode cX6_countApart 21 = .ok (.iload_n 3, 1) by decide +kernel) rfl rfl, ?_⟩
  refine List.forall_mem_cons.mpr ⟨ok_iadd C (show decode cX6_countApart 22 = .ok (.iadd, 1) by decide +kernel) rfl, ?_⟩
  refine List.forall_mem_cons.mpr ⟨ok_istore C (show decode cX6_countApart 23 = .ok (.istore 4, 2) by decide +kernel) (by decide) rfl, ?_⟩
  refine List.forall_mem_cons.mpr ⟨ok_aload_n C (show decode cX6_countApart 25 = .ok (.aload_n 0, 1) by decide +kernel) rfl rfl, ?_⟩
  refine List.forall_mem_cons.mpr ⟨ok_getf C (wi_X6) rfl (by decide) kw_155 (show decode cX6_countApart 26 = .ok (.getfield 24, 3) by decide +kernel) rfl, ?_⟩
  refine List.forall_mem_cons.mpr ⟨ok_iload_n C (show decode cX6_countApart 29 = .ok (.iload_n 2, 1) by decide +kernel) rfl rfl, ?_⟩
  refine List.forall_mem_cons.mpr ⟨ok_iaload C (show decode cX6_countApart 30 = .ok (.iaload, 1) by decide +kernel) rfl, ?_⟩
  refine List.forall_mem_cons.mpr ⟨ok_aload_n C (show decode cX6_countApart 31 = .ok (.aload_n 0, 1) by decide +kernel) rfl rfl, ?_⟩
  refine List.forall_mem_cons.mpr ⟨ok_getf C (wi_X6) rfl (by decide) kw_155 (show decode cX6_countApart 32 = .ok (.getfield 24, 3) by decide +kernel) rfl, ?_⟩
  refine List.forall_mem_cons.mpr ⟨ok_iload_n C (show decode cX6_countApart 35 = .ok (.iload_n 3, 1) by decide +kernel) rfl rfl, ?_⟩
  refine List.forall_mem_cons.mpr ⟨ok_iaload C (show decode cX6_countApart 36 = .ok (.iaload, 1) by decide +kernel) rfl, ?_⟩
  refine List.forall_mem_cons.mpr ⟨ok_icmpne C (show decode cX6_countApart 37 = .ok (.if_icmp .ne 14, 3) by decide +kernel) (tg := 51) (by decide) rfl rfl, ?_⟩
  refine List.forall_mem_cons.mpr ⟨ok_aload_n C (show decode cX6_countApart 40 = .ok (.aload_n 0, 1) by decide +kernel) rfl rfl, ?_⟩
  refine List.forall_mem_cons.mpr ⟨ok_getf C (wi_X6) rfl (by decide) kw_161 (show decode cX6_countApart 41 = .ok (.getfield 30, 3) by decide +kernel) rfl, ?_⟩
  refine List.forall_mem_cons.mpr ⟨ok_iload C (show decode cX6_countApart 44 = .ok (.iload 4, 2) by decide +kernel) rfl, ?_⟩
  refine List.forall_mem_cons.mpr ⟨ok_iconst C (show decode cX6_countApart 46 = .ok (.iconst 0, 1) by decide +kernel) (by decide) rfl, ?_⟩
  refine List.forall_mem_cons.mpr ⟨ok_iastore C (show decode cX6_countApart 47 = .ok (.iastore, 1) by decide +kernel) rfl, ?_⟩
  refine List.forall_mem_cons.mpr ⟨ok_goto C (show decode cX6_countApart 48 = .ok (.goto 14, 3) by decide +kernel) (tg := 62) (by decide) rfl, ?_⟩
  refine List.forall_mem_cons.mpr ⟨ok_aload_n C (show decode cX6_countApart 51 = .ok (.aload_n 0, 1) by decide +kernel) rfl rfl, ?_⟩
  refine List.forall_mem_cons.mpr ⟨ok_getf C (wi_X6) rfl (by decide) kw_161 (show decode cX6_countApart 52 = .ok (.getfield 30, 3) by decide +kernel) rfl, ?_⟩
  refine List.forall_mem_cons.mpr ⟨ok_iload C (show decode cX6_countApart 55 = .ok (.iload 4, 2) by decide +kernel) rfl, ?_⟩
  refine List.forall_mem_cons.mpr ⟨ok_dup2 C (show decode cX6_countApart 57 = .ok (.dup2, 1) by decide +kernel) rfl, ?_⟩
  refine List.forall_mem_cons.mpr ⟨ok_iaload C (show decode cX6_countApart 58 = .ok (.iaload, 1) by decide +kernel) rfl, ?_⟩
  refine List.forall_mem_cons.mpr ⟨ok_iconst C (show decode cX6_countApart 59 = .ok (.iconst 1, 1) by decide +kernel) (by decide) rfl, ?_⟩
  refine List.forall_mem_cons.mpr ⟨ok_iadd C (show decode cX6_countApart 60 = .ok (.iadd, 1) by decide +kernel) rfl, ?_⟩
  refine List.forall_mem_cons.mpr ⟨ok_iastore C (show decode cX6_countApart 61 = .ok (.iastore, 1) by decide +kernel) rfl, ?_⟩
  refine List.forall_mem_cons.mpr ⟨ok_iinc C (show decode cX6_countApart 62 = .ok (.iinc 3 1, 3) by decide +kernel) (by decide) (by decide) rfl, ?_⟩
  refine List.forall_mem_cons.mpr ⟨ok_goto C (show decode cX6_countApart 65 = .ok (.goto (-53), 3) by decide +kernel) (tg := 12) (by decide) rfl, ?_⟩
  refine List.forall_mem_cons.mpr ⟨ok_iinc C (show decode cX6_countApart 68 = .ok (.iinc 2 1, 3) by decide +kernel) (by decide) (by decide) rfl, ?_⟩
  refine List.forall_mem_cons.mpr ⟨ok_goto C (show decode cX6_countApart 71 = .ok (.goto (-69), 3) by decide +kernel) (tg := 2) (by decide) rfl, ?_⟩
  refine List.forall_mem_cons.mpr ⟨ok_vret C rfl (show decode cX6_countApart 74 = .ok (.return_, 1) by decide +kernel), ?_⟩
  exact fun _ h => absurd h List.not_mem_nil
def L_X1_passDays (f_X1_plan : List Value → ab_H → Option ab_O) (f_X1_carry : List Value → ab_H → Option ab_O) (f_X6_makeAndEat : List Value → ab_H → Option ab_O) (f_X6_countApart : List Value → ab_H → Option ab_O) : List (Nat × ab_A) := [
  (0, ab_nx 1 (ab_aload 2)),
  (1, ab_nx 4 (ab_getf 6 7)),
  (4, ab_nx 6 (ab_istore 4)),
  (6, ab_nx 7 (ab_lit (.int 0))),
  (7, ab_nx 9 (ab_istore 5)),
  (9, ab_nx 11 (ab_iload 5)),
  (11, ab_nx 12 (ab_iload 3)),
  (12, ab_icmp 15 63 (fun x y => decide (y ≤ x))),
  (15, ab_nx 16 (ab_aload 2)),
  (16, ab_nx 19 (ab_getf 6 7)),
  (19, ab_nx 22 (ab_lit (.int 400))),
  (22, ab_icmp 25 63 (fun x y => decide (y ≤ x))),
  (25, ab_nx 26 (ab_aload 0)),
  (26, ab_nx 27 (ab_aload 1)),
  (27, ab_nx 28 (ab_aload 2)),
  (28, ab_nx 31 (ab_callV 3 1 f_X1_plan 0 0 0 0)),
  (31, ab_nx 32 (ab_aload 0)),
  (32, ab_nx 33 (ab_aload 1)),
  (33, ab_nx 34 (ab_aload 2)),
  (34, ab_nx 37 (ab_callV 3 1 f_X1_carry 0 0 0 0)),
  (37, ab_nx 38 (ab_aload 2)),
  (38, ab_nx 39 (ab_aload 1)),
  (39, ab_nx 42 (ab_callV 2 6 f_X6_makeAndEat 0 0 0 0)),
  (42, ab_nx 43 (ab_aload 2)),
  (43, ab_nx 44 (ab_aload 1)),
  (44, ab_nx 47 (ab_callV 2 6 f_X6_countApart 0 0 0 0)),
  (47, ab_nx 48 (ab_aload 2)),
  (48, ab_nx 49 ab_dup),
  (49, ab_nx 52 (ab_getf 6 7)),
  (52, ab_nx 53 (ab_lit (.int 1))),
  (53, ab_nx 54 (ab_bin (fun x y => x + y))),
  (54, ab_nx 57 (ab_putf 6 7 0)),
  (57, ab_nx 60 (ab_iinc 5 1)),
  (60, ab_goto 9),
  (63, ab_nx 64 (ab_aload 2)),
  (64, ab_nx 67 (ab_getf 6 7)),
  (67, ab_nx 69 (ab_iload 4)),
  (69, ab_nx 70 (ab_bin (fun x y => x - y))),
  (70, ab_ret 0 0)]
set_option maxRecDepth 100000 in
set_option maxHeartbeats 4000000 in
theorem M_X1_passDays {l : Launch} {b : ab_B} {D : va_G} {cA : Nat → ClassId} {f_X1_plan : List Value → ab_H → Option ab_O} (h_X1_plan : ab_M l b D ab_cl cA (ab_E0 b) yX1_plan (Cond.code yX1_plan cX1_plan 8 none :: ab_G) ({ frames := 4, cells := 0, slots := 0, locals := 400 } : Room) f_X1_plan) {f_X1_carry : List Value → ab_H → Option ab_O} (h_X1_carry : ab_M l b D ab_cl cA (ab_E0 b) yX1_carry (Cond.code yX1_carry cX1_carry 5 none :: ab_G) ({ frames := 2, cells := 0, slots := 0, locals := 200 } : Room) f_X1_carry) {f_X6_makeAndEat : List Value → ab_H → Option ab_O} (h_X6_makeAndEat : ab_M l b D ab_cl cA (ab_E0 b) yX6_makeAndEat (Cond.code yX6_makeAndEat cX6_makeAndEat 4 none :: ab_G) ({ frames := 3, cells := 0, slots := 0, locals := 300 } : Room) f_X6_makeAndEat) {f_X6_countApart : List Value → ab_H → Option ab_O} (h_X6_countApart : ab_M l b D ab_cl cA (ab_E0 b) yX6_countApart (Cond.code yX6_countApart cX6_countApart 5 none :: ab_G) ({ frames := 1, cells := 0, slots := 0, locals := 100 } : Room) f_X6_countApart) : ab_M l b D ab_cl cA (ab_E0 b) yX1_passDays (Cond.code yX1_passDays cX1_passDays 6 (some .int) :: ab_G) ({ frames := 5, cells := 0, slots := 0, locals := 500 } : Room) (ab_X (ab_T (L_X1_passDays f_X1_plan f_X1_carry f_X6_makeAndEat f_X6_countApart)) 6) := by
  refine ab_meth (ret := (some .int)) (L_X1_passDays f_X1_plan f_X1_carry f_X6_makeAndEat f_X6_countApart) (by decide) rfl fun p e R s m args below meth c o C => ?_
  unfold L_X1_passDays
  refine List.forall_mem_cons.mpr ⟨ok_aload_n C (show decode cX1_passDays 0 = .ok (.aload_n 2, 1) by decide +kernel) rfl rfl, ?_⟩
  refine List.forall_mem_cons.mpr ⟨ok_getf C (wi_X6) rfl (by decide) kw_163 (show decode cX1_passDays 1 = .ok (.getfield 33, 3) by decide +kernel) rfl, ?_⟩
  refine List.forall_mem_cons.mpr ⟨ok_istore C (show decode cX1_passDays 4 = .ok (.istore 4, 2) by decide +kernel) (by decide) rfl, ?_⟩
  refine List.forall_mem_cons.mpr ⟨ok_iconst C (show decode cX1_passDays 6 = .ok (.iconst 0, 1) by decide +kernel) (by decide) rfl, ?_⟩
  refine List.forall_mem_cons.mpr ⟨ok_istore C (show decode cX1_passDays 7 = .ok (.istore 5, 2) by decide +kernel) (by decide) rfl, ?_⟩
  refine List.forall_mem_cons.mpr ⟨ok_iload C (show decode cX1_passDays 9 = .ok (.iload 5, 2) by decide +kernel) rfl, ?_⟩
  refine List.forall_mem_cons.mpr ⟨ok_iload_n C (show decode cX1_passDays 11 = .ok (.iload_n 3, 1) by decide +kernel) rfl rfl, ?_⟩
  refine List.forall_mem_cons.mpr ⟨ok_icmpge C (show decode cX1_passDays 12 = .ok (.if_icmp .ge 51, 3) by decide +kernel) (tg := 63) (by decide) rfl rfl, ?_⟩
  refine List.forall_mem_cons.mpr ⟨ok_aload_n C (show decode cX1_passDays 15 = .ok (.aload_n 2, 1) by decide +kernel) rfl rfl, ?_⟩
  refine List.forall_mem_cons.mpr ⟨ok_getf C (wi_X6) rfl (by decide) kw_163 (show decode cX1_passDays 16 = .ok (.getfield 33, 3) by decide +kernel) rfl, ?_⟩
  refine List.forall_mem_cons.mpr ⟨ok_sipush C (show decode cX1_passDays 19 = .ok (.sipush 400, 3) by decide +kernel) (by decide) rfl, ?_⟩
  refine List.forall_mem_cons.mpr ⟨ok_icmpge C (show decode cX1_passDays 22 = .ok (.if_icmp .ge 41, 3) by decide +kernel) (tg := 63) (by decide) rfl rfl, ?_⟩
  refine List.forall_mem_cons.mpr ⟨ok_aload_n C (show decode cX1_passDays 25 = .ok (.aload_n 0, 1) by decide +kernel) rfl rfl, ?_⟩
  refine List.forall_mem_cons.mpr ⟨ok_aload_n C (show decode cX1_passDays 26 = .ok (.aload_n 1, 1) by decide +kernel) rfl rfl, ?_⟩
  refine List.forall_mem_cons.mpr ⟨ok_aload_n C (show decode cX1_passDays 27 = .ok (.aload_n 2, 1) by decide +kernel) rfl rfl, ?_⟩
  refine List.forall_mem_cons.mpr ⟨ok_callV C h_X1_plan ⟨rfl, rfl⟩ rfl kw_755 kw_752 kw_753 kw_754 kw_4 rfl ds_X1_plan ⟨by decide, by decide⟩ (show decode cX1_passDays 28 = .ok (.invokevirtual 75, 3) by decide +kernel) rfl, ?_⟩
  refine List.forall_mem_cons.mpr ⟨ok_aload_n C (show decode cX1_passDays 31 = .ok (.aload_n 0, 1) by decide +kernel) rfl rfl, ?_⟩
  refine List.forall_mem_cons.mpr ⟨ok_aload_n C (show decode cX1_passDays 32 = .ok (.aload_n 1, 1) by decide +kernel) rfl rfl, ?_⟩
  refine List.forall_mem_cons.mpr ⟨ok_aload_n C (show decode cX1_passDays 33 = .ok (.aload_n 2, 1) by decide +kernel) rfl rfl, ?_⟩
  refine List.forall_mem_cons.mpr ⟨ok_callV C h_X1_carry ⟨rfl, rfl⟩ rfl kw_771 kw_768 kw_770 kp_22 kw_4 rfl ds_X1_carry ⟨by decide, by decide⟩ (show decode cX1_passDays 34 = .ok (.invokevirtual 79, 3) by decide +kernel) rfl, ?_⟩
  refine List.forall_mem_cons.mpr ⟨ok_aload_n C (show decode cX1_passDays 37 = .ok (.aload_n 2, 1) by decide +kernel) rfl rfl, ?_⟩
  refine List.forall_mem_cons.mpr ⟨ok_aload_n C (show decode cX1_passDays 38 = .ok (.aload_n 1, 1) by decide +kernel) rfl rfl, ?_⟩
  refine List.forall_mem_cons.mpr ⟨ok_callV C h_X6_makeAndEat ⟨rfl, rfl⟩ rfl kw_775 kw_772 kw_773 kw_774 kw_6 rfl ds_X6_makeAndEat ⟨by decide, by decide⟩ (show decode cX1_passDays 39 = .ok (.invokevirtual 82, 3) by decide +kernel) rfl, ?_⟩
  refine List.forall_mem_cons.mpr ⟨ok_aload_n C (show decode cX1_passDays 42 = .ok (.aload_n 2, 1) by decide +kernel) rfl rfl, ?_⟩
  refine List.forall_mem_cons.mpr ⟨ok_aload_n C (show decode cX1_passDays 43 = .ok (.aload_n 1, 1) by decide +kernel) rfl rfl, ?_⟩
  refine List.forall_mem_cons.mpr ⟨ok_callV C h_X6_countApart ⟨rfl, rfl⟩ rfl kw_784 kw_781 kw_782 kw_783 kw_6 rfl ds_X6_countApart ⟨by decide, by decide⟩ (show decode cX1_passDays 44 = .ok (.invokevirtual 86, 3) by decide +kernel) rfl, ?_⟩
  refine List.forall_mem_cons.mpr ⟨ok_aload_n C (show decode cX1_passDays 47 = .ok (.aload_n 2, 1) by decide +kernel) rfl rfl, ?_⟩
  refine List.forall_mem_cons.mpr ⟨ok_dup C (show decode cX1_passDays 48 = .ok (.dup, 1) by decide +kernel) rfl, ?_⟩
  refine List.forall_mem_cons.mpr ⟨ok_getf C (wi_X6) rfl (by decide) kw_163 (show decode cX1_passDays 49 = .ok (.getfield 33, 3) by decide +kernel) rfl, ?_⟩
  refine List.forall_mem_cons.mpr ⟨ok_iconst C (show decode cX1_passDays 52 = .ok (.iconst 1, 1) by decide +kernel) (by decide) rfl, ?_⟩
  refine List.forall_mem_cons.mpr ⟨ok_iadd C (show decode cX1_passDays 53 = .ok (.iadd, 1) by decide +kernel) rfl, ?_⟩
  refine List.forall_mem_cons.mpr ⟨ok_putf C (wi_X6) tyX6 tyX6_ok nmX6 rfl (by decide) kw_163 (Or.inl rfl) (Or.inl ⟨rfl, rfl⟩) (show decode cX1_passDays 54 = .ok (.putfield 33, 3) by decide +kernel) rfl, ?_⟩
  refine List.forall_mem_cons.mpr ⟨ok_iinc C (show decode cX1_passDays 57 = .ok (.iinc 5 1, 3) by decide +kernel) (by decide) (by decide) rfl, ?_⟩
  refine List.forall_mem_cons.mpr ⟨ok_goto C (show decode cX1_passDays 60 = .ok (.goto (-51), 3) by decide +kernel) (tg := 9) (by decide) rfl, ?_⟩
  refine List.forall_mem_cons.mpr ⟨ok_aload_n C (show decode cX1_passDays 63 = .ok (.aload_n 2, 1) by decide +kernel) rfl rfl, ?_⟩
  refine List.forall_mem_cons.mpr ⟨ok_getf C (wi_X6) rfl (by decide) kw_163 (show decode cX1_passDays 64 = .ok (.getfield 33, 3) by decide +kernel) rfl, ?_⟩
  refine List.forall_mem_cons.mpr ⟨ok_iload C (show decode cX1_passDays 67 = .ok (.iload 4, 2) by decide +kernel) rfl, ?_⟩
  refine List.forall_mem_cons.mpr ⟨ok_isub C (show decode cX1_passDays 69 = .ok (.isub, 1) by decide +kernel) rfl, ?_⟩
  refine List.forall_mem_cons.mpr ⟨ok_ret C rfl (show decode cX1_passDays 70 = .ok (.ireturn, 1) by decide +kernel), ?_⟩
  exact fun _ h => absurd h List.not_mem_nil
def L_X2_init : List (Nat × ab_A) := [
  (0, ab_nx 1 (ab_aload 0)),
  (1, ab_nx 4 ab_obj),
  (4, ab_nx 5 (ab_aload 0)),
  (5, ab_nx 7 (ab_lit (.int 8))),
  (7, ab_nx 10 (ab_newa 5 (fun n => (n, .inr (.inr (.inr (.inr (fun _ => none)))))) 1 8)),
  (10, ab_nx 13 (ab_putf 2 0 2)),
  (13, ab_vret 1 8)]
set_option maxRecDepth 100000 in
set_option maxHeartbeats 4000000 in
theorem M_X2_init {l : Launch} {b : ab_B} {D : va_G} {cA : Nat → ClassId} : ab_M l b D ab_cl cA (ab_E0 b) yX2_init (Cond.code yX2_init cX2_init 1 none :: ab_G) ({ frames := 2, cells := 1, slots := 8, locals := 200 } : Room) (ab_X (ab_T L_X2_init) 1) := by
  refine ab_meth (ret := none) L_X2_init (by decide) rfl fun p e R s m args below meth c o C => ?_
  unfold L_X2_init
  refine List.forall_mem_cons.mpr ⟨ok_aload_n C (show decode cX2_init 0 = .ok (.aload_n 0, 1) by decide +kernel) rfl rfl, ?_⟩
  refine List.forall_mem_cons.mpr ⟨ok_obj C kw_126 kw_30 kw_31 ⟨by decide, by decide⟩ (show decode cX2_init 1 = .ok (.invokespecial 3, 3) by decide +kernel) rfl, ?_⟩
  refine List.forall_mem_cons.mpr ⟨ok_aload_n C (show decode cX2_init 4 = .ok (.aload_n 0, 1) by decide +kernel) rfl rfl, ?_⟩
  refine List.forall_mem_cons.mpr ⟨ok_bipush C (show decode cX2_init 5 = .ok (.bipush 8, 2) by decide +kernel) (by decide) rfl, ?_⟩
  refine List.forall_mem_cons.mpr ⟨ok_anew C (t0 := 5) rfl (cx_E C).2.2.1 kw_127 (show decode cX2_init 7 = .ok (.anewarray 9, 3) by decide +kernel) rfl, ?_⟩
  refine List.forall_mem_cons.mpr ⟨ok_putf C (wi_X2) tyX2 tyX2_ok nmX2 rfl (by decide) kw_129 (Or.inr ⟨rfl, cx_name C, rfl⟩) (Or.inr (Or.inr (Or.inl ⟨rfl, Or.inr ⟨_, rfl⟩⟩))) (show decode cX2_init 10 = .ok (.putfield 11, 3) by decide +kernel) rfl, ?_⟩
  refine List.forall_mem_cons.mpr ⟨ok_vret C rfl (show decode cX2_init 13 = .ok (.return_, 1) by decide +kernel), ?_⟩
  exact fun _ h => absurd h List.not_mem_nil
def L_X2_forget : List (Nat × ab_A) := [
  (0, ab_nx 1 (ab_aload 0)),
  (1, ab_nx 2 (ab_lit (.int 0))),
  (2, ab_nx 5 (ab_putf 2 1 0)),
  (5, ab_vret 0 0)]
set_option maxRecDepth 100000 in
set_option maxHeartbeats 4000000 in
theorem M_X2_forget {l : Launch} {b : ab_B} {D : va_G} {cA : Nat → ClassId} : ab_M l b D ab_cl cA (ab_E0 b) yX2_forget (Cond.code yX2_forget cX2_forget 1 none :: ab_G) ({ frames := 1, cells := 0, slots := 0, locals := 100 } : Room) (ab_X (ab_T L_X2_forget) 1) := by
  refine ab_meth (ret := none) L_X2_forget (by decide) rfl fun p e R s m args below meth c o C => ?_
  unfold L_X2_forget
  refine List.forall_mem_cons.mpr ⟨ok_aload_n C (show decode cX2_forget 0 = .ok (.aload_n 0, 1) by decide +kernel) rfl rfl, ?_⟩
  refine List.forall_mem_cons.mpr ⟨ok_iconst C (show decode cX2_forget 1 = .ok (.iconst 0, 1) by decide +kernel) (by decide) rfl, ?_⟩
  refine List.forall_mem_cons.mpr ⟨ok_putf C (wi_X2) tyX2 tyX2_ok nmX2 rfl (by decide) kw_130 (Or.inl rfl) (Or.inl ⟨rfl, rfl⟩) (show decode cX2_forget 2 = .ok (.putfield 17, 3) by decide +kernel) rfl, ?_⟩
  refine List.forall_mem_cons.mpr ⟨ok_vret C rfl (show decode cX2_forget 5 = .ok (.return_, 1) by decide +kernel), ?_⟩
  exact fun _ h => absurd h List.not_mem_nil
def L_X2_dropOldest : List (Nat × ab_A) := [
  (0, ab_nx 1 (ab_aload 0)),
  (1, ab_nx 4 (ab_getf 2 0)),
  (4, ab_nx 5 (ab_lit (.int 0))),
  (5, ab_nx 6 (ab_aald 5)),
  (6, ab_nx 7 (ab_astore 1)),
  (7, ab_nx 8 (ab_lit (.int 1))),
  (8, ab_nx 9 (ab_istore 2)),
  (9, ab_nx 10 (ab_iload 2)),
  (10, ab_nx 12 (ab_lit (.int 8))),
  (12, ab_icmp 15 35 (fun x y => decide (y ≤ x))),
  (15, ab_nx 16 (ab_aload 0)),
  (16, ab_nx 19 (ab_getf 2 0)),
  (19, ab_nx 20 (ab_iload 2)),
  (20, ab_nx 21 (ab_lit (.int 1))),
  (21, ab_nx 22 (ab_bin (fun x y => x - y))),
  (22, ab_nx 23 (ab_aload 0)),
  (23, ab_nx 26 (ab_getf 2 0)),
  (26, ab_nx 27 (ab_iload 2)),
  (27, ab_nx 28 (ab_aald 5)),
  (28, ab_nx 29 (ab_aast 5 6)),
  (29, ab_nx 32 (ab_iinc 2 1)),
  (32, ab_goto 9),
  (35, ab_nx 36 (ab_aload 0)),
  (36, ab_nx 39 (ab_getf 2 0)),
  (39, ab_nx 41 (ab_lit (.int 7))),
  (41, ab_nx 42 (ab_aload 1)),
  (42, ab_nx 43 (ab_aast 5 6)),
  (43, ab_nx 44 (ab_aload 0)),
  (44, ab_nx 46 (ab_lit (.int 7))),
  (46, ab_nx 49 (ab_putf 2 1 0)),
  (49, ab_vret 0 0)]
set_option maxRecDepth 100000 in
set_option maxHeartbeats 4000000 in
theorem M_X2_dropOldest {l : Launch} {b : ab_B} {D : va_G} {cA : Nat → ClassId} : ab_M l b D ab_cl cA (ab_E0 b) yX2_dropOldest (Cond.code yX2_dropOldest cX2_dropOldest 3 none :: ab_G) ({ frames := 1, cells := 0, slots := 0, locals := 100 } : Room) (ab_X (ab_T L_X2_dropOldest) 3) := by
  refine ab_meth (ret := none) L_X2_dropOldest (by decide) rfl fun p e R s m args below meth c o C => ?_
  unfold L_X2_dropOldest
  refine List.forall_mem_cons.mpr ⟨ok_aload_n C (show decode cX2_dropOldest 0 = .ok (.aload_n 0, 1) by decide +kernel) rfl rfl, ?_⟩
  refine List.forall_mem_cons.mpr ⟨ok_getf C (wi_X2) rfl (by decide) kw_129 (show decode cX2_dropOldest 1 = .ok (.getfield 11, 3) by decide +kernel) rfl, ?_⟩
  refine List.forall_mem_cons.mpr ⟨ok_iconst C (show decode cX2_dropOldest 4 = .ok (.iconst 0, 1) by decide +kernel) (by decide) rfl, ?_⟩
  refine List.forall_mem_cons.mpr ⟨ok_aaload C (t0 := 5) rfl (show decode cX2_dropOldest 5 = .ok (.aaload, 1) by decide +kernel) rfl, ?_⟩
  refine List.forall_mem_cons.mpr ⟨ok_astore_n C (show decode cX2_dropOldest 6 = .ok (.astore_n 1, 1) by decide +kernel) rfl (by decide) rfl, ?_⟩
  refine List.forall_mem_cons.mpr ⟨ok_iconst C (show decode cX2_dropOldest 7 = .ok (.iconst 1, 1) by decide +kernel) (by decide) rfl, ?_⟩
  refine List.forall_mem_cons.mpr ⟨ok_istore_n C (show decode cX2_dropOldest 8 = .ok (.istore_n 2, 1) by decide +kernel) rfl (by decide) rfl, ?_⟩
  refine List.forall_mem_cons.mpr ⟨ok_iload_n C (show decode cX2_dropOldest 9 = .ok (.iload_n 2, 1) by decide +kernel) rfl rfl, ?_⟩
  refine List.forall_mem_cons.mpr ⟨ok_bipush C (show decode cX2_dropOldest 10 = .ok (.bipush 8, 2) by decide +kernel) (by decide) rfl, ?_⟩
  refine List.forall_mem_cons.mpr ⟨ok_icmpge C (show decode cX2_dropOldest 12 = .ok (.if_icmp .ge 23, 3) by decide +kernel) (tg := 35) (by decide) rfl rfl, ?_⟩
  refine List.forall_mem_cons.mpr ⟨ok_aload_n C (show decode cX2_dropOldest 15 = .ok (.aload_n 0, 1) by decide +kernel) rfl rfl, ?_⟩
  refine List.forall_mem_cons.mpr ⟨ok_getf C (wi_X2) rfl (by decide) kw_129 (show decode cX2_dropOldest 16 = .ok (.getfield 11, 3) by decide +kernel) rfl, ?_⟩
  refine List.forall_mem_cons.mpr ⟨ok_iload_n C (show decode cX2_dropOldest 19 = .ok (.iload_n 2, 1) by decide +kernel) rfl rfl, ?_⟩
  refine List.forall_mem_cons.mpr ⟨ok_iconst C (show decode cX2_dropOldest 20 = .ok (.iconst 1, 1) by decide +kernel) (by decide) rfl, ?_⟩
  refine List.forall_mem_cons.mpr ⟨ok_isub C (show decode cX2_dropOldest 21 = .ok (.isub, 1) by decide +kernel) rfl, ?_⟩
  refine List.forall_mem_cons.mpr ⟨ok_aload_n C (show decode cX2_dropOldest 22 = .ok (.aload_n 0, 1) by decide +kernel) rfl rfl, ?_⟩
  refine List.forall_mem_cons.mpr ⟨ok_getf C (wi_X2) rfl (by decide) kw_129 (show decode cX2_dropOldest 23 = .ok (.getfield 11, 3) by decide +kernel) rfl, ?_⟩
  refine List.forall_mem_cons.mpr ⟨ok_iload_n C (show decode cX2_dropOldest 26 = .ok (.iload_n 2, 1) by decide +kernel) rfl rfl, ?_⟩
  refine List.forall_mem_cons.mpr ⟨ok_aaload C (t0 := 5) rfl (show decode cX2_dropOldest 27 = .ok (.aaload, 1) by decide +kernel) rfl, ?_⟩
  refine List.forall_mem_cons.mpr ⟨ok_aastore C (t0 := 5) (ci := 6) rfl rfl (show decode cX2_dropOldest 28 = .ok (.aastore, 1) by decide +kernel) rfl, ?_⟩
  refine List.forall_mem_cons.mpr ⟨ok_iinc C (show decode cX2_dropOldest 29 = .ok (.iinc 2 1, 3) by decide +kernel) (by decide) (by decide) rfl, ?_⟩
  refine List.forall_mem_cons.mpr ⟨ok_goto C (show decode cX2_dropOldest 32 = .ok (.goto (-23), 3) by decide +kernel) (tg := 9) (by decide) rfl, ?_⟩
  refine List.forall_mem_cons.mpr ⟨ok_aload_n C (show decode cX2_dropOldest 35 = .ok (.aload_n 0, 1) by decide +kernel) rfl rfl, ?_⟩
  refine List.forall_mem_cons.mpr ⟨ok_getf C (wi_X2) rfl (by decide) kw_129 (show decode cX2_dropOldest 36 = .ok (.getfield 11, 3) by decide +kernel) rfl, ?_⟩
  refine List.forall_mem_cons.mpr ⟨ok_bipush C (show decode cX2_dropOldest 39 = .ok (.bipush 7, 2) by decide +kernel) (by decide) rfl, ?_⟩
  refine List.forall_mem_cons.mpr ⟨ok_aload_n C (show decode cX2_dropOldest 41 = .ok (.aload_n 1, 1) by decide +kernel) rfl rfl, ?_⟩
  refine List.forall_mem_cons.mpr ⟨ok_aastore C (t0 := 5) (ci := 6) rfl rfl (show decode cX2_dropOldest 42 = .ok (.aastore, 1) by decide +kernel) rfl, ?_⟩
  refine List.forall_mem_cons.mpr ⟨ok_aload_n C (show decode cX2_dropOldest 43 = .ok (.aload_n 0, 1) by decide +kernel) rfl rfl, ?_⟩
  refine List.forall_mem_cons.mpr ⟨ok_bipush C (show decode cX2_dropOldest 44 = .ok (.bipush 7, 2) by decide +kernel) (by decide) rfl, ?_⟩
  refine List.forall_mem_cons.mpr ⟨ok_putf C (wi_X2) tyX2 tyX2_ok nmX2 rfl (by decide) kw_130 (Or.inl rfl) (Or.inl ⟨rfl, rfl⟩) (show decode cX2_dropOldest 46 = .ok (.putfield 17, 3) by decide +kernel) rfl, ?_⟩
  refine List.forall_mem_cons.mpr ⟨ok_vret C rfl (show decode cX2_dropOldest 49 = .ok (.return_, 1) by decide +kernel), ?_⟩
  exact fun _ h => absurd h List.not_mem_nil
def L_X6_init : List (Nat × ab_A) := [
  (0, ab_nx 1 (ab_aload 0)),
  (1, ab_nx 4 ab_obj),
  (4, ab_nx 5 (ab_aload 0)),
  (5, ab_nx 7 (ab_lit (.int 12))),
  (7, ab_nx 9 (ab_newa 1 (fun n => (n, .inl (fun _ => 0))) 7 128)),
  (9, ab_nx 12 (ab_putf 6 0 2)),
  (12, ab_nx 13 (ab_aload 0)),
  (13, ab_nx 15 (ab_lit (.int 12))),
  (15, ab_nx 17 (ab_newa 1 (fun n => (n, .inl (fun _ => 0))) 7 128)),
  (17, ab_nx 20 (ab_putf 6 1 2)),
  (20, ab_nx 21 (ab_aload 0)),
  (21, ab_nx 23 (ab_lit (.int 12))),
  (23, ab_nx 25 (ab_newa 1 (fun n => (n, .inl (fun _ => 0))) 7 128)),
  (25, ab_nx 28 (ab_putf 6 2 2)),
  (28, ab_nx 29 (ab_aload 0)),
  (29, ab_nx 31 (ab_lit (.int 12))),
  (31, ab_nx 33 (ab_newa 1 (fun n => (n, .inl (fun _ => 0))) 7 128)),
  (33, ab_nx 36 (ab_putf 6 3 2)),
  (36, ab_nx 37 (ab_aload 0)),
  (37, ab_nx 39 (ab_lit (.int 8))),
  (39, ab_nx 41 (ab_newa 1 (fun n => (n, .inl (fun _ => 0))) 7 128)),
  (41, ab_nx 44 (ab_putf 6 4 2)),
  (44, ab_nx 45 (ab_aload 0)),
  (45, ab_nx 47 (ab_lit (.int 8))),
  (47, ab_nx 49 (ab_newa 1 (fun n => (n, .inl (fun _ => 0))) 7 128)),
  (49, ab_nx 52 (ab_putf 6 5 2)),
  (52, ab_nx 53 (ab_aload 0)),
  (53, ab_nx 55 (ab_lit (.int 64))),
  (55, ab_nx 57 (ab_newa 1 (fun n => (n, .inl (fun _ => 0))) 7 128)),
  (57, ab_nx 60 (ab_putf 6 6 2)),
  (60, ab_vret 7 128)]
set_option maxRecDepth 100000 in
set_option maxHeartbeats 4000000 in
theorem M_X6_init {l : Launch} {b : ab_B} {D : va_G} {cA : Nat → ClassId} : ab_M l b D ab_cl cA (ab_E0 b) yX6_init (Cond.code yX6_init cX6_init 1 none :: ab_G) ({ frames := 2, cells := 7, slots := 128, locals := 200 } : Room) (ab_X (ab_T L_X6_init) 1) := by
  refine ab_meth (ret := none) L_X6_init (by decide) rfl fun p e R s m args below meth c o C => ?_
  unfold L_X6_init
  refine List.forall_mem_cons.mpr ⟨ok_aload_n C (show decode cX6_init 0 = .ok (.aload_n 0, 1) by decide +kernel) rfl rfl, ?_⟩
  refine List.forall_mem_cons.mpr ⟨ok_obj C kw_141 kw_30 kw_31 ⟨by decide, by decide⟩ (show decode cX6_init 1 = .ok (.invokespecial 3, 3) by decide +kernel) rfl, ?_⟩
  refine List.forall_mem_cons.mpr ⟨ok_aload_n C (show decode cX6_init 4 = .ok (.aload_n 0, 1) by decide +kernel) rfl rfl, ?_⟩
  refine List.forall_mem_cons.mpr ⟨ok_bipush C (show decode cX6_init 5 = .ok (.bipush 12, 2) by decide +kernel) (by decide) rfl, ?_⟩
  refine List.forall_mem_cons.mpr ⟨ok_newa_int C kw_97 (show decode cX6_init 7 = .ok (.newarray .int, 2) by decide +kernel) rfl, ?_⟩
  refine List.forall_mem_cons.mpr ⟨ok_putf C (wi_X6) tyX6 tyX6_ok nmX6 rfl (by decide) kw_142 (Or.inr ⟨rfl, cx_name C, rfl⟩) (Or.inr (Or.inr (Or.inl ⟨rfl, Or.inr ⟨_, rfl⟩⟩))) (show decode cX6_init 9 = .ok (.putfield 9, 3) by decide +kernel) rfl, ?_⟩
  refine List.forall_mem_cons.mpr ⟨ok_aload_n C (show decode cX6_init 12 = .ok (.aload_n 0, 1) by decide +kernel) rfl rfl, ?_⟩
  refine List.forall_mem_cons.mpr ⟨ok_bipush C (show decode cX6_init 13 = .ok (.bipush 12, 2) by decide +kernel) (by decide) rfl, ?_⟩
  refine List.forall_mem_cons.mpr ⟨ok_newa_int C kw_97 (show decode cX6_init 15 = .ok (.newarray .int, 2) by decide +kernel) rfl, ?_⟩
  refine List.forall_mem_cons.mpr ⟨ok_putf C (wi_X6) tyX6 tyX6_ok nmX6 rfl (by decide) kw_146 (Or.inr ⟨rfl, cx_name C, rfl⟩) (Or.inr (Or.inr (Or.inl ⟨rfl, Or.inr ⟨_, rfl⟩⟩))) (show decode cX6_init 17 = .ok (.putfield 15, 3) by decide +kernel) rfl, ?_⟩
  refine List.forall_mem_cons.mpr ⟨ok_aload_n C (show decode cX6_init 20 = .ok (.aload_n 0, 1) by decide +kernel) rfl rfl, ?_⟩
  refine List.forall_mem_cons.mpr ⟨ok_bipush C (show decode cX6_init 21 = .ok (.bipush 12, 2) by decide +kernel) (by decide) rfl, ?_⟩
  refine List.forall_mem_cons.mpr ⟨ok_newa_int C kw_97 (show decode cX6_init 23 = .ok (.newarray .int, 2) by decide +kernel) rfl, ?_⟩
  refine List.forall_mem_cons.mpr ⟨ok_putf C (wi_X6) tyX6 tyX6_ok nmX6 rfl (by decide) kw_149 (Or.inr ⟨rfl, cx_name C, rfl⟩) (Or.inr (Or.inr (Or.inl ⟨rfl, Or.inr ⟨_, rfl⟩⟩))) (show decode cX6_init 25 = .ok (.putfield 18, 3) by decide +kernel) rfl, ?_⟩
  refine List.forall_mem_cons.mpr ⟨ok_aload_n C (show decode cX6_init 28 = .ok (.aload_n 0, 1) by decide +kernel) rfl rfl, ?_⟩
  refine List.forall_mem_cons.mpr ⟨ok_bipush C (show decode cX6_init 29 = .ok (.bipush 12, 2) by decide +kernel) (by decide) rfl, ?_⟩
  refine List.forall_mem_cons.mpr ⟨ok_newa_int C kw_97 (show decode cX6_init 31 = .ok (.newarray .int, 2) by decide +kernel) rfl, ?_⟩
  refine List.forall_mem_cons.mpr ⟨ok_putf C (wi_X6) tyX6 tyX6_ok nmX6 rfl (by decide) kw_151 (Or.inr ⟨rfl, cx_name C, rfl⟩) (Or.inr (Or.inr (Or.inl ⟨rfl, Or.inr ⟨_, rfl⟩⟩))) (show decode cX6_init 33 = .ok (.putfield 21, 3) by decide +kernel) rfl, ?_⟩
  refine List.forall_mem_cons.mpr ⟨ok_aload_n C (show decode cX6_init 36 = .ok (.aload_n 0, 1) by decide +kernel) rfl rfl, ?_⟩
  refine List.forall_mem_cons.mpr ⟨ok_bipush C (show decode cX6_init 37 = .ok (.bipush 8, 2) by decide +kernel) (by decide) rfl, ?_⟩
  refine List.forall_mem_cons.mpr ⟨ok_newa_int C kw_97 (show decode cX6_init 39 = .ok (.newarray .int, 2) by decide +kernel) rfl, ?_⟩
  refine List.forall_mem_cons.mpr ⟨ok_putf C (wi_X6) tyX6 tyX6_ok nmX6 rfl (by decide) kw_155 (Or.inr ⟨rfl, cx_name C, rfl⟩) (Or.inr (Or.inr (Or.inl ⟨rfl, Or.inr ⟨_, rfl⟩⟩))) (show decode cX6_init 41 = .ok (.putfield 24, 3) by decide +kernel) rfl, ?_⟩
  refine List.forall_mem_cons.mpr ⟨ok_aload_n C (show decode cX6_init 44 = .ok (.aload_n 0, 1) by decide +kernel) rfl rfl, ?_⟩
  refine List.forall_mem_cons.mpr ⟨ok_bipush C (show decode cX6_init 45 = .ok (.bipush 8, 2) by decide +kernel) (by decide) rfl, ?_⟩
  refine List.forall_mem_cons.mpr ⟨ok_newa_int C kw_97 (show decode cX6_init 47 = .ok (.newarray .int, 2) by decide +kernel) rfl, ?_⟩
  refine List.forall_mem_cons.mpr ⟨ok_putf C (wi_X6) tyX6 tyX6_ok nmX6 rfl (by decide) kw_158 (Or.inr ⟨rfl, cx_name C, rfl⟩) (Or.inr (Or.inr (Or.inl ⟨rfl, Or.inr ⟨_, rfl⟩⟩))) (show decode cX6_init 49 = .ok (.putfield 27, 3) by decide +kernel) rfl, ?_⟩
  refine List.forall_mem_cons.mpr ⟨ok_aload_n C (show decode cX6_init 52 = .ok (.aload_n 0, 1) by decide +kernel) rfl rfl, ?_⟩
  refine List.forall_mem_cons.mpr ⟨ok_bipush C (show decode cX6_init 53 = .ok (.bipush 64, 2) by decide +kernel) (by decide) rfl, ?_⟩
  refine List.forall_mem_cons.mpr ⟨ok_newa_int C kw_97 (show decode cX6_init 55 = .ok (.newarray .int, 2) by decide +kernel) rfl, ?_⟩
  refine List.forall_mem_cons.mpr ⟨ok_putf C (wi_X6) tyX6 tyX6_ok nmX6 rfl (by decide) kw_161 (Or.inr ⟨rfl, cx_name C, rfl⟩) (Or.inr (Or.inr (Or.inl ⟨rfl, Or.inr ⟨_, rfl⟩⟩))) (show decode cX6_init 57 = .ok (.putfield 30, 3) by decide +kernel) rfl, ?_⟩
  refine List.forall_mem_cons.mpr ⟨ok_vret C rfl (show decode cX6_init 60 = .ok (.return_, 1) by decide +kernel), ?_⟩
  exact fun _ h => absurd h List.not_mem_nil
def L_X6_copyFrom : List (Nat × ab_A) := [
  (0, ab_nx 1 (ab_aload 1)),
  (1, ab_nx 4 (ab_getf 6 0)),
  (4, ab_nx 5 (ab_lit (.int 0))),
  (5, ab_nx 6 (ab_aload 0)),
  (6, ab_nx 9 (ab_getf 6 0)),
  (9, ab_nx 10 (ab_lit (.int 0))),
  (10, ab_nx 12 (ab_lit (.int 12))),
  (12, ab_nx 15 ab_copy),
  (15, ab_nx 16 (ab_aload 1)),
  (16, ab_nx 19 (ab_getf 6 1)),
  (19, ab_nx 20 (ab_lit (.int 0))),
  (20, ab_nx 21 (ab_aload 0)),
  (21, ab_nx 24 (ab_getf 6 1)),
  (24, ab_nx 25 (ab_lit (.int 0))),
  (25, ab_nx 27 (ab_lit (.int 12))),
  (27, ab_nx 30 ab_copy),
  (30, ab_nx 31 (ab_aload 1)),
  (31, ab_nx 34 (ab_getf 6 2)),
  (34, ab_nx 35 (ab_lit (.int 0))),
  (35, ab_nx 36 (ab_aload 0)),
  (36, ab_nx 39 (ab_getf 6 2)),
  (39, ab_nx 40 (ab_lit (.int 0))),
  (40, ab_nx 42 (ab_lit (.int 12))),
  (42, ab_nx 45 ab_copy),
  (45, ab_nx 46 (ab_aload 1)),
  (46, ab_nx 49 (ab_getf 6 3)),
  (49, ab_nx 50 (ab_lit (.int 0))),
  (50, ab_nx 51 (ab_aload 0)),
  (51, ab_nx 54 (ab_getf 6 3)),
  (54, ab_nx 55 (ab_lit (.int 0))),
  (55, ab_nx 57 (ab_lit (.int 12))),
  (57, ab_nx 60 ab_copy),
  (60, ab_nx 61 (ab_aload 1)),
  (61, ab_nx 64 (ab_getf 6 4)),
  (64, ab_nx 65 (ab_lit (.int 0))),
  (65, ab_nx 66 (ab_aload 0)),
  (66, ab_nx 69 (ab_getf 6 4)),
  (69, ab_nx 70 (ab_lit (.int 0))),
  (70, ab_nx 72 (ab_lit (.int 8))),
  (72, ab_nx 75 ab_copy),
  (75, ab_nx 76 (ab_aload 1)),
  (76, ab_nx 79 (ab_getf 6 5)),
  (79, ab_nx 80 (ab_lit (.int 0))),
  (80, ab_nx 81 (ab_aload 0)),
  (81, ab_nx 84 (ab_getf 6 5)),
  (84, ab_nx 85 (ab_lit (.int 0))),
  (85, ab_nx 87 (ab_lit (.int 8))),
  (87, ab_nx 90 ab_copy),
  (90, ab_nx 91 (ab_aload 1)),
  (91, ab_nx 94 (ab_getf 6 6)),
  (94, ab_nx 95 (ab_lit (.int 0))),
  (95, ab_nx 96 (ab_aload 0)),
  (96, ab_nx 99 (ab_getf 6 6)),
  (99, ab_nx 100 (ab_lit (.int 0))),
  (100, ab_nx 102 (ab_lit (.int 64))),
  (102, ab_nx 105 ab_copy),
  (105, ab_nx 106 (ab_aload 0)),
  (106, ab_nx 107 (ab_aload 1)),
  (107, ab_nx 110 (ab_getf 6 7)),
  (110, ab_nx 113 (ab_putf 6 7 0)),
  (113, ab_nx 114 (ab_aload 0)),
  (114, ab_nx 115 (ab_aload 1)),
  (115, ab_nx 118 (ab_getf 6 8)),
  (118, ab_nx 121 (ab_putf 6 8 0)),
  (121, ab_nx 122 (ab_aload 0)),
  (122, ab_nx 123 (ab_aload 1)),
  (123, ab_nx 126 (ab_getf 6 9)),
  (126, ab_nx 129 (ab_putf 6 9 0)),
  (129, ab_vret 0 0)]
set_option maxRecDepth 100000 in
set_option maxHeartbeats 4000000 in
theorem M_X6_copyFrom {l : Launch} {b : ab_B} {D : va_G} {cA : Nat → ClassId} : ab_M l b D ab_cl cA (ab_E0 b) yX6_copyFrom (Cond.code yX6_copyFrom cX6_copyFrom 2 none :: ab_G) ({ frames := 2, cells := 0, slots := 0, locals := 200 } : Room) (ab_X (ab_T L_X6_copyFrom) 2) := by
  refine ab_meth (ret := none) L_X6_copyFrom (by decide) rfl fun p e R s m args below meth c o C => ?_
  unfold L_X6_copyFrom
  refine List.forall_mem_cons.mpr ⟨ok_aload_n C (show decode cX6_copyFrom 0 = .ok (.aload_n 1, 1) by decide +kernel) rfl rfl, ?_⟩
  refine List.forall_mem_cons.mpr ⟨ok_getf C (wi_X6) rfl (by decide) kw_142 (show decode cX6_copyFrom 1 = .ok (.getfield 9, 3) by decide +kernel) rfl, ?_⟩
  refine List.forall_mem_cons.mpr ⟨ok_iconst C (show decode cX6_copyFrom 4 = .ok (.iconst 0, 1) by decide +kernel) (by decide) rfl, ?_⟩
  refine List.forall_mem_cons.mpr ⟨ok_aload_n C (show decode cX6_copyFrom 5 = .ok (.aload_n 0, 1) by decide +kernel) rfl rfl, ?_⟩
  refine List.forall_mem_cons.mpr ⟨ok_getf C (wi_X6) rfl (by decide) kw_142 (show decode cX6_copyFrom 6 = .ok (.getfield 9, 3) by decide +kernel) rfl, ?_⟩
  refine List.forall_mem_cons.mpr ⟨ok_iconst C (show decode cX6_copyFrom 9 = .ok (.iconst 0, 1) by decide +kernel) (by decide) rfl, ?_⟩
  refine List.forall_mem_cons.mpr ⟨ok_bipush C (show decode cX6_copyFrom 10 = .ok (.bipush 12, 2) by decide +kernel) (by decide) rfl, ?_⟩
  refine List.forall_mem_cons.mpr ⟨ok_copy C kw_725 kw_727 kw_726 kw_21 ⟨by decide, by decide +kernel⟩ (show decode cX6_copyFrom 12 = .ok (.invokestatic 52, 3) by decide +kernel) rfl, ?_⟩
  refine List.forall_mem_cons.mpr ⟨ok_aload_n C (show decode cX6_copyFrom 15 = .ok (.aload_n 1, 1) by decide +kernel) rfl rfl, ?_⟩
  refine List.forall_mem_cons.mpr ⟨ok_getf C (wi_X6) rfl (by decide) kw_146 (show decode cX6_copyFrom 16 = .ok (.getfield 15, 3) by decide +kernel) rfl, ?_⟩
  refine List.forall_mem_cons.mpr ⟨ok_iconst C (show decode cX6_copyFrom 19 = .ok (.iconst 0, 1) by decide +kernel) (by decide) rfl, ?_⟩
  refine List.forall_mem_cons.mpr ⟨ok_aload_n C (show decode cX6_copyFrom 20 = .ok (.aload_n 0, 1) by decide +kernel) rfl rfl, ?_⟩
  refine List.forall_mem_cons.mpr ⟨ok_getf C (wi_X6) rfl (by decide) kw_146 (show decode cX6_copyFrom 21 = .ok (.getfield 15, 3) by decide +kernel) rfl, ?_⟩
  refine List.forall_mem_cons.mpr ⟨ok_iconst C (show decode cX6_copyFrom 24 = .ok (.iconst 0, 1) by decide +kernel) (by decide) rfl, ?_⟩
  refine List.forall_mem_cons.mpr ⟨ok_bipush C (show decode cX6_copyFrom 25 = .ok (.bipush 12, 2) by decide +kernel) (by decide) rfl, ?_⟩
  refine List.forall_mem_cons.mpr ⟨ok_copy C kw_725 kw_727 kw_726 kw_21 ⟨by decide, by decide +kernel⟩ (show decode cX6_copyFrom 27 = .ok (.invokestatic 52, 3) by decide +kernel) rfl, ?_⟩
  refine List.forall_mem_cons.mpr ⟨ok_aload_n C (show decode cX6_copyFrom 30 = .ok (.aload_n 1, 1) by decide +kernel) rfl rfl, ?_⟩
  refine List.forall_mem_cons.mpr ⟨ok_getf C (wi_X6) rfl (by decide) kw_149 (show decode cX6_copyFrom 31 = .ok (.getfield 18, 3) by decide +kernel) rfl, ?_⟩
  refine List.forall_mem_cons.mpr ⟨ok_iconst C (show decode cX6_copyFrom 34 = .ok (.iconst 0, 1) by decide +kernel) (by decide) rfl, ?_⟩
  refine List.forall_mem_cons.mpr ⟨ok_aload_n C (show decode cX6_copyFrom 35 = .ok (.aload_n 0, 1) by decide +kernel) rfl rfl, ?_⟩
  refine List.forall_mem_cons.mpr ⟨ok_getf C (wi_X6) rfl (by decide) kw_149 (show decode cX6_copyFrom 36 = .ok (.getfield 18, 3) by decide +kernel) rfl, ?_⟩
  refine List.forall_mem_cons.mpr ⟨ok_iconst C (show decode cX6_copyFrom 39 = .ok (.iconst 0, 1) by decide +kernel) (by decide) rfl, ?_⟩
  refine List.forall_mem_cons.mpr ⟨ok_bipush C (show decode cX6_copyFrom 40 = .ok (.bipush 12, 2) by decide +kernel) (by decide) rfl, ?_⟩
  refine List.forall_mem_cons.mpr ⟨ok_copy C kw_725 kw_727 kw_726 kw_21 ⟨by decide, by decide +kernel⟩ (show decode cX6_copyFrom 42 = .ok (.invokestatic 52, 3) by decide +kernel) rfl, ?_⟩
  refine List.forall_mem_cons.mpr ⟨ok_aload_n C (show decode cX6_copyFrom 45 = .ok (.aload_n 1, 1) by decide +kernel) rfl rfl, ?_⟩
  refine List.forall_mem_cons.mpr ⟨ok_getf C (wi_X6) rfl (by decide) kw_151 (show decode cX6_copyFrom 46 = .ok (.getfield 21, 3) by decide +kernel) rfl, ?_⟩
  refine List.forall_mem_cons.mpr ⟨ok_iconst C (show decode cX6_copyFrom 49 = .ok (.iconst 0, 1) by decide +kernel) (by decide) rfl, ?_⟩
  refine List.forall_mem_cons.mpr ⟨ok_aload_n C (show decode cX6_copyFrom 50 = .ok (.aload_n 0, 1) by decide +kernel) rfl rfl, ?_⟩
  refine List.forall_mem_cons.mpr ⟨ok_getf C (wi_X6) rfl (by decide) kw_151 (show decode cX6_copyFrom 51 = .ok (.getfield 21, 3) by decide +kernel) rfl, ?_⟩
  refine List.forall_mem_cons.mpr ⟨ok_iconst C (show decode cX6_copyFrom 54 = .ok (.iconst 0, 1) by decide +kernel) (by decide) rfl, ?_⟩
  refine List.forall_mem_cons.mpr ⟨ok_bipush C (show decode cX6_copyFrom 55 = .ok (.bipush 12, 2) by decide +kernel) (by decide) rfl, ?_⟩
  refine List.forall_mem_cons.mpr ⟨ok_copy C kw_725 kw_727 kw_726 kw_21 ⟨by decide, by decide +kernel⟩ (show decode cX6_copyFrom 57 = .ok (.invokestatic 52, 3) by decide +kernel) rfl, ?_⟩
  refine List.forall_mem_cons.mpr ⟨ok_aload_n C (show decode cX6_copyFrom 60 = .ok (.aload_n 1, 1) by decide +kernel) rfl rfl, ?_⟩
  refine List.forall_mem_cons.mpr ⟨ok_getf C (wi_X6) rfl (by decide) kw_155 (show decode cX6_copyFrom 61 = .ok (.getfield 24, 3) by decide +kernel) rfl, ?_⟩
  refine List.forall_mem_cons.mpr ⟨ok_iconst C (show decode cX6_copyFrom 64 = .ok (.iconst 0, 1) by decide +kernel) (by decide) rfl, ?_⟩
  refine List.forall_mem_cons.mpr ⟨ok_aload_n C (show decode cX6_copyFrom 65 = .ok (.aload_n 0, 1) by decide +kernel) rfl rfl, ?_⟩
  refine List.forall_mem_cons.mpr ⟨ok_getf C (wi_X6) rfl (by decide) kw_155 (show decode cX6_copyFrom 66 = .ok (.getfield 24, 3) by decide +kernel) rfl, ?_⟩
  refine List.forall_mem_cons.mpr ⟨ok_iconst C (show decode cX6_copyFrom 69 = .ok (.iconst 0, 1) by decide +kernel) (by decide) rfl, ?_⟩
  refine List.forall_mem_cons.mpr ⟨ok_bipush C (show decode cX6_copyFrom 70 = .ok (.bipush 8, 2) by decide +kernel) (by decide) rfl, ?_⟩
  refine List.forall_mem_cons.mpr ⟨ok_copy C kw_725 kw_727 kw_726 kw_21 ⟨by decide, by decide +kernel⟩ (show decode cX6_copyFrom 72 = .ok (.invokestatic 52, 3) by decide +kernel) rfl, ?_⟩
  refine List.forall_mem_cons.mpr ⟨ok_aload_n C (show decode cX6_copyFrom 75 = .ok (.aload_n 1, 1) by decide +kernel) rfl rfl, ?_⟩
  refine List.forall_mem_cons.mpr ⟨ok_getf C (wi_X6) rfl (by decide) kw_158 (show decode cX6_copyFrom 76 = .ok (.getfield 27, 3) by decide +kernel) rfl, ?_⟩
  refine List.forall_mem_cons.mpr ⟨ok_iconst C (show decode cX6_copyFrom 79 = .ok (.iconst 0, 1) by decide +kernel) (by decide) rfl, ?_⟩
  refine List.forall_mem_cons.mpr ⟨ok_aload_n C (show decode cX6_copyFrom 80 = .ok (.aload_n 0, 1) by decide +kernel) rfl rfl, ?_⟩
  refine List.forall_mem_cons.mpr ⟨ok_getf C (wi_X6) rfl (by decide) kw_158 (show decode cX6_copyFrom 81 = .ok (.getfield 27, 3) by decide +kernel) rfl, ?_⟩
  refine List.forall_mem_cons.mpr ⟨ok_iconst C (show decode cX6_copyFrom 84 = .ok (.iconst 0, 1) by decide +kernel) (by decide) rfl, ?_⟩
  refine List.forall_mem_cons.mpr ⟨ok_bipush C (show decode cX6_copyFrom 85 = .ok (.bipush 8, 2) by decide +kernel) (by decide) rfl, ?_⟩
  refine List.forall_mem_cons.mpr ⟨ok_copy C kw_725 kw_727 kw_726 kw_21 ⟨by decide, by decide +kernel⟩ (show decode cX6_copyFrom 87 = .ok (.invokestatic 52, 3) by decide +kernel) rfl, ?_⟩
  refine List.forall_mem_cons.mpr ⟨ok_aload_n C (show decode cX6_copyFrom 90 = .ok (.aload_n 1, 1) by decide +kernel) rfl rfl, ?_⟩
  refine List.forall_mem_cons.mpr ⟨ok_getf C (wi_X6) rfl (by decide) kw_161 (show decode cX6_copyFrom 91 = .ok (.getfield 30, 3) by decide +kernel) rfl, ?_⟩
  refine List.forall_mem_cons.mpr ⟨ok_iconst C (show decode cX6_copyFrom 94 = .ok (.iconst 0, 1) by decide +kernel) (by decide) rfl, ?_⟩
  refine List.forall_mem_cons.mpr ⟨ok_aload_n C (show decode cX6_copyFrom 95 = .ok (.aload_n 0, 1) by decide +kernel) rfl rfl, ?_⟩
  refine List.forall_mem_cons.mpr ⟨ok_getf C (wi_X6) rfl (by decide) kw_161 (show decode cX6_copyFrom 96 = .ok (.getfield 30, 3) by decide +kernel) rfl, ?_⟩
  refine List.forall_mem_cons.mpr ⟨ok_iconst C (show decode cX6_copyFrom 99 = .ok (.iconst 0, 1) by decide +kernel) (by decide) rfl, ?_⟩
  refine List.forall_mem_cons.mpr ⟨ok_bipush C (show decode cX6_copyFrom 100 = .ok (.bipush 64, 2) by decide +kernel) (by decide) rfl, ?_⟩
  refine List.forall_mem_cons.mpr ⟨ok_copy C kw_725 kw_727 kw_726 kw_21 ⟨by decide, by decide +kernel⟩ (show decode cX6_copyFrom 102 = .ok (.invokestatic 52, 3) by decide +kernel) rfl, ?_⟩
  refine List.forall_mem_cons.mpr ⟨ok_aload_n C (show decode cX6_copyFrom 105 = .ok (.aload_n 0, 1) by decide +kernel) rfl rfl, ?_⟩
  refine List.forall_mem_cons.mpr ⟨ok_aload_n C (show decode cX6_copyFrom 106 = .ok (.aload_n 1, 1) by decide +kernel) rfl rfl, ?_⟩
  refine List.forall_mem_cons.mpr ⟨ok_getf C (wi_X6) rfl (by decide) kw_162 (show decode cX6_copyFrom 107 = .ok (.getfield 42, 3) by decide +kernel) rfl, ?_⟩
  refine List.forall_mem_cons.mpr ⟨ok_putf C (wi_X6) tyX6 tyX6_ok nmX6 rfl (by decide) kw_162 (Or.inl rfl) (Or.inl ⟨rfl, rfl⟩) (show decode cX6_copyFrom 110 = .ok (.putfield 42, 3) by decide +kernel) rfl, ?_⟩
  refine List.forall_mem_cons.mpr ⟨ok_aload_n C (show decode cX6_copyFrom 113 = .ok (.aload_n 0, 1) by decide +kernel) rfl rfl, ?_⟩
  refine List.forall_mem_cons.mpr ⟨ok_aload_n C (show decode cX6_copyFrom 114 = .ok (.aload_n 1, 1) by decide +kernel) rfl rfl, ?_⟩
  refine List.forall_mem_cons.mpr ⟨ok_getf C (wi_X6) rfl (by decide) kw_165 (show decode cX6_copyFrom 115 = .ok (.getfield 46, 3) by decide +kernel) rfl, ?_⟩
  refine List.forall_mem_cons.mpr ⟨ok_putf C (wi_X6) tyX6 tyX6_ok nmX6 rfl (by decide) kw_165 (Or.inl rfl) (Or.inl ⟨rfl, rfl⟩) (show decode cX6_copyFrom 118 = .ok (.putfield 46, 3) by decide +kernel) rfl, ?_⟩
  refine List.forall_mem_cons.mpr ⟨ok_aload_n C (show decode cX6_copyFrom 121 = .ok (.aload_n 0, 1) by decide +kernel) rfl rfl, ?_⟩
  refine List.forall_mem_cons.mpr ⟨ok_aload_n C (show decode cX6_copyFrom 122 = .ok (.aload_n 1, 1) by decide +kernel) rfl rfl, ?_⟩
  refine List.forall_mem_cons.mpr ⟨ok_getf C (wi_X6) rfl (by decide) kw_168 (show decode cX6_copyFrom 123 = .ok (.getfield 49, 3) by decide +kernel) rfl, ?_⟩
  refine List.forall_mem_cons.mpr ⟨ok_putf C (wi_X6) tyX6 tyX6_ok nmX6 rfl (by decide) kw_168 (Or.inl rfl) (Or.inl ⟨rfl, rfl⟩) (show decode cX6_copyFrom 126 = .ok (.putfield 49, 3) by decide +kernel) rfl, ?_⟩
  refine List.forall_mem_cons.mpr ⟨ok_vret C rfl (show decode cX6_copyFrom 129 = .ok (.return_, 1) by decide +kernel), ?_⟩
  exact fun _ h => absurd h List.not_mem_nil
def L_X2_keep (f_X2_dropOldest : List Value → ab_H → Option ab_O) (f_X6_init : List Value → ab_H → Option ab_O) (f_X6_copyFrom : List Value → ab_H → Option ab_O) : List (Nat × ab_A) := [
  (0, ab_nx 1 (ab_aload 0)),
  (1, ab_nx 4 (ab_getf 2 1)),
  (4, ab_nx 6 (ab_lit (.int 8))),
  (6, ab_icmp 9 13 (fun x y => decide (x < y))),
  (9, ab_nx 10 (ab_aload 0)),
  (10, ab_nx 13 (ab_callV 1 2 f_X2_dropOldest 0 0 8 138)),
  (13, ab_nx 14 (ab_aload 0)),
  (14, ab_nx 17 (ab_getf 2 0)),
  (17, ab_nx 18 (ab_aload 0)),
  (18, ab_nx 21 (ab_getf 2 1)),
  (21, ab_nx 22 (ab_aald 5)),
  (22, ab_nx 23 (ab_astore 2)),
  (23, ab_nx 24 (ab_aload 2)),
  (24, ab_nonnull 27 45),
  (27, ab_nx 30 (ab_new 6 10 [.null, .null, .null, .null, .null, .null, .null, .int 0, .int 0, .int 0] 8 138)),
  (30, ab_nx 31 ab_dup),
  (31, ab_nx 34 (ab_call 1 f_X6_init 7 128 8 138)),
  (34, ab_nx 35 (ab_astore 2)),
  (35, ab_nx 36 (ab_aload 0)),
  (36, ab_nx 39 (ab_getf 2 0)),
  (39, ab_nx 40 (ab_aload 0)),
  (40, ab_nx 43 (ab_getf 2 1)),
  (43, ab_nx 44 (ab_aload 2)),
  (44, ab_nx 45 (ab_aast 5 6)),
  (45, ab_nx 46 (ab_aload 2)),
  (46, ab_nx 47 (ab_aload 1)),
  (47, ab_nx 50 (ab_callV 2 6 f_X6_copyFrom 0 0 8 138)),
  (50, ab_nx 51 (ab_aload 0)),
  (51, ab_nx 52 ab_dup),
  (52, ab_nx 55 (ab_getf 2 1)),
  (55, ab_nx 56 (ab_lit (.int 1))),
  (56, ab_nx 57 (ab_bin (fun x y => x + y))),
  (57, ab_nx 60 (ab_putf 2 1 0)),
  (60, ab_vret 8 138)]
set_option maxRecDepth 100000 in
set_option maxHeartbeats 4000000 in
theorem M_X2_keep {l : Launch} {b : ab_B} {D : va_G} {cA : Nat → ClassId} {f_X2_dropOldest : List Value → ab_H → Option ab_O} (h_X2_dropOldest : ab_M l b D ab_cl cA (ab_E0 b) yX2_dropOldest (Cond.code yX2_dropOldest cX2_dropOldest 3 none :: ab_G) ({ frames := 1, cells := 0, slots := 0, locals := 100 } : Room) f_X2_dropOldest) {f_X6_init : List Value → ab_H → Option ab_O} (h_X6_init : ab_M l b D ab_cl cA (ab_E0 b) yX6_init (Cond.code yX6_init cX6_init 1 none :: ab_G) ({ frames := 2, cells := 7, slots := 128, locals := 200 } : Room) f_X6_init) (i_X6_init : ∀ v hp o2, f_X6_init [v] hp = some o2 → ∃ a, v = .ref a) {f_X6_copyFrom : List Value → ab_H → Option ab_O} (h_X6_copyFrom : ab_M l b D ab_cl cA (ab_E0 b) yX6_copyFrom (Cond.code yX6_copyFrom cX6_copyFrom 2 none :: ab_G) ({ frames := 2, cells := 0, slots := 0, locals := 200 } : Room) f_X6_copyFrom) : ab_M l b D ab_cl cA (ab_E0 b) yX2_keep (Cond.code yX2_keep cX2_keep 3 none :: ab_G) ({ frames := 3, cells := 8, slots := 138, locals := 300 } : Room) (ab_X (ab_T (L_X2_keep f_X2_dropOldest f_X6_init f_X6_copyFrom)) 3) := by
  refine ab_meth (ret := none) (L_X2_keep f_X2_dropOldest f_X6_init f_X6_copyFrom) (by decide) rfl fun p e R s m args below meth c o C => ?_
  unfold L_X2_keep
  refine List.forall_mem_cons.mpr ⟨ok_aload_n C (show decode cX2_keep 0 = .ok (.aload_n 0, 1) by decide +kernel) rfl rfl, ?_⟩
  refine List.forall_mem_cons.mpr ⟨ok_getf C (wi_X2) rfl (by decide) kw_130 (show decode cX2_keep 1 = .ok (.getfield 17, 3) by decide +kernel) rfl, ?_⟩
  refine List.forall_mem_cons.mpr ⟨ok_bipush C (show decode cX2_keep 4 = .ok (.bipush 8, 2) by decide +kernel) (by decide) rfl, ?_⟩
  refine List.forall_mem_cons.mpr ⟨ok_icmplt C (show decode cX2_keep 6 = .ok (.if_icmp .lt 7, 3) by decide +kernel) (tg := 13) (by decide) rfl rfl, ?_⟩
  refine List.forall_mem_cons.mpr ⟨ok_aload_n C (show decode cX2_keep 9 = .ok (.aload_n 0, 1) by decide +kernel) rfl rfl, ?_⟩
  refine List.forall_mem_cons.mpr ⟨ok_callV C h_X2_dropOldest ⟨rfl, rfl⟩ rfl kw_719 kw_716 kw_718 kp_21 kw_5 rfl ds_X2_dropOldest ⟨by decide, by decide⟩ (show decode cX2_keep 10 = .ok (.invokevirtual 21, 3) by decide +kernel) rfl, ?_⟩
  refine List.forall_mem_cons.mpr ⟨ok_aload_n C (show decode cX2_keep 13 = .ok (.aload_n 0, 1) by decide +kernel) rfl rfl, ?_⟩
  refine List.forall_mem_cons.mpr ⟨ok_getf C (wi_X2) rfl (by decide) kw_129 (show decode cX2_keep 14 = .ok (.getfield 11, 3) by decide +kernel) rfl, ?_⟩
  refine List.forall_mem_cons.mpr ⟨ok_aload_n C (show decode cX2_keep 17 = .ok (.aload_n 0, 1) by decide +kernel) rfl rfl, ?_⟩
  refine List.forall_mem_cons.mpr ⟨ok_getf C (wi_X2) rfl (by decide) kw_130 (show decode cX2_keep 18 = .ok (.getfield 17, 3) by decide +kernel) rfl, ?_⟩
  refine List.forall_mem_cons.mpr ⟨ok_aaload C (t0 := 5) rfl (show decode cX2_keep 21 = .ok (.aaload, 1) by decide +kernel) rfl, ?_⟩
  refine List.forall_mem_cons.mpr ⟨ok_astore_n C (show decode cX2_keep 22 = .ok (.astore_n 2, 1) by decide +kernel) rfl (by decide) rfl, ?_⟩
  refine List.forall_mem_cons.mpr ⟨ok_aload_n C (show decode cX2_keep 23 = .ok (.aload_n 2, 1) by decide +kernel) rfl rfl, ?_⟩
  refine List.forall_mem_cons.mpr ⟨ok_nonnull C (show decode cX2_keep 24 = .ok (.ifnonnull 21, 3) by decide +kernel) (tg := 45) (by decide) rfl rfl, ?_⟩
  refine List.forall_mem_cons.mpr ⟨ok_new C (wi_X6) tyX6 tyX6_ok rfl kw_127 kw_137 kw_6 (df_X6 _) (show decode cX2_keep 27 = .ok (.new 9, 3) by decide +kernel) rfl, ?_⟩
  refine List.forall_mem_cons.mpr ⟨ok_dup C (show decode cX2_keep 30 = .ok (.dup, 1) by decide +kernel) rfl, ?_⟩
  refine List.forall_mem_cons.mpr ⟨ok_callIN C h_X6_init ⟨rfl, rfl⟩ i_X6_init kw_140 (host := "LackFerry") (by decide +kernel) kw_139 kw_6 rfl ds_X6_init ⟨by decide, by decide⟩ (show decode cX2_keep 31 = .ok (.invokespecial 24, 3) by decide +kernel) rfl, ?_⟩
  refine List.forall_mem_cons.mpr ⟨ok_astore_n C (show decode cX2_keep 34 = .ok (.astore_n 2, 1) by decide +kernel) rfl (by decide) rfl, ?_⟩
  refine List.forall_mem_cons.mpr ⟨ok_aload_n C (show decode cX2_keep 35 = .ok (.aload_n 0, 1) by decide +kernel) rfl rfl, ?_⟩
  refine List.forall_mem_cons.mpr ⟨ok_getf C (wi_X2) rfl (by decide) kw_129 (show decode cX2_keep 36 = .ok (.getfield 11, 3) by decide +kernel) rfl, ?_⟩
  refine List.forall_mem_cons.mpr ⟨ok_aload_n C (show decode cX2_keep 39 = .ok (.aload_n 0, 1) by decide +kernel) rfl rfl, ?_⟩
  refine List.forall_mem_cons.mpr ⟨ok_getf C (wi_X2) rfl (by decide) kw_130 (show decode cX2_keep 40 = .ok (.getfield 17, 3) by decide +kernel) rfl, ?_⟩
  refine List.forall_mem_cons.mpr ⟨ok_aload_n C (show decode cX2_keep 43 = .ok (.aload_n 2, 1) by decide +kernel) rfl rfl, ?_⟩
  refine List.forall_mem_cons.mpr ⟨ok_aastore C (t0 := 5) (ci := 6) rfl rfl (show decode cX2_keep 44 = .ok (.aastore, 1) by decide +kernel) rfl, ?_⟩
  refine List.forall_mem_cons.mpr ⟨ok_aload_n C (show decode cX2_keep 45 = .ok (.aload_n 2, 1) by decide +kernel) rfl rfl, ?_⟩
  refine List.forall_mem_cons.mpr ⟨ok_aload_n C (show decode cX2_keep 46 = .ok (.aload_n 1, 1) by decide +kernel) rfl rfl, ?_⟩
  refine List.forall_mem_cons.mpr ⟨ok_callV C h_X6_copyFrom ⟨rfl, rfl⟩ rfl kw_724 kw_721 kw_722 kw_723 kw_6 rfl ds_X6_copyFrom ⟨by decide, by decide⟩ (show decode cX2_keep 47 = .ok (.invokevirtual 25, 3) by decide +kernel) rfl, ?_⟩
  refine List.forall_mem_cons.mpr ⟨ok_aload_n C (show decode cX2_keep 50 = .ok (.aload_n 0, 1) by decide +kernel) rfl rfl, ?_⟩
  refine List.forall_mem_cons.mpr ⟨ok_dup C (show decode cX2_keep 51 = .ok (.dup, 1) by decide +kernel) rfl, ?_⟩
  refine List.forall_mem_cons.mpr ⟨ok_getf C (wi_X2) rfl (by decide) kw_130 (show decode cX2_keep 52 = .ok (.getfield 17, 3) by decide +kernel) rfl, ?_⟩
  refine List.forall_mem_cons.mpr ⟨ok_iconst C (show decode cX2_keep 55 = .ok (.iconst 1, 1) by decide +kernel) (by decide) rfl, ?_⟩
  refine List.forall_mem_cons.mpr ⟨ok_iadd C (show decode cX2_keep 56 = .ok (.iadd, 1) by decide +kernel) rfl, ?_⟩
  refine List.forall_mem_cons.mpr ⟨ok_putf C (wi_X2) tyX2 tyX2_ok nmX2 rfl (by decide) kw_130 (Or.inl rfl) (Or.inl ⟨rfl, rfl⟩) (show decode cX2_keep 57 = .ok (.putfield 17, 3) by decide +kernel) rfl, ?_⟩
  refine List.forall_mem_cons.mpr ⟨ok_vret C rfl (show decode cX2_keep 60 = .ok (.return_, 1) by decide +kernel), ?_⟩
  exact fun _ h => absurd h List.not_mem_nil
def L_X2_takeBack (f_X6_copyFrom : List Value → ab_H → Option ab_O) : List (Nat × ab_A) := [
  (0, ab_nx 1 (ab_aload 0)),
  (1, ab_nx 4 (ab_getf 2 1)),
  (4, ab_if 7 16 (fun x => decide (x ≤ 0))),
  (7, ab_nx 8 (ab_aload 0)),
  (8, ab_nx 11 (ab_getf 2 1)),
  (11, ab_nx 13 (ab_lit (.int 8))),
  (13, ab_icmp 16 18 (fun x y => decide (x ≤ y))),
  (16, ab_nx 17 (ab_lit (.int (-1)))),
  (17, ab_ret 0 0),
  (18, ab_nx 19 (ab_aload 0)),
  (19, ab_nx 22 (ab_getf 2 0)),
  (22, ab_nx 23 (ab_aload 0)),
  (23, ab_nx 26 (ab_getf 2 1)),
  (26, ab_nx 27 (ab_lit (.int 1))),
  (27, ab_nx 28 (ab_bin (fun x y => x - y))),
  (28, ab_nx 29 (ab_aald 5)),
  (29, ab_nx 30 (ab_astore 2)),
  (30, ab_nx 31 (ab_aload 2)),
  (31, ab_nonnull 34 36),
  (34, ab_nx 35 (ab_lit (.int (-1)))),
  (35, ab_ret 0 0),
  (36, ab_nx 37 (ab_aload 1)),
  (37, ab_nx 38 (ab_aload 2)),
  (38, ab_nx 41 (ab_callV 2 6 f_X6_copyFrom 0 0 0 0)),
  (41, ab_nx 42 (ab_aload 0)),
  (42, ab_nx 43 ab_dup),
  (43, ab_nx 46 (ab_getf 2 1)),
  (46, ab_nx 47 (ab_lit (.int 1))),
  (47, ab_nx 48 (ab_bin (fun x y => x - y))),
  (48, ab_nx 51 (ab_putf 2 1 0)),
  (51, ab_nx 52 (ab_aload 0)),
  (52, ab_nx 55 (ab_getf 2 1)),
  (55, ab_ret 0 0)]
set_option maxRecDepth 100000 in
set_option maxHeartbeats 4000000 in
theorem M_X2_takeBack {l : Launch} {b : ab_B} {D : va_G} {cA : Nat → ClassId} {f_X6_copyFrom : List Value → ab_H → Option ab_O} (h_X6_copyFrom : ab_M l b D ab_cl cA (ab_E0 b) yX6_copyFrom (Cond.code yX6_copyFrom cX6_copyFrom 2 none :: ab_G) ({ frames := 2, cells := 0, slots := 0, locals := 200 } : Room) f_X6_copyFrom) : ab_M l b D ab_cl cA (ab_E0 b) yX2_takeBack (Cond.code yX2_takeBack cX2_takeBack 3 (some .int) :: ab_G) ({ frames := 3, cells := 0, slots := 0, locals := 300 } : Room) (ab_X (ab_T (L_X2_takeBack f_X6_copyFrom)) 3) := by
  refine ab_meth (ret := (some .int)) (L_X2_takeBack f_X6_copyFrom) (by decide) rfl fun p e R s m args below meth c o C => ?_
  unfold L_X2_takeBack
  refine List.forall_mem_cons.mpr ⟨ok_aload_n C (show decode cX2_takeBack 0 = .ok (.aload_n 0, 1) by decide +kernel) rfl rfl, ?_⟩
  refine List.forall_mem_cons.mpr ⟨ok_getf C (wi_X2) rfl (by decide) kw_130 (show decode cX2_takeBack 1 = .ok (.getfield 17, 3) by decide +kernel) rfl, ?_⟩
  refine List.forall_mem_cons.mpr ⟨ok_ifle C (show decode cX2_takeBack 4 = .ok (.ifCond .le 12, 3) by decide +kernel) (tg := 16) (by decide) rfl rfl, ?_⟩
  refine List.forall_mem_cons.mpr ⟨ok_aload_n C (show decode cX2_takeBack 7 = .ok (.aload_n 0, 1) by decide +kernel) rfl rfl, ?_⟩
  refine List.forall_mem_cons.mpr ⟨ok_getf C (wi_X2) rfl (by decide) kw_130 (show decode cX2_takeBack 8 = .ok (.getfield 17, 3) by decide +kernel) rfl, ?_⟩
  refine List.forall_mem_cons.mpr ⟨ok_bipush C (show decode cX2_takeBack 11 = .ok (.bipush 8, 2) by decide +kernel) (by decide) rfl, ?_⟩
  refine List.forall_mem_cons.mpr ⟨ok_icmple C (show decode cX2_takeBack 13 = .ok (.if_icmp .le 5, 3) by decide +kernel) (tg := 18) (by decide) rfl rfl, ?_⟩
  refine List.forall_mem_cons.mpr ⟨ok_iconst C (show decode cX2_takeBack 16 = .ok (.iconst (-1), 1) by decide +kernel) (by decide) rfl, ?_⟩
  refine List.forall_mem_cons.mpr ⟨ok_ret C rfl (show decode cX2_takeBack 17 = .ok (.ireturn, 1) by decide +kernel), ?_⟩
  refine List.forall_mem_cons.mpr ⟨ok_aload_n C (show decode cX2_takeBack 18 = .ok (.aload_n 0, 1) by decide +kernel) rfl rfl, ?_⟩
  refine List.forall_mem_cons.mpr ⟨ok_getf C (wi_X2) rfl (by decide) kw_129 (show decode cX2_takeBack 19 = .ok (.getfield 11, 3) by decide +kernel) rfl, ?_⟩
  refine List.forall_mem_cons.mpr ⟨ok_aload_n C (show decode cX2_takeBack 22 = .ok (.aload_n 0, 1) by decide +kernel) rfl rfl, ?_⟩
  refine List.forall_mem_cons.mpr ⟨ok_getf C (wi_X2) rfl (by decide) kw_130 (show decode cX2_takeBack 23 = .ok (.getfield 17, 3) by decide +kernel) rfl, ?_⟩
  refine List.forall_mem_cons.mpr ⟨ok_iconst C (show decode cX2_takeBack 26 = .ok (.iconst 1, 1) by decide +kernel) (by decide) rfl, ?_⟩
  refine List.forall_mem_cons.mpr ⟨ok_isub C (show decode cX2_takeBack 27 = .ok (.isub, 1) by decide +kernel) rfl, ?_⟩
  refine List.forall_mem_cons.mpr ⟨ok_aaload C (t0 := 5) rfl (show decode cX2_takeBack 28 = .ok (.aaload, 1) by decide +kernel) rfl, ?_⟩
  refine List.forall_mem_cons.mpr ⟨ok_astore_n C (show decode cX2_takeBack 29 = .ok (.astore_n 2, 1) by decide +kernel) rfl (by decide) rfl, ?_⟩
  refine List.forall_mem_cons.mpr ⟨ok_aload_n C (show decode cX2_takeBack 30 = .ok (.aload_n 2, 1) by decide +kernel) rfl rfl, ?_⟩
  refine List.forall_mem_cons.mpr ⟨ok_nonnull C (show decode cX2_takeBack 31 = .ok (.ifnonnull 5, 3) by decide +kernel) (tg := 36) (by decide) rfl rfl, ?_⟩
  refine List.forall_mem_cons.mpr ⟨ok_iconst C (show decode cX2_takeBack 34 = .ok (.iconst (-1), 1) by decide +kernel) (by decide) rfl, ?_⟩
  refine List.forall_mem_cons.mpr ⟨ok_ret C rfl (show decode cX2_takeBack 35 = .ok (.ireturn, 1) by decide +kernel), ?_⟩
  refine List.forall_mem_cons.mpr ⟨ok_aload_n C (show decode cX2_takeBack 36 = .ok (.aload_n 1, 1) by decide +kernel) rfl rfl, ?_⟩
  refine List.forall_mem_cons.mpr ⟨ok_aload_n C (show decode cX2_takeBack 37 = .ok (.aload_n 2, 1) by decide +kernel) rfl rfl, ?_⟩
  refine List.forall_mem_cons.mpr ⟨ok_callV C h_X6_copyFrom ⟨rfl, rfl⟩ rfl kw_724 kw_721 kw_722 kw_723 kw_6 rfl ds_X6_copyFrom ⟨by decide, by decide⟩ (show decode cX2_takeBack 38 = .ok (.invokevirtual 25, 3) by decide +kernel) rfl, ?_⟩
  refine List.forall_mem_cons.mpr ⟨ok_aload_n C (show decode cX2_takeBack 41 = .ok (.aload_n 0, 1) by decide +kernel) rfl rfl, ?_⟩
  refine List.forall_mem_cons.mpr ⟨ok_dup C (show decode cX2_takeBack 42 = .ok (.dup, 1) by decide +kernel) rfl, ?_⟩
  refine List.forall_mem_cons.mpr ⟨ok_getf C (wi_X2) rfl (by decide) kw_130 (show decode cX2_takeBack 43 = .ok (.getfield 17, 3) by decide +kernel) rfl, ?_⟩
  refine List.forall_mem_cons.mpr ⟨ok_iconst C (show decode cX2_takeBack 46 = .ok (.iconst 1, 1) by decide +kernel) (by decide) rfl, ?_⟩
  refine List.forall_mem_cons.mpr ⟨ok_isub C (show decode cX2_takeBack 47 = .ok (.isub, 1) by decide +kernel) rfl, ?_⟩
  refine List.forall_mem_cons.mpr ⟨ok_putf C (wi_X2) tyX2 tyX2_ok nmX2 rfl (by decide) kw_130 (Or.inl rfl) (Or.inl ⟨rfl, rfl⟩) (show decode cX2_takeBack 48 = .ok (.putfield 17, 3) by decide +kernel) rfl, ?_⟩
  refine List.forall_mem_cons.mpr ⟨ok_aload_n C (show decode cX2_takeBack 51 = .ok (.aload_n 0, 1) by decide +kernel) rfl rfl, ?_⟩
  refine List.forall_mem_cons.mpr ⟨ok_getf C (wi_X2) rfl (by decide) kw_130 (show decode cX2_takeBack 52 = .ok (.getfield 17, 3) by decide +kernel) rfl, ?_⟩
  refine List.forall_mem_cons.mpr ⟨ok_ret C rfl (show decode cX2_takeBack 55 = .ok (.ireturn, 1) by decide +kernel), ?_⟩
  exact fun _ h => absurd h List.not_mem_nil
def L_X7_init : List (Nat × ab_A) := [
  (0, ab_nx 1 (ab_aload 0)),
  (1, ab_nx 4 ab_obj),
  (4, ab_nx 5 (ab_aload 0)),
  (5, ab_nx 7 (ab_lit (.int 6))),
  (7, ab_nx 9 (ab_newa 2 (fun n => (n, .inr (.inl (fun _ => 0)))) 7 130)),
  (9, ab_nx 12 (ab_putf 7 0 2)),
  (12, ab_nx 13 (ab_aload 0)),
  (13, ab_nx 15 (ab_lit (.int 8))),
  (15, ab_nx 17 (ab_newa 2 (fun n => (n, .inr (.inl (fun _ => 0)))) 7 130)),
  (17, ab_nx 20 (ab_putf 7 1 2)),
  (20, ab_nx 21 (ab_aload 0)),
  (21, ab_nx 23 (ab_lit (.int 8))),
  (23, ab_nx 25 (ab_newa 1 (fun n => (n, .inl (fun _ => 0))) 7 130)),
  (25, ab_nx 28 (ab_putf 7 2 2)),
  (28, ab_nx 29 (ab_aload 0)),
  (29, ab_nx 31 (ab_lit (.int 48))),
  (31, ab_nx 33 (ab_newa 1 (fun n => (n, .inl (fun _ => 0))) 7 130)),
  (33, ab_nx 36 (ab_putf 7 3 2)),
  (36, ab_nx 37 (ab_aload 0)),
  (37, ab_nx 39 (ab_lit (.int 20))),
  (39, ab_nx 41 (ab_newa 1 (fun n => (n, .inl (fun _ => 0))) 7 130)),
  (41, ab_nx 44 (ab_putf 7 4 2)),
  (44, ab_nx 45 (ab_aload 0)),
  (45, ab_nx 47 (ab_lit (.int 20))),
  (47, ab_nx 49 (ab_newa 1 (fun n => (n, .inl (fun _ => 0))) 7 130)),
  (49, ab_nx 52 (ab_putf 7 5 2)),
  (52, ab_nx 53 (ab_aload 0)),
  (53, ab_nx 55 (ab_lit (.int 20))),
  (55, ab_nx 57 (ab_newa 1 (fun n => (n, .inl (fun _ => 0))) 7 130)),
  (57, ab_nx 60 (ab_putf 7 6 2)),
  (60, ab_nx 61 (ab_aload 0)),
  (61, ab_nx 63 (ab_lit (.int 10))),
  (63, ab_nx 66 (ab_putf 7 7 0)),
  (66, ab_vret 7 130)]
set_option maxRecDepth 100000 in
set_option maxHeartbeats 4000000 in
theorem M_X7_init {l : Launch} {b : ab_B} {D : va_G} {cA : Nat → ClassId} : ab_M l b D ab_cl cA (ab_E0 b) yX7_init (Cond.code yX7_init cX7_init 1 none :: ab_G) ({ frames := 2, cells := 7, slots := 130, locals := 200 } : Room) (ab_X (ab_T L_X7_init) 1) := by
  refine ab_meth (ret := none) L_X7_init (by decide) rfl fun p e R s m args below meth c o C => ?_
  unfold L_X7_init
  refine List.forall_mem_cons.mpr ⟨ok_aload_n C (show decode cX7_init 0 = .ok (.aload_n 0, 1) by decide +kernel) rfl rfl, ?_⟩
  refine List.forall_mem_cons.mpr ⟨ok_obj C kw_233 kw_30 kw_31 ⟨by decide, by decide⟩ (show decode cX7_init 1 = .ok (.invokespecial 3, 3) by decide +kernel) rfl, ?_⟩
  refine List.forall_mem_cons.mpr ⟨ok_aload_n C (show decode cX7_init 4 = .ok (.aload_n 0, 1) by decide +kernel) rfl rfl, ?_⟩
  refine List.forall_mem_cons.mpr ⟨ok_bipush C (show decode cX7_init 5 = .ok (.bipush 6, 2) by decide +kernel) (by decide) rfl, ?_⟩
  refine List.forall_mem_cons.mpr ⟨ok_newa_long C kw_98 (show decode cX7_init 7 = .ok (.newarray .long, 2) by decide +kernel) rfl, ?_⟩
  refine List.forall_mem_cons.mpr ⟨ok_putf C (wi_X7) tyX7 tyX7_ok nmX7 rfl (by decide) kw_234 (Or.inr ⟨rfl, cx_name C, rfl⟩) (Or.inr (Or.inr (Or.inl ⟨rfl, Or.inr ⟨_, rfl⟩⟩))) (show decode cX7_init 9 = .ok (.putfield 9, 3) by decide +kernel) rfl, ?_⟩
  refine List.forall_mem_cons.mpr ⟨ok_aload_n C (show decode cX7_init 12 = .ok (.aload_n 0, 1) by decide +kernel) rfl rfl, ?_⟩
  refine List.forall_mem_cons.mpr ⟨ok_bipush C (show decode cX7_init 13 = .ok (.bipush 8, 2) by decide +kernel) (by decide) rfl, ?_⟩
  refine List.forall_mem_cons.mpr ⟨ok_newa_long C kw_98 (show decode cX7_init 15 = .ok (.newarray .long, 2) by decide +kernel) rfl, ?_⟩
  refine List.forall_mem_cons.mpr ⟨ok_putf C (wi_X7) tyX7 tyX7_ok nmX7 rfl (by decide) kw_235 (Or.inr ⟨rfl, cx_name C, rfl⟩) (Or.inr (Or.inr (Or.inl ⟨rfl, Or.inr ⟨_, rfl⟩⟩))) (show decode cX7_init 17 = .ok (.putfield 15, 3) by decide +kernel) rfl, ?_⟩
  refine List.forall_mem_cons.mpr ⟨ok_aload_n C (show decode cX7_init 20 = .ok (.aload_n 0, 1) by decide +kernel) rfl rfl, ?_⟩
  refine List.forall_mem_cons.mpr ⟨ok_bipush C (show decode cX7_init 21 = .ok (.bipush 8, 2) by decide +kernel) (by decide) rfl, ?_⟩
  refine List.forall_mem_cons.mpr ⟨ok_newa_int C kw_97 (show decode cX7_init 23 = .ok (.newarray .int, 2) by decide +kernel) rfl, ?_⟩
  refine List.forall_mem_cons.mpr ⟨ok_putf C (wi_X7) tyX7 tyX7_ok nmX7 rfl (by decide) kw_236 (Or.inr ⟨rfl, cx_name C, rfl⟩) (Or.inr (Or.inr (Or.inl ⟨rfl, Or.inr ⟨_, rfl⟩⟩))) (show decode cX7_init 25 = .ok (.putfield 18, 3) by decide +kernel) rfl, ?_⟩
  refine List.forall_mem_cons.mpr ⟨ok_aload_n C (show decode cX7_init 28 = .ok (.aload_n 0, 1) by decide +kernel) rfl rfl, ?_⟩
  refine List.forall_mem_cons.mpr ⟨ok_bipush C (show decode cX7_init 29 = .ok (.bipush 48, 2) by decide +kernel) (by decide) rfl, ?_⟩
  refine List.forall_mem_cons.mpr ⟨ok_newa_int C kw_97 (show decode cX7_init 31 = .ok (.newarray .int, 2) by decide +kernel) rfl, ?_⟩
  refine List.forall_mem_cons.mpr ⟨ok_putf C (wi_X7) tyX7 tyX7_ok nmX7 rfl (by decide) kw_238 (Or.inr ⟨rfl, cx_name C, rfl⟩) (Or.inr (Or.inr (Or.inl ⟨rfl, Or.inr ⟨_, rfl⟩⟩))) (show decode cX7_init 33 = .ok (.putfield 22, 3) by decide +kernel) rfl, ?_⟩
  refine List.forall_mem_cons.mpr ⟨ok_aload_n C (show decode cX7_init 36 = .ok (.aload_n 0, 1) by decide +kernel) rfl rfl, ?_⟩
  refine List.forall_mem_cons.mpr ⟨ok_bipush C (show decode cX7_init 37 = .ok (.bipush 20, 2) by decide +kernel) (by decide) rfl, ?_⟩
  refine List.forall_mem_cons.mpr ⟨ok_newa_int C kw_97 (show decode cX7_init 39 = .ok (.newarray .int, 2) by decide +kernel) rfl, ?_⟩
  refine List.forall_mem_cons.mpr ⟨ok_putf C (wi_X7) tyX7 tyX7_ok nmX7 rfl (by decide) kw_239 (Or.inr ⟨rfl, cx_name C, rfl⟩) (Or.inr (Or.inr (Or.inl ⟨rfl, Or.inr ⟨_, rfl⟩⟩))) (show decode cX7_init 41 = .ok (.putfield 25, 3) by decide +kernel) rfl, ?_⟩
  refine List.forall_mem_cons.mpr ⟨ok_aload_n C (show decode cX7_init 44 = .ok (.aload_n 0, 1) by decide +kernel) rfl rfl, ?_⟩
  refine List.forall_mem_cons.mpr ⟨ok_bipush C (show decode cX7_init 45 = .ok (.bipush 20, 2) by decide +kernel) (by decide) rfl, ?_⟩
  refine List.forall_mem_cons.mpr ⟨ok_newa_int C kw_97 (show decode cX7_init 47 = .ok (.newarray .int, 2) by decide +kernel) rfl, ?_⟩
  refine List.forall_mem_cons.mpr ⟨ok_putf C (wi_X7) tyX7 tyX7_ok nmX7 rfl (by decide) kw_241 (Or.inr ⟨rfl, cx_name C, rfl⟩) (Or.inr (Or.inr (Or.inl ⟨rfl, Or.inr ⟨_, rfl⟩⟩))) (show decode cX7_init 49 = .ok (.putfield 28, 3) by decide +kernel) rfl, ?_⟩
  refine List.forall_mem_cons.mpr ⟨ok_aload_n C (show decode cX7_init 52 = .ok (.aload_n 0, 1) by decide +kernel) rfl rfl, ?_⟩
  refine List.forall_mem_cons.mpr ⟨ok_bipush C (show decode cX7_init 53 = .ok (.bipush 20, 2) by decide +kernel) (by decide) rfl, ?_⟩
  refine List.forall_mem_cons.mpr ⟨ok_newa_int C kw_97 (show decode cX7_init 55 = .ok (.newarray .int, 2) by decide +kernel) rfl, ?_⟩
  refine List.forall_mem_cons.mpr ⟨ok_putf C (wi_X7) tyX7 tyX7_ok nmX7 rfl (by decide) kw_243 (Or.inr ⟨rfl, cx_name C, rfl⟩) (Or.inr (Or.inr (Or.inl ⟨rfl, Or.inr ⟨_, rfl⟩⟩))) (show decode cX7_init 57 = .ok (.putfield 31, 3) by decide +kernel) rfl, ?_⟩
  refine List.forall_mem_cons.mpr ⟨ok_aload_n C (show decode cX7_init 60 = .ok (.aload_n 0, 1) by decide +kernel) rfl rfl, ?_⟩
  refine List.forall_mem_cons.mpr ⟨ok_bipush C (show decode cX7_init 61 = .ok (.bipush 10, 2) by decide +kernel) (by decide) rfl, ?_⟩
  refine List.forall_mem_cons.mpr ⟨ok_putf C (wi_X7) tyX7 tyX7_ok nmX7 rfl (by decide) kw_245 (Or.inl rfl) (Or.inl ⟨rfl, rfl⟩) (show decode cX7_init 63 = .ok (.putfield 34, 3) by decide +kernel) rfl, ?_⟩
  refine List.forall_mem_cons.mpr ⟨ok_vret C rfl (show decode cX7_init 66 = .ok (.return_, 1) by decide +kernel), ?_⟩
  exact fun _ h => absurd h List.not_mem_nil
def L_X5_init : List (Nat × ab_A) := [
  (0, ab_nx 1 (ab_aload 0)),
  (1, ab_nx 4 ab_obj),
  (4, ab_nx 5 (ab_aload 0)),
  (5, ab_nx 7 (ab_lit (.int 40))),
  (7, ab_nx 9 (ab_newa 1 (fun n => (n, .inl (fun _ => 0))) 3 120)),
  (9, ab_nx 12 (ab_putf 5 0 2)),
  (12, ab_nx 13 (ab_aload 0)),
  (13, ab_nx 15 (ab_lit (.int 40))),
  (15, ab_nx 17 (ab_newa 1 (fun n => (n, .inl (fun _ => 0))) 3 120)),
  (17, ab_nx 20 (ab_putf 5 1 2)),
  (20, ab_nx 21 (ab_aload 0)),
  (21, ab_nx 23 (ab_lit (.int 40))),
  (23, ab_nx 25 (ab_newa 1 (fun n => (n, .inl (fun _ => 0))) 3 120)),
  (25, ab_nx 28 (ab_putf 5 2 2)),
  (28, ab_vret 3 120)]
set_option maxRecDepth 100000 in
set_option maxHeartbeats 4000000 in
theorem M_X5_init {l : Launch} {b : ab_B} {D : va_G} {cA : Nat → ClassId} : ab_M l b D ab_cl cA (ab_E0 b) yX5_init (Cond.code yX5_init cX5_init 1 none :: ab_G) ({ frames := 2, cells := 3, slots := 120, locals := 200 } : Room) (ab_X (ab_T L_X5_init) 1) := by
  refine ab_meth (ret := none) L_X5_init (by decide) rfl fun p e R s m args below meth c o C => ?_
  unfold L_X5_init
  refine List.forall_mem_cons.mpr ⟨ok_aload_n C (show decode cX5_init 0 = .ok (.aload_n 0, 1) by decide +kernel) rfl rfl, ?_⟩
  refine List.forall_mem_cons.mpr ⟨ok_obj C kw_293 kw_30 kw_31 ⟨by decide, by decide⟩ (show decode cX5_init 1 = .ok (.invokespecial 3, 3) by decide +kernel) rfl, ?_⟩
  refine List.forall_mem_cons.mpr ⟨ok_aload_n C (show decode cX5_init 4 = .ok (.aload_n 0, 1) by decide +kernel) rfl rfl, ?_⟩
  refine List.forall_mem_cons.mpr ⟨ok_bipush C (show decode cX5_init 5 = .ok (.bipush 40, 2) by decide +kernel) (by decide) rfl, ?_⟩
  refine List.forall_mem_cons.mpr ⟨ok_newa_int C kw_97 (show decode cX5_init 7 = .ok (.newarray .int, 2) by decide +kernel) rfl, ?_⟩
  refine List.forall_mem_cons.mpr ⟨ok_putf C (wi_X5) tyX5 tyX5_ok nmX5 rfl (by decide) kw_294 (Or.inr ⟨rfl, cx_name C, rfl⟩) (Or.inr (Or.inr (Or.inl ⟨rfl, Or.inr ⟨_, rfl⟩⟩))) (show decode cX5_init 9 = .ok (.putfield 11, 3) by decide +kernel) rfl, ?_⟩
  refine List.forall_mem_cons.mpr ⟨ok_aload_n C (show decode cX5_init 12 = .ok (.aload_n 0, 1) by decide +kernel) rfl rfl, ?_⟩
  refine List.forall_mem_cons.mpr ⟨ok_bipush C (show decode cX5_init 13 = .ok (.bipush 40, 2) by decide +kernel) (by decide) rfl, ?_⟩
  refine List.forall_mem_cons.mpr ⟨ok_newa_int C kw_97 (show decode cX5_init 15 = .ok (.newarray .int, 2) by decide +kernel) rfl, ?_⟩
  refine List.forall_mem_cons.mpr ⟨ok_putf C (wi_X5) tyX5 tyX5_ok nmX5 rfl (by decide) kw_295 (Or.inr ⟨rfl, cx_name C, rfl⟩) (Or.inr (Or.inr (Or.inl ⟨rfl, Or.inr ⟨_, rfl⟩⟩))) (show decode cX5_init 17 = .ok (.putfield 15, 3) by decide +kernel) rfl, ?_⟩
  refine List.forall_mem_cons.mpr ⟨ok_aload_n C (show decode cX5_init 20 = .ok (.aload_n 0, 1) by decide +kernel) rfl rfl, ?_⟩
  refine List.forall_mem_cons.mpr ⟨ok_bipush C (show decode cX5_init 21 = .ok (.bipush 40, 2) by decide +kernel) (by decide) rfl, ?_⟩
  refine List.forall_mem_cons.mpr ⟨ok_newa_int C kw_97 (show decode cX5_init 23 = .ok (.newarray .int, 2) by decide +kernel) rfl, ?_⟩
  refine List.forall_mem_cons.mpr ⟨ok_putf C (wi_X5) tyX5 tyX5_ok nmX5 rfl (by decide) kw_296 (Or.inr ⟨rfl, cx_name C, rfl⟩) (Or.inr (Or.inr (Or.inl ⟨rfl, Or.inr ⟨_, rfl⟩⟩))) (show decode cX5_init 25 = .ok (.putfield 18, 3) by decide +kernel) rfl, ?_⟩
  refine List.forall_mem_cons.mpr ⟨ok_vret C rfl (show decode cX5_init 28 = .ok (.return_, 1) by decide +kernel), ?_⟩
  exact fun _ h => absurd h List.not_mem_nil
def L_X3_init (f_X7_init : List Value → ab_H → Option ab_O) (f_X6_init : List Value → ab_H → Option ab_O) (f_X5_init : List Value → ab_H → Option ab_O) : List (Nat × ab_A) := [
  (0, ab_nx 1 (ab_aload 0)),
  (1, ab_nx 4 ab_obj),
  (4, ab_nx 5 (ab_aload 0)),
  (5, ab_nx 8 (ab_new 7 13 [.null, .null, .null, .null, .null, .null, .null, .int 0, .int 0, .int 0, .int 0, .int 0, .long 0] 20 407)),
  (8, ab_nx 9 ab_dup),
  (9, ab_nx 12 (ab_call 1 f_X7_init 7 130 20 407)),
  (12, ab_nx 15 (ab_putf 3 0 2)),
  (15, ab_nx 16 (ab_aload 0)),
  (16, ab_nx 19 (ab_new 6 10 [.null, .null, .null, .null, .null, .null, .null, .int 0, .int 0, .int 0] 20 407)),
  (19, ab_nx 20 ab_dup),
  (20, ab_nx 23 (ab_call 1 f_X6_init 7 128 20 407)),
  (23, ab_nx 26 (ab_putf 3 1 2)),
  (26, ab_nx 27 (ab_aload 0)),
  (27, ab_nx 30 (ab_new 5 6 [.null, .null, .null, .int 0, .int 0, .int 0] 20 407)),
  (30, ab_nx 31 ab_dup),
  (31, ab_nx 34 (ab_call 1 f_X5_init 3 120 20 407)),
  (34, ab_nx 37 (ab_putf 3 2 2)),
  (37, ab_vret 20 407)]
set_option maxRecDepth 100000 in
set_option maxHeartbeats 4000000 in
theorem M_X3_init {l : Launch} {b : ab_B} {D : va_G} {cA : Nat → ClassId} {f_X7_init : List Value → ab_H → Option ab_O} (h_X7_init : ab_M l b D ab_cl cA (ab_E0 b) yX7_init (Cond.code yX7_init cX7_init 1 none :: ab_G) ({ frames := 2, cells := 7, slots := 130, locals := 200 } : Room) f_X7_init) (i_X7_init : ∀ v hp o2, f_X7_init [v] hp = some o2 → ∃ a, v = .ref a) {f_X6_init : List Value → ab_H → Option ab_O} (h_X6_init : ab_M l b D ab_cl cA (ab_E0 b) yX6_init (Cond.code yX6_init cX6_init 1 none :: ab_G) ({ frames := 2, cells := 7, slots := 128, locals := 200 } : Room) f_X6_init) (i_X6_init : ∀ v hp o2, f_X6_init [v] hp = some o2 → ∃ a, v = .ref a) {f_X5_init : List Value → ab_H → Option ab_O} (h_X5_init : ab_M l b D ab_cl cA (ab_E0 b) yX5_init (Cond.code yX5_init cX5_init 1 none :: ab_G) ({ frames := 2, cells := 3, slots := 120, locals := 200 } : Room) f_X5_init) (i_X5_init : ∀ v hp o2, f_X5_init [v] hp = some o2 → ∃ a, v = .ref a) : ab_M l b D ab_cl cA (ab_E0 b) yX3_init (Cond.code yX3_init cX3_init 1 none :: ab_G) ({ frames := 3, cells := 20, slots := 407, locals := 300 } : Room) (ab_X (ab_T (L_X3_init f_X7_init f_X6_init f_X5_init)) 1) := by
  refine ab_meth (ret := none) (L_X3_init f_X7_init f_X6_init f_X5_init) (by decide) rfl fun p e R s m args below meth c o C => ?_
  unfold L_X3_init
  refine List.forall_mem_cons.mpr ⟨ok_aload_n C (show decode cX3_init 0 = .ok (.aload_n 0, 1) by decide +kernel) rfl rfl, ?_⟩
  refine List.forall_mem_cons.mpr ⟨ok_obj C kw_1025 kw_30 kw_31 ⟨by decide, by decide⟩ (show decode cX3_init 1 = .ok (.invokespecial 1, 3) by decide +kernel) rfl, ?_⟩
  refine List.forall_mem_cons.mpr ⟨ok_aload_n C (show decode cX3_init 4 = .ok (.aload_n 0, 1) by decide +kernel) rfl rfl, ?_⟩
  refine List.forall_mem_cons.mpr ⟨ok_new C (wi_X7) tyX7 tyX7_ok rfl kw_1026 kw_229 kw_9 (df_X7 _) (show decode cX3_init 5 = .ok (.new 7, 3) by decide +kernel) rfl, ?_⟩
  refine List.forall_mem_cons.mpr ⟨ok_dup C (show decode cX3_init 8 = .ok (.dup, 1) by decide +kernel) rfl, ?_⟩
  refine List.forall_mem_cons.mpr ⟨ok_callIN C h_X7_init ⟨rfl, rfl⟩ i_X7_init kw_232 (host := "LackFerry") (by decide +kernel) kw_231 kw_9 rfl ds_X7_init ⟨by decide, by decide⟩ (show decode cX3_init 9 = .ok (.invokespecial 9, 3) by decide +kernel) rfl, ?_⟩
  refine List.forall_mem_cons.mpr ⟨ok_putf C (wi_X3) tyX3 tyX3_ok nmX3 rfl (by decide) kw_1032 (Or.inr ⟨rfl, cx_name C, rfl⟩) (Or.inr (Or.inr (Or.inl ⟨rfl, Or.inl ⟨_, rfl⟩⟩))) (show decode cX3_init 12 = .ok (.putfield 10, 3) by decide +kernel) rfl, ?_⟩
  refine List.forall_mem_cons.mpr ⟨ok_aload_n C (show decode cX3_init 15 = .ok (.aload_n 0, 1) by decide +kernel) rfl rfl, ?_⟩
  refine List.forall_mem_cons.mpr ⟨ok_new C (wi_X6) tyX6 tyX6_ok rfl kw_1028 kw_137 kw_6 (df_X6 _) (show decode cX3_init 16 = .ok (.new 16, 3) by decide +kernel) rfl, ?_⟩
  refine List.forall_mem_cons.mpr ⟨ok_dup C (show decode cX3_init 19 = .ok (.dup, 1) by decide +kernel) rfl, ?_⟩
  refine List.forall_mem_cons.mpr ⟨ok_callIN C h_X6_init ⟨rfl, rfl⟩ i_X6_init kw_140 (host := "LackFerry") (by decide +kernel) kw_139 kw_6 rfl ds_X6_init ⟨by decide, by decide⟩ (show decode cX3_init 20 = .ok (.invokespecial 18, 3) by decide +kernel) rfl, ?_⟩
  refine List.forall_mem_cons.mpr ⟨ok_putf C (wi_X3) tyX3 tyX3_ok nmX3 rfl (by decide) kw_1034 (Or.inr ⟨rfl, cx_name C, rfl⟩) (Or.inr (Or.inr (Or.inl ⟨rfl, Or.inl ⟨_, rfl⟩⟩))) (show decode cX3_init 23 = .ok (.putfield 19, 3) by decide +kernel) rfl, ?_⟩
  refine List.forall_mem_cons.mpr ⟨ok_aload_n C (show decode cX3_init 26 = .ok (.aload_n 0, 1) by decide +kernel) rfl rfl, ?_⟩
  refine List.forall_mem_cons.mpr ⟨ok_new C (wi_X5) tyX5 tyX5_ok rfl kw_1030 kw_289 kw_10 (df_X5 _) (show decode cX3_init 27 = .ok (.new 23, 3) by decide +kernel) rfl, ?_⟩
  refine List.forall_mem_cons.mpr ⟨ok_dup C (show decode cX3_init 30 = .ok (.dup, 1) by decide +kernel) rfl, ?_⟩
  refine List.forall_mem_cons.mpr ⟨ok_callIN C h_X5_init ⟨rfl, rfl⟩ i_X5_init kw_292 (host := "LackFerry") (by decide +kernel) kw_291 kw_10 rfl ds_X5_init ⟨by decide, by decide⟩ (show decode cX3_init 31 = .ok (.invokespecial 25, 3) by decide +kernel) rfl, ?_⟩
  refine List.forall_mem_cons.mpr ⟨ok_putf C (wi_X3) tyX3 tyX3_ok nmX3 rfl (by decide) kw_1036 (Or.inr ⟨rfl, cx_name C, rfl⟩) (Or.inr (Or.inr (Or.inl ⟨rfl, Or.inl ⟨_, rfl⟩⟩))) (show decode cX3_init 34 = .ok (.putfield 26, 3) by decide +kernel) rfl, ?_⟩
  refine List.forall_mem_cons.mpr ⟨ok_vret C rfl (show decode cX3_init 37 = .ok (.return_, 1) by decide +kernel), ?_⟩
  exact fun _ h => absurd h List.not_mem_nil
def L_X4_init : List (Nat × ab_A) := [
  (0, ab_nx 1 (ab_aload 0)),
  (1, ab_nx 4 ab_obj),
  (4, ab_nx 5 (ab_aload 0)),
  (5, ab_nx 7 (ab_lit (.int 40))),
  (7, ab_nx 9 (ab_newa 1 (fun n => (n, .inl (fun _ => 0))) 3 120)),
  (9, ab_nx 12 (ab_putf 4 0 2)),
  (12, ab_nx 13 (ab_aload 0)),
  (13, ab_nx 15 (ab_lit (.int 40))),
  (15, ab_nx 17 (ab_newa 1 (fun n => (n, .inl (fun _ => 0))) 3 120)),
  (17, ab_nx 20 (ab_putf 4 1 2)),
  (20, ab_nx 21 (ab_aload 0)),
  (21, ab_nx 23 (ab_lit (.int 40))),
  (23, ab_nx 25 (ab_newa 1 (fun n => (n, .inl (fun _ => 0))) 3 120)),
  (25, ab_nx 28 (ab_putf 4 2 2)),
  (28, ab_vret 3 120)]
set_option maxRecDepth 100000 in
set_option maxHeartbeats 4000000 in
theorem M_X4_init {l : Launch} {b : ab_B} {D : va_G} {cA : Nat → ClassId} : ab_M l b D ab_cl cA (ab_E0 b) yX4_init (Cond.code yX4_init cX4_init 1 none :: ab_G) ({ frames := 2, cells := 3, slots := 120, locals := 200 } : Room) (ab_X (ab_T L_X4_init) 1) := by
  refine ab_meth (ret := none) L_X4_init (by decide) rfl fun p e R s m args below meth c o C => ?_
  unfold L_X4_init
  refine List.forall_mem_cons.mpr ⟨ok_aload_n C (show decode cX4_init 0 = .ok (.aload_n 0, 1) by decide +kernel) rfl rfl, ?_⟩
  refine List.forall_mem_cons.mpr ⟨ok_obj C kw_197 kw_30 kw_31 ⟨by decide, by decide⟩ (show decode cX4_init 1 = .ok (.invokespecial 3, 3) by decide +kernel) rfl, ?_⟩
  refine List.forall_mem_cons.mpr ⟨ok_aload_n C (show decode cX4_init 4 = .ok (.aload_n 0, 1) by decide +kernel) rfl rfl, ?_⟩
  refine List.forall_mem_cons.mpr ⟨ok_bipush C (show decode cX4_init 5 = .ok (.bipush 40, 2) by decide +kernel) (by decide) rfl, ?_⟩
  refine List.forall_mem_cons.mpr ⟨ok_newa_int C kw_97 (show decode cX4_init 7 = .ok (.newarray .int, 2) by decide +kernel) rfl, ?_⟩
  refine List.forall_mem_cons.mpr ⟨ok_putf C (wi_X4) tyX4 tyX4_ok nmX4 rfl (by decide) kw_198 (Or.inr ⟨rfl, cx_name C, rfl⟩) (Or.inr (Or.inr (Or.inl ⟨rfl, Or.inr ⟨_, rfl⟩⟩))) (show decode cX4_init 9 = .ok (.putfield 9, 3) by decide +kernel) rfl, ?_⟩
  refine List.forall_mem_cons.mpr ⟨ok_aload_n C (show decode cX4_init 12 = .ok (.aload_n 0, 1) by decide +kernel) rfl rfl, ?_⟩
  refine List.forall_mem_cons.mpr ⟨ok_bipush C (show decode cX4_init 13 = .ok (.bipush 40, 2) by decide +kernel) (by decide) rfl, ?_⟩
  refine List.forall_mem_cons.mpr ⟨ok_newa_int C kw_97 (show decode cX4_init 15 = .ok (.newarray .int, 2) by decide +kernel) rfl, ?_⟩
  refine List.forall_mem_cons.mpr ⟨ok_putf C (wi_X4) tyX4 tyX4_ok nmX4 rfl (by decide) kw_200 (Or.inr ⟨rfl, cx_name C, rfl⟩) (Or.inr (Or.inr (Or.inl ⟨rfl, Or.inr ⟨_, rfl⟩⟩))) (show decode cX4_init 17 = .ok (.putfield 15, 3) by decide +kernel) rfl, ?_⟩
  refine List.forall_mem_cons.mpr ⟨ok_aload_n C (show decode cX4_init 20 = .ok (.aload_n 0, 1) by decide +kernel) rfl rfl, ?_⟩
  refine List.forall_mem_cons.mpr ⟨ok_bipush C (show decode cX4_init 21 = .ok (.bipush 40, 2) by decide +kernel) (by decide) rfl, ?_⟩
  refine List.forall_mem_cons.mpr ⟨ok_newa_int C kw_97 (show decode cX4_init 23 = .ok (.newarray .int, 2) by decide +kernel) rfl, ?_⟩
  refine List.forall_mem_cons.mpr ⟨ok_putf C (wi_X4) tyX4 tyX4_ok nmX4 rfl (by decide) kw_202 (Or.inr ⟨rfl, cx_name C, rfl⟩) (Or.inr (Or.inr (Or.inl ⟨rfl, Or.inr ⟨_, rfl⟩⟩))) (show decode cX4_init 25 = .ok (.putfield 18, 3) by decide +kernel) rfl, ?_⟩
  refine List.forall_mem_cons.mpr ⟨ok_vret C rfl (show decode cX4_init 28 = .ok (.return_, 1) by decide +kernel), ?_⟩
  exact fun _ h => absurd h List.not_mem_nil
def L_X9_step : List (Nat × ab_A) := [
  (0, ab_nx 1 (ab_aload 0)),
  (1, ab_nx 4 (ab_getf 9 4)),
  (4, ab_nx 5 (ab_aload 0)),
  (5, ab_nx 8 (ab_getf 9 3)),
  (8, ab_icmp 11 84 (fun x y => decide (y ≤ x))),
  (11, ab_nx 12 (ab_aload 0)),
  (12, ab_nx 15 (ab_getf 9 4)),
  (15, ab_nx 18 (ab_lit (.int 901))),
  (18, ab_icmp 21 84 (fun x y => decide (y ≤ x))),
  (21, ab_nx 22 (ab_aload 0)),
  (22, ab_nx 23 (ab_aload 0)),
  (23, ab_nx 26 (ab_getf 9 0)),
  (26, ab_nx 27 (ab_aload 0)),
  (27, ab_nx 30 (ab_getf 9 4)),
  (30, ab_nx 31 (ab_ald 1)),
  (31, ab_nx 34 (ab_putf 9 5 0)),
  (34, ab_nx 35 (ab_aload 0)),
  (35, ab_nx 36 (ab_aload 0)),
  (36, ab_nx 39 (ab_getf 9 1)),
  (39, ab_nx 40 (ab_aload 0)),
  (40, ab_nx 43 (ab_getf 9 4)),
  (43, ab_nx 44 (ab_ald 1)),
  (44, ab_nx 47 (ab_putf 9 6 0)),
  (47, ab_nx 48 (ab_aload 0)),
  (48, ab_nx 49 (ab_aload 0)),
  (49, ab_nx 52 (ab_getf 9 2)),
  (52, ab_nx 53 (ab_aload 0)),
  (53, ab_nx 56 (ab_getf 9 4)),
  (56, ab_nx 57 ab_lald),
  (57, ab_nx 60 (ab_putf 9 8 1)),
  (60, ab_nx 61 (ab_aload 0)),
  (61, ab_nx 62 (ab_aload 0)),
  (62, ab_nx 65 (ab_getf 9 2)),
  (65, ab_nx 66 (ab_aload 0)),
  (66, ab_nx 69 (ab_getf 9 4)),
  (69, ab_nx 70 ab_lald),
  (70, ab_nx 71 ab_l2i),
  (71, ab_nx 74 (ab_putf 9 7 0)),
  (74, ab_nx 75 (ab_aload 0)),
  (75, ab_nx 76 ab_dup),
  (76, ab_nx 79 (ab_getf 9 4)),
  (79, ab_nx 80 (ab_lit (.int 1))),
  (80, ab_nx 81 (ab_bin (fun x y => x + y))),
  (81, ab_nx 84 (ab_putf 9 4 0)),
  (84, ab_vret 0 0)]
set_option maxRecDepth 100000 in
set_option maxHeartbeats 4000000 in
theorem M_X9_step {l : Launch} {b : ab_B} {D : va_G} {cA : Nat → ClassId} : ab_M l b D ab_cl cA (ab_E0 b) yX9_step (Cond.code yX9_step cX9_step 1 none :: ab_G) ({ frames := 1, cells := 0, slots := 0, locals := 100 } : Room) (ab_X (ab_T L_X9_step) 1) := by
  refine ab_meth (ret := none) L_X9_step (by decide) rfl fun p e R s m args below meth c o C => ?_
  unfold L_X9_step
  refine List.forall_mem_cons.mpr ⟨ok_aload_n C (show decode cX9_step 0 = .ok (.aload_n 0, 1) by decide +kernel) rfl rfl, ?_⟩
  refine List.forall_mem_cons.mpr ⟨ok_getf C (wi_X9) rfl (by decide) kw_60 (show decode cX9_step 1 = .ok (.getfield 26, 3) by decide +kernel) rfl, ?_⟩
  refine List.forall_mem_cons.mpr ⟨ok_aload_n C (show decode cX9_step 4 = .ok (.aload_n 0, 1) by decide +kernel) rfl rfl, ?_⟩
  refine List.forall_mem_cons.mpr ⟨ok_getf C (wi_X9) rfl (by decide) kw_59 (show decode cX9_step 5 = .ok (.getfield 22, 3) by decide +kernel) rfl, ?_⟩
  refine List.forall_mem_cons.mpr ⟨ok_icmpge C (show decode cX9_step 8 = .ok (.if_icmp .ge 76, 3) by decide +kernel) (tg := 84) (by decide) rfl rfl, ?_⟩
  refine List.forall_mem_cons.mpr ⟨ok_aload_n C (show decode cX9_step 11 = .ok (.aload_n 0, 1) by decide +kernel) rfl rfl, ?_⟩
  refine List.forall_mem_cons.mpr ⟨ok_getf C (wi_X9) rfl (by decide) kw_60 (show decode cX9_step 12 = .ok (.getfield 26, 3) by decide +kernel) rfl, ?_⟩
  refine List.forall_mem_cons.mpr ⟨ok_sipush C (show decode cX9_step 15 = .ok (.sipush 901, 3) by decide +kernel) (by decide) rfl, ?_⟩
  refine List.forall_mem_cons.mpr ⟨ok_icmpge C (show decode cX9_step 18 = .ok (.if_icmp .ge 66, 3) by decide +kernel) (tg := 84) (by decide) rfl rfl, ?_⟩
  refine List.forall_mem_cons.mpr ⟨ok_aload_n C (show decode cX9_step 21 = .ok (.aload_n 0, 1) by decide +kernel) rfl rfl, ?_⟩
  refine List.forall_mem_cons.mpr ⟨ok_aload_n C (show decode cX9_step 22 = .ok (.aload_n 0, 1) by decide +kernel) rfl rfl, ?_⟩
  refine List.forall_mem_cons.mpr ⟨ok_getf C (wi_X9) rfl (by decide) kw_56 (show decode cX9_step 23 = .ok (.getfield 9, 3) by decide +kernel) rfl, ?_⟩
  refine List.forall_mem_cons.mpr ⟨ok_aload_n C (show decode cX9_step 26 = .ok (.aload_n 0, 1) by decide +kernel) rfl rfl, ?_⟩
  refine List.forall_mem_cons.mpr ⟨ok_getf C (wi_X9) rfl (by decide) kw_60 (show decode cX9_step 27 = .ok (.getfield 26, 3) by decide +kernel) rfl, ?_⟩
  refine List.forall_mem_cons.mpr ⟨ok_iaload C (show decode cX9_step 30 = .ok (.iaload, 1) by decide +kernel) rfl, ?_⟩
  refine List.forall_mem_cons.mpr ⟨ok_putf C (wi_X9) tyX9 tyX9_ok nmX9 rfl (by decide) kw_63 (Or.inl rfl) (Or.inl ⟨rfl, rfl⟩) (show decode cX9_step 31 = .ok (.putfield 32, 3) by decide +kernel) rfl, ?_⟩
  refine List.forall_mem_cons.mpr ⟨ok_aload_n C (show decode cX9_step 34 = .ok (.aload_n 0, 1) by decide +kernel) rfl rfl, ?_⟩
  refine List.forall_mem_cons.mpr ⟨ok_aload_n C (show decode cX9_step 35 = .ok (.aload_n 0, 1) by decide +kernel) rfl rfl, ?_⟩
  refine List.forall_mem_cons.mpr ⟨ok_getf C (wi_X9) rfl (by decide) kw_57 (show decode cX9_step 36 = .ok (.getfield 15, 3) by decide +kernel) rfl, ?_⟩
  refine List.forall_mem_cons.mpr ⟨ok_aload_n C (show decode cX9_step 39 = .ok (.aload_n 0, 1) by decide +kernel) rfl rfl, ?_⟩
  refine List.forall_mem_cons.mpr ⟨ok_getf C (wi_X9) rfl (by decide) kw_60 (show decode cX9_step 40 = .ok (.getfield 26, 3) by decide +kernel) rfl, ?_⟩
  refine List.forall_mem_cons.mpr ⟨ok_iaload C (show decode cX9_step 43 = .ok (.iaload, 1) by decide +kernel) rfl, ?_⟩
  refine List.forall_mem_cons.mpr ⟨ok_putf C (wi_X9) tyX9 tyX9_ok nmX9 rfl (by decide) kw_66 (Or.inl rfl) (Or.inl ⟨rfl, rfl⟩) (show decode cX9_step 44 = .ok (.putfield 35, 3) by decide +kernel) rfl, ?_⟩
  refine List.forall_mem_cons.mpr ⟨ok_aload_n C (show decode cX9_step 47 = .ok (.aload_n 0, 1) by decide +kernel) rfl rfl, ?_⟩
  refine List.forall_mem_cons.mpr ⟨ok_aload_n C (show decode cX9_step 48 = .ok (.aload_n 0, 1) by decide +kernel) rfl rfl, ?_⟩
  refine List.forall_mem_cons.mpr ⟨ok_getf C (wi_X9) rfl (by decide) kw_58 (show decode cX9_step 49 = .ok (.getfield 18, 3) by decide +kernel) rfl, ?_⟩
  refine List.forall_mem_cons.mpr ⟨ok_aload_n C (show decode cX9_step 52 = .ok (.aload_n 0, 1) by decide +kernel) rfl rfl, ?_⟩
  refine List.forall_mem_cons.mpr ⟨ok_getf C (wi_X9) rfl (by decide) kw_60 (show decode cX9_step 53 = .ok (.getfield 26, 3) by decide +kernel) rfl, ?_⟩
  refine List.forall_mem_cons.mpr ⟨ok_laload C (show decode cX9_step 56 = .ok (.laload, 1) by decide +kernel) rfl, ?_⟩
  refine List.forall_mem_cons.mpr ⟨ok_putf C (wi_X9) tyX9 tyX9_ok nmX9 rfl (by decide) kw_72 (Or.inl rfl) (Or.inr (Or.inl ⟨rfl, rfl⟩)) (show decode cX9_step 57 = .ok (.putfield 38, 3) by decide +kernel) rfl, ?_⟩
  refine List.forall_mem_cons.mpr ⟨ok_aload_n C (show decode cX9_step 60 = .ok (.aload_n 0, 1) by decide +kernel) rfl rfl, ?_⟩
  refine List.forall_mem_cons.mpr ⟨ok_aload_n C (show decode cX9_step 61 = .ok (.aload_n 0, 1) by decide +kernel) rfl rfl, ?_⟩
  refine List.forall_mem_cons.mpr ⟨ok_getf C (wi_X9) rfl (by decide) kw_58 (show decode cX9_step 62 = .ok (.getfield 18, 3) by decide +kernel) rfl, ?_⟩
  refine List.forall_mem_cons.mpr ⟨ok_aload_n C (show decode cX9_step 65 = .ok (.aload_n 0, 1) by decide +kernel) rfl rfl, ?_⟩
  refine List.forall_mem_cons.mpr ⟨ok_getf C (wi_X9) rfl (by decide) kw_60 (show decode cX9_step 66 = .ok (.getfield 26, 3) by decide +kernel) rfl, ?_⟩
  refine List.forall_mem_cons.mpr ⟨ok_laload C (show decode cX9_step 69 = .ok (.laload, 1) by decide +kernel) rfl, ?_⟩
  refine List.forall_mem_cons.mpr ⟨ok_l2i C (show decode cX9_step 70 = .ok (.l2i, 1) by decide +kernel) rfl, ?_⟩
  refine List.forall_mem_cons.mpr ⟨ok_putf C (wi_X9) tyX9 tyX9_ok nmX9 rfl (by decide) kw_68 (Or.inl rfl) (Or.inl ⟨rfl, rfl⟩) (show decode cX9_step 71 = .ok (.putfield 42, 3) by decide +kernel) rfl, ?_⟩
  refine List.forall_mem_cons.mpr ⟨ok_aload_n C (show decode cX9_step 74 = .ok (.aload_n 0, 1) by decide +kernel) rfl rfl, ?_⟩
  refine List.forall_mem_cons.mpr ⟨ok_dup C (show decode cX9_step 75 = .ok (.dup, 1) by decide +kernel) rfl, ?_⟩
  refine List.forall_mem_cons.mpr ⟨ok_getf C (wi_X9) rfl (by decide) kw_60 (show decode cX9_step 76 = .ok (.getfield 26, 3) by decide +kernel) rfl, ?_⟩
  refine List.forall_mem_cons.mpr ⟨ok_iconst C (show decode cX9_step 79 = .ok (.iconst 1, 1) by decide +kernel) (by decide) rfl, ?_⟩
  refine List.forall_mem_cons.mpr ⟨ok_iadd C (show decode cX9_step 80 = .ok (.iadd, 1) by decide +kernel) rfl, ?_⟩
  refine List.forall_mem_cons.mpr ⟨ok_putf C (wi_X9) tyX9 tyX9_ok nmX9 rfl (by decide) kw_60 (Or.inl rfl) (Or.inl ⟨rfl, rfl⟩) (show decode cX9_step 81 = .ok (.putfield 26, 3) by decide +kernel) rfl, ?_⟩
  refine List.forall_mem_cons.mpr ⟨ok_vret C rfl (show decode cX9_step 84 = .ok (.return_, 1) by decide +kernel), ?_⟩
  exact fun _ h => absurd h List.not_mem_nil
def L_X9_fail : List (Nat × ab_A) := [
  (0, ab_nx 1 (ab_aload 0)),
  (1, ab_nx 2 (ab_iload 1)),
  (2, ab_nx 5 (ab_putf 9 9 0)),
  (5, ab_nx 6 (ab_lit (.int 0))),
  (6, ab_zret 0 0)]
set_option maxRecDepth 100000 in
set_option maxHeartbeats 4000000 in
theorem M_X9_fail {l : Launch} {b : ab_B} {D : va_G} {cA : Nat → ClassId} : ab_M l b D ab_cl cA (ab_E0 b) yX9_fail (Cond.code yX9_fail cX9_fail 2 (some .boolean) :: ab_G) ({ frames := 1, cells := 0, slots := 0, locals := 100 } : Room) (ab_X (ab_T L_X9_fail) 2) := by
  refine ab_meth (ret := (some .boolean)) L_X9_fail (by decide) rfl fun p e R s m args below meth c o C => ?_
  unfold L_X9_fail
  refine List.forall_mem_cons.mpr ⟨ok_aload_n C (show decode cX9_fail 0 = .ok (.aload_n 0, 1) by decide +kernel) rfl rfl, ?_⟩
  refine List.forall_mem_cons.mpr ⟨ok_iload_n C (show decode cX9_fail 1 = .ok (.iload_n 1, 1) by decide +kernel) rfl rfl, ?_⟩
  refine List.forall_mem_cons.mpr ⟨ok_putf C (wi_X9) tyX9 tyX9_ok nmX9 rfl (by decide) kw_74 (Or.inl rfl) (Or.inl ⟨rfl, rfl⟩) (show decode cX9_fail 2 = .ok (.putfield 29, 3) by decide +kernel) rfl, ?_⟩
  refine List.forall_mem_cons.mpr ⟨ok_iconst C (show decode cX9_fail 5 = .ok (.iconst 0, 1) by decide +kernel) (by decide) rfl, ?_⟩
  refine List.forall_mem_cons.mpr ⟨ok_zret C rfl (show decode cX9_fail 6 = .ok (.ireturn, 1) by decide +kernel), ?_⟩
  exact fun _ h => absurd h List.not_mem_nil
def L_X7_manNamed : List (Nat × ab_A) := [
  (0, ab_nx 1 (ab_lit (.int 0))),
  (1, ab_nx 2 (ab_istore 3)),
  (2, ab_nx 3 (ab_iload 3)),
  (3, ab_nx 4 (ab_aload 0)),
  (4, ab_nx 7 (ab_getf 7 9)),
  (7, ab_icmp 10 29 (fun x y => decide (y ≤ x))),
  (10, ab_nx 11 (ab_aload 0)),
  (11, ab_nx 14 (ab_getf 7 1)),
  (14, ab_nx 15 (ab_iload 3)),
  (15, ab_nx 16 ab_lald),
  (16, ab_nx 17 (ab_lload 1)),
  (17, ab_nx 18 ab_lcmp),
  (18, ab_if 21 23 (fun x => !decide (x = 0))),
  (21, ab_nx 22 (ab_iload 3)),
  (22, ab_ret 0 0),
  (23, ab_nx 26 (ab_iinc 3 1)),
  (26, ab_goto 2),
  (29, ab_nx 30 (ab_lit (.int (-1)))),
  (30, ab_ret 0 0)]
set_option maxRecDepth 100000 in
set_option maxHeartbeats 4000000 in
theorem M_X7_manNamed {l : Launch} {b : ab_B} {D : va_G} {cA : Nat → ClassId} : ab_M l b D ab_cl cA (ab_E0 b) yX7_manNamed (Cond.code yX7_manNamed cX7_manNamed 4 (some .int) :: ab_G) ({ frames := 1, cells := 0, slots := 0, locals := 100 } : Room) (ab_X (ab_T L_X7_manNamed) 4) := by
  refine ab_meth (ret := (some .int)) L_X7_manNamed (by decide) rfl fun p e R s m args below meth c o C => ?_
  unfold L_X7_manNamed
  refine List.forall_mem_cons.mpr ⟨ok_iconst C (show decode cX7_manNamed 0 = .ok (.iconst 0, 1) by decide +kernel) (by decide) rfl, ?_⟩
  refine List.forall_mem_cons.mpr ⟨ok_istore_n C (show decode cX7_manNamed 1 = .ok (.istore_n 3, 1) by decide +kernel) rfl (by decide) rfl, ?_⟩
  refine List.forall_mem_cons.mpr ⟨ok_iload_n C (show decode cX7_manNamed 2 = .ok (.iload_n 3, 1) by decide +kernel) rfl rfl, ?_⟩
  refine List.forall_mem_cons.mpr ⟨ok_aload_n C (show decode cX7_manNamed 3 = .ok (.aload_n 0, 1) by decide +kernel) rfl rfl, ?_⟩
  refine List.forall_mem_cons.mpr ⟨ok_getf C (wi_X7) rfl (by decide) kw_253 (show decode cX7_manNamed 4 = .ok (.getfield 59, 3) by decide +kernel) rfl, ?_⟩
  refine List.forall_mem_cons.mpr ⟨ok_icmpge C (show decode cX7_manNamed 7 = .ok (.if_icmp .ge 22, 3) by decide +kernel) (tg := 29) (by decide) rfl rfl, ?_⟩
  refine List.forall_mem_cons.mpr ⟨ok_aload_n C (show decode cX7_manNamed 10 = .ok (.aload_n 0, 1) by decide +kernel) rfl rfl, ?_⟩
  refine List.forall_mem_cons.mpr ⟨ok_getf C (wi_X7) rfl (by decide) kw_235 (show decode cX7_manNamed 11 = .ok (.getfield 15, 3) by decide +kernel) rfl, ?_⟩
  refine List.forall_mem_cons.mpr ⟨ok_iload_n C (show decode cX7_manNamed 14 = .ok (.iload_n 3, 1) by decide +kernel) rfl rfl, ?_⟩
  refine List.forall_mem_cons.mpr ⟨ok_laload C (show decode cX7_manNamed 15 = .ok (.laload, 1) by decide +kernel) rfl, ?_⟩
  refine List.forall_mem_cons.mpr ⟨ok_lload_n C (show decode cX7_manNamed 16 = .ok (.lload_n 1, 1) by decide +kernel) rfl rfl, ?_⟩
  refine List.forall_mem_cons.mpr ⟨ok_lcmp C (show decode cX7_manNamed 17 = .ok (.lcmp, 1) by decide +kernel) rfl, ?_⟩
  refine List.forall_mem_cons.mpr ⟨ok_ifne C (show decode cX7_manNamed 18 = .ok (.ifCond .ne 5, 3) by decide +kernel) (tg := 23) (by decide) rfl rfl, ?_⟩
  refine List.forall_mem_cons.mpr ⟨ok_iload_n C (show decode cX7_manNamed 21 = .ok (.iload_n 3, 1) by decide +kernel) rfl rfl, ?_⟩
  refine List.forall_mem_cons.mpr ⟨ok_ret C rfl (show decode cX7_manNamed 22 = .ok (.ireturn, 1) by decide +kernel), ?_⟩
  refine List.forall_mem_cons.mpr ⟨ok_iinc C (show decode cX7_manNamed 23 = .ok (.iinc 3 1, 3) by decide +kernel) (by decide) (by decide) rfl, ?_⟩
  refine List.forall_mem_cons.mpr ⟨ok_goto C (show decode cX7_manNamed 26 = .ok (.goto (-24), 3) by decide +kernel) (tg := 2) (by decide) rfl, ?_⟩
  refine List.forall_mem_cons.mpr ⟨ok_iconst C (show decode cX7_manNamed 29 = .ok (.iconst (-1), 1) by decide +kernel) (by decide) rfl, ?_⟩
  refine List.forall_mem_cons.mpr ⟨ok_ret C rfl (show decode cX7_manNamed 30 = .ok (.ireturn, 1) by decide +kernel), ?_⟩
  exact fun _ h => absurd h List.not_mem_nil
