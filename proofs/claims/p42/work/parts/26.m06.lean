def L_X7_readLine (f_X7_readAmount : List Value → ab_H → Option ab_O) (f_X7_readLoad : List Value → ab_H → Option ab_O) (f_X7_readGood : List Value → ab_H → Option ab_O) (f_X7_readMan : List Value → ab_H → Option ab_O) (f_X7_readMisses : List Value → ab_H → Option ab_O) (f_X9_fail : List Value → ab_H → Option ab_O) : List (Nat × ab_A) := [
  (0, ab_nx 1 (ab_aload 1)),
  (1, ab_nx 4 (ab_getf 9 5)),
  (4, ab_nx 6 (ab_lit (.int 66))),
  (6, ab_icmp 9 31 (fun x y => decide (x < y))),
  (9, ab_nx 10 (ab_aload 1)),
  (10, ab_nx 13 (ab_getf 9 5)),
  (13, ab_nx 15 (ab_lit (.int 69))),
  (15, ab_icmp 18 31 (fun x y => decide (y < x))),
  (18, ab_nx 19 (ab_aload 0)),
  (19, ab_nx 20 (ab_aload 1)),
  (20, ab_nx 21 (ab_aload 1)),
  (21, ab_nx 24 (ab_getf 9 5)),
  (24, ab_nx 26 (ab_lit (.int 66))),
  (26, ab_nx 27 (ab_bin (fun x y => x - y))),
  (27, ab_nx 30 (ab_callV 3 7 f_X7_readAmount 0 0 0 0)),
  (30, ab_zret 0 0),
  (31, ab_nx 32 (ab_aload 1)),
  (32, ab_nx 35 (ab_getf 9 5)),
  (35, ab_tab 64 [80, 86, 104, 104, 104, 104, 92, 98] 104),
  (80, ab_nx 81 (ab_aload 0)),
  (81, ab_nx 82 (ab_aload 1)),
  (82, ab_nx 85 (ab_callV 2 7 f_X7_readLoad 0 0 0 0)),
  (85, ab_zret 0 0),
  (86, ab_nx 87 (ab_aload 0)),
  (87, ab_nx 88 (ab_aload 1)),
  (88, ab_nx 91 (ab_callV 2 7 f_X7_readGood 0 0 0 0)),
  (91, ab_zret 0 0),
  (92, ab_nx 93 (ab_aload 0)),
  (93, ab_nx 94 (ab_aload 1)),
  (94, ab_nx 97 (ab_callV 2 7 f_X7_readMan 0 0 0 0)),
  (97, ab_zret 0 0),
  (98, ab_nx 99 (ab_aload 0)),
  (99, ab_nx 100 (ab_aload 1)),
  (100, ab_nx 103 (ab_callV 2 7 f_X7_readMisses 0 0 0 0)),
  (103, ab_zret 0 0),
  (104, ab_nx 105 (ab_aload 1)),
  (105, ab_nx 106 (ab_lit (.int 1))),
  (106, ab_nx 109 (ab_callV 2 9 f_X9_fail 0 0 0 0)),
  (109, ab_zret 0 0)]
set_option maxRecDepth 100000 in
set_option maxHeartbeats 4000000 in
theorem M_X7_readLine {l : Launch} {b : ab_B} {D : va_G} {cA : Nat → ClassId} {f_X7_readAmount : List Value → ab_H → Option ab_O} (h_X7_readAmount : ab_M l b D ab_cl cA (ab_E0 b) yX7_readAmount (Cond.code yX7_readAmount cX7_readAmount 6 (some .boolean) :: ab_G) ({ frames := 4, cells := 0, slots := 0, locals := 400 } : Room) f_X7_readAmount) {f_X7_readLoad : List Value → ab_H → Option ab_O} (h_X7_readLoad : ab_M l b D ab_cl cA (ab_E0 b) yX7_readLoad (Cond.code yX7_readLoad cX7_readLoad 2 (some .boolean) :: ab_G) ({ frames := 3, cells := 0, slots := 0, locals := 300 } : Room) f_X7_readLoad) {f_X7_readGood : List Value → ab_H → Option ab_O} (h_X7_readGood : ab_M l b D ab_cl cA (ab_E0 b) yX7_readGood (Cond.code yX7_readGood cX7_readGood 2 (some .boolean) :: ab_G) ({ frames := 4, cells := 0, slots := 0, locals := 400 } : Room) f_X7_readGood) {f_X7_readMan : List Value → ab_H → Option ab_O} (h_X7_readMan : ab_M l b D ab_cl cA (ab_E0 b) yX7_readMan (Cond.code yX7_readMan cX7_readMan 4 (some .boolean) :: ab_G) ({ frames := 4, cells := 0, slots := 0, locals := 400 } : Room) f_X7_readMan) {f_X7_readMisses : List Value → ab_H → Option ab_O} (h_X7_readMisses : ab_M l b D ab_cl cA (ab_E0 b) yX7_readMisses (Cond.code yX7_readMisses cX7_readMisses 4 (some .boolean) :: ab_G) ({ frames := 4, cells := 0, slots := 0, locals := 400 } : Room) f_X7_readMisses) {f_X9_fail : List Value → ab_H → Option ab_O} (h_X9_fail : ab_M l b D ab_cl cA (ab_E0 b) yX9_fail (Cond.code yX9_fail cX9_fail 2 (some .boolean) :: ab_G) ({ frames := 1, cells := 0, slots := 0, locals := 100 } : Room) f_X9_fail) : ab_M l b D ab_cl cA (ab_E0 b) yX7_readLine (Cond.code yX7_readLine cX7_readLine 2 (some .boolean) :: ab_G) ({ frames := 5, cells := 0, slots := 0, locals := 500 } : Room) (ab_X (ab_T (L_X7_readLine f_X7_readAmount f_X7_readLoad f_X7_readGood f_X7_readMan f_X7_readMisses f_X9_fail)) 2) := by
  refine ab_meth (ret := (some .boolean)) (L_X7_readLine f_X7_readAmount f_X7_readLoad f_X7_readGood f_X7_readMan f_X7_readMisses f_X9_fail) (by decide) rfl fun p e R s m args below meth c o C => ?_
  unfold L_X7_readLine
  refine List.forall_mem_cons.mpr ⟨ok_aload_n C (show decode cX7_readLine 0 = .ok (.aload_n 1, 1) by decide +kernel) rfl rfl, ?_⟩
  refine List.forall_mem_cons.mpr ⟨ok_getf C (wi_X9) rfl (by decide) kw_64 (show decode cX7_readLine 1 = .ok (.getfield 81, 3) by decide +kernel) rfl, ?_⟩
  refine List.forall_mem_cons.mpr ⟨ok_bipush C (show decode cX7_readLine 4 = .ok (.bipush 66, 2) by decide +kernel) (by decide) rfl, ?_⟩
  refine List.forall_mem_cons.mpr ⟨ok_icmplt C (show decode cX7_readLine 6 = .ok (.if_icmp .lt 25, 3) by decide +kernel) (tg := 31) (by decide) rfl rfl, ?_⟩
  refine List.forall_mem_cons.mpr ⟨ok_aload_n C (show decode cX7_readLine 9 = .ok (.aload_n 1, 1) by decide +kernel) rfl rfl, ?_⟩
  refine List.forall_mem_cons.mpr ⟨ok_getf C (wi_X9) rfl (by decide) kw_64 (show decode cX7_readLine 10 = .ok (.getfield 81, 3) by decide +kernel) rfl, ?_⟩
  refine List.forall_mem_cons.mpr ⟨ok_bipush C (show decode cX7_readLine 13 = .ok (.bipush 69, 2) by decide +kernel) (by decide) rfl, ?_⟩
  refine List.forall_mem_cons.mpr ⟨ok_icmpgt C (show decode cX7_readLine 15 = .ok (.if_icmp .gt 16, 3) by decide +kernel) (tg := 31) (by decide) rfl rfl, ?_⟩
  refine List.forall_mem_cons.mpr ⟨ok_aload_n C (show decode cX7_readLine 18 = .ok (.aload_n 0, 1) by decide +kernel) rfl rfl, ?_⟩
  refine List.forall_mem_cons.mpr ⟨ok_aload_n C (show decode cX7_readLine 19 = .ok (.aload_n 1, 1) by decide +kernel) rfl rfl, ?_⟩
  refine List.forall_mem_cons.mpr ⟨ok_aload_n C (show decode cX7_readLine 20 = .ok (.aload_n 1, 1) by decide +kernel) rfl rfl, ?_⟩
  refine List.forall_mem_cons.mpr ⟨ok_getf C (wi_X9) rfl (by decide) kw_64 (show decode cX7_readLine 21 = .ok (.getfield 81, 3) by decide +kernel) rfl, ?_⟩
  refine List.forall_mem_cons.mpr ⟨ok_bipush C (show decode cX7_readLine 24 = .ok (.bipush 66, 2) by decide +kernel) (by decide) rfl, ?_⟩
  refine List.forall_mem_cons.mpr ⟨ok_isub C (show decode cX7_readLine 26 = .ok (.isub, 1) by decide +kernel) rfl, ?_⟩
  refine List.forall_mem_cons.mpr ⟨ok_callV C h_X7_readAmount ⟨rfl, rfl⟩ rfl kw_507 kw_504 kw_506 kp_7 kw_9 rfl ds_X7_readAmount ⟨by decide, by decide⟩ (show decode cX7_readLine 27 = .ok (.invokevirtual 92, 3) by decide +kernel) rfl, ?_⟩
  refine List.forall_mem_cons.mpr ⟨ok_zret C rfl (show decode cX7_readLine 30 = .ok (.ireturn, 1) by decide +kernel), ?_⟩
  refine List.forall_mem_cons.mpr ⟨ok_aload_n C (show decode cX7_readLine 31 = .ok (.aload_n 1, 1) by decide +kernel) rfl rfl, ?_⟩
  refine List.forall_mem_cons.mpr ⟨ok_getf C (wi_X9) rfl (by decide) kw_64 (show decode cX7_readLine 32 = .ok (.getfield 81, 3) by decide +kernel) rfl, ?_⟩
  refine List.forall_mem_cons.mpr ⟨ok_tab C (show decode cX7_readLine 35 = .ok (.tableswitch 69 64 71 #[45, 51, 69, 69, 69, 69, 57, 63], 45) by decide +kernel) (by decide) (by decide) (by decide), ?_⟩
  refine List.forall_mem_cons.mpr ⟨ok_aload_n C (show decode cX7_readLine 80 = .ok (.aload_n 0, 1) by decide +kernel) rfl rfl, ?_⟩
  refine List.forall_mem_cons.mpr ⟨ok_aload_n C (show decode cX7_readLine 81 = .ok (.aload_n 1, 1) by decide +kernel) rfl rfl, ?_⟩
  refine List.forall_mem_cons.mpr ⟨ok_callV C h_X7_readLoad ⟨rfl, rfl⟩ rfl kw_536 kw_533 kw_535 kp_8 kw_9 rfl ds_X7_readLoad ⟨by decide, by decide⟩ (show decode cX7_readLine 82 = .ok (.invokevirtual 96, 3) by decide +kernel) rfl, ?_⟩
  refine List.forall_mem_cons.mpr ⟨ok_zret C rfl (show decode cX7_readLine 85 = .ok (.ireturn, 1) by decide +kernel), ?_⟩
  refine List.forall_mem_cons.mpr ⟨ok_aload_n C (show decode cX7_readLine 86 = .ok (.aload_n 0, 1) by decide +kernel) rfl rfl, ?_⟩
  refine List.forall_mem_cons.mpr ⟨ok_aload_n C (show decode cX7_readLine 87 = .ok (.aload_n 1, 1) by decide +kernel) rfl rfl, ?_⟩
  refine List.forall_mem_cons.mpr ⟨ok_callV C h_X7_readGood ⟨rfl, rfl⟩ rfl kw_540 kw_537 kw_539 kp_9 kw_9 rfl ds_X7_readGood ⟨by decide, by decide⟩ (show decode cX7_readLine 88 = .ok (.invokevirtual 99, 3) by decide +kernel) rfl, ?_⟩
  refine List.forall_mem_cons.mpr ⟨ok_zret C rfl (show decode cX7_readLine 91 = .ok (.ireturn, 1) by decide +kernel), ?_⟩
  refine List.forall_mem_cons.mpr ⟨ok_aload_n C (show decode cX7_readLine 92 = .ok (.aload_n 0, 1) by decide +kernel) rfl rfl, ?_⟩
  refine List.forall_mem_cons.mpr ⟨ok_aload_n C (show decode cX7_readLine 93 = .ok (.aload_n 1, 1) by decide +kernel) rfl rfl, ?_⟩
  refine List.forall_mem_cons.mpr ⟨ok_callV C h_X7_readMan ⟨rfl, rfl⟩ rfl kw_552 kw_549 kw_551 kp_11 kw_9 rfl ds_X7_readMan ⟨by decide, by decide⟩ (show decode cX7_readLine 94 = .ok (.invokevirtual 102, 3) by decide +kernel) rfl, ?_⟩
  refine List.forall_mem_cons.mpr ⟨ok_zret C rfl (show decode cX7_readLine 97 = .ok (.ireturn, 1) by decide +kernel), ?_⟩
  refine List.forall_mem_cons.mpr ⟨ok_aload_n C (show decode cX7_readLine 98 = .ok (.aload_n 0, 1) by decide +kernel) rfl rfl, ?_⟩
  refine List.forall_mem_cons.mpr ⟨ok_aload_n C (show decode cX7_readLine 99 = .ok (.aload_n 1, 1) by decide +kernel) rfl rfl, ?_⟩
  refine List.forall_mem_cons.mpr ⟨ok_callV C h_X7_readMisses ⟨rfl, rfl⟩ rfl kw_556 kw_553 kw_555 kp_12 kw_9 rfl ds_X7_readMisses ⟨by decide, by decide⟩ (show decode cX7_readLine 100 = .ok (.invokevirtual 105, 3) by decide +kernel) rfl, ?_⟩
  refine List.forall_mem_cons.mpr ⟨ok_zret C rfl (show decode cX7_readLine 103 = .ok (.ireturn, 1) by decide +kernel), ?_⟩
  refine List.forall_mem_cons.mpr ⟨ok_aload_n C (show decode cX7_readLine 104 = .ok (.aload_n 1, 1) by decide +kernel) rfl rfl, ?_⟩
  refine List.forall_mem_cons.mpr ⟨ok_iconst C (show decode cX7_readLine 105 = .ok (.iconst 1, 1) by decide +kernel) (by decide) rfl, ?_⟩
  refine List.forall_mem_cons.mpr ⟨ok_callV C h_X9_fail ⟨rfl, rfl⟩ rfl kw_520 kw_525 kw_518 kw_519 kw_3 rfl ds_X9_fail ⟨by decide, by decide⟩ (show decode cX7_readLine 106 = .ok (.invokevirtual 108, 3) by decide +kernel) rfl, ?_⟩
  refine List.forall_mem_cons.mpr ⟨ok_zret C rfl (show decode cX7_readLine 109 = .ok (.ireturn, 1) by decide +kernel), ?_⟩
  exact fun _ h => absurd h List.not_mem_nil
def L_X7_readText (f_X7_clear : List Value → ab_H → Option ab_O) (f_X9_step : List Value → ab_H → Option ab_O) (f_X7_readLine : List Value → ab_H → Option ab_O) (f_X9_takeSign : List Value → ab_H → Option ab_O) : List (Nat × ab_A) := [
  (0, ab_nx 1 (ab_aload 0)),
  (1, ab_nx 4 (ab_callV 1 7 f_X7_clear 0 0 0 0)),
  (4, ab_nx 5 (ab_lit (.int 0))),
  (5, ab_nx 6 (ab_istore 2)),
  (6, ab_nx 7 (ab_iload 2)),
  (7, ab_nx 10 (ab_lit (.int 900))),
  (10, ab_icmp 13 51 (fun x y => decide (y < x))),
  (13, ab_nx 14 (ab_aload 1)),
  (14, ab_nx 17 (ab_callV 1 9 f_X9_step 0 0 0 0)),
  (17, ab_nx 18 (ab_aload 1)),
  (18, ab_nx 21 (ab_getf 9 5)),
  (21, ab_if 24 26 (fun x => !decide (x = 0))),
  (24, ab_nx 25 (ab_iload 2)),
  (25, ab_ret 0 0),
  (26, ab_nx 27 (ab_aload 0)),
  (27, ab_nx 28 (ab_aload 1)),
  (28, ab_nx 31 (ab_callV 2 7 f_X7_readLine 0 0 0 0)),
  (31, ab_if 34 43 (fun x => decide (x = 0))),
  (34, ab_nx 35 (ab_aload 1)),
  (35, ab_nx 37 (ab_lit (.int 59))),
  (37, ab_nx 40 (ab_callV 2 9 f_X9_takeSign 0 0 0 0)),
  (40, ab_if 43 45 (fun x => !decide (x = 0))),
  (43, ab_nx 44 (ab_lit (.int (-1)))),
  (44, ab_ret 0 0),
  (45, ab_nx 48 (ab_iinc 2 1)),
  (48, ab_goto 6),
  (51, ab_nx 52 (ab_lit (.int (-1)))),
  (52, ab_ret 0 0)]
set_option maxRecDepth 100000 in
set_option maxHeartbeats 4000000 in
theorem M_X7_readText {l : Launch} {b : ab_B} {D : va_G} {cA : Nat → ClassId} {f_X7_clear : List Value → ab_H → Option ab_O} (h_X7_clear : ab_M l b D ab_cl cA (ab_E0 b) yX7_clear (Cond.code yX7_clear cX7_clear 2 none :: ab_G) ({ frames := 1, cells := 0, slots := 0, locals := 100 } : Room) f_X7_clear) {f_X9_step : List Value → ab_H → Option ab_O} (h_X9_step : ab_M l b D ab_cl cA (ab_E0 b) yX9_step (Cond.code yX9_step cX9_step 1 none :: ab_G) ({ frames := 1, cells := 0, slots := 0, locals := 100 } : Room) f_X9_step) {f_X7_readLine : List Value → ab_H → Option ab_O} (h_X7_readLine : ab_M l b D ab_cl cA (ab_E0 b) yX7_readLine (Cond.code yX7_readLine cX7_readLine 2 (some .boolean) :: ab_G) ({ frames := 5, cells := 0, slots := 0, locals := 500 } : Room) f_X7_readLine) {f_X9_takeSign : List Value → ab_H → Option ab_O} (h_X9_takeSign : ab_M l b D ab_cl cA (ab_E0 b) yX9_takeSign (Cond.code yX9_takeSign cX9_takeSign 2 (some .boolean) :: ab_G) ({ frames := 2, cells := 0, slots := 0, locals := 200 } : Room) f_X9_takeSign) : ab_M l b D ab_cl cA (ab_E0 b) yX7_readText (Cond.code yX7_readText cX7_readText 3 (some .int) :: ab_G) ({ frames := 6, cells := 0, slots := 0, locals := 600 } : Room) (ab_X (ab_T (L_X7_readText f_X7_clear f_X9_step f_X7_readLine f_X9_takeSign)) 3) := by
  refine ab_meth (ret := (some .int)) (L_X7_readText f_X7_clear f_X9_step f_X7_readLine f_X9_takeSign) (by decide) rfl fun p e R s m args below meth c o C => ?_
  unfold L_X7_readText
  refine List.forall_mem_cons.mpr ⟨ok_aload_n C (show decode cX7_readText 0 = .ok (.aload_n 0, 1) by decide +kernel) rfl rfl, ?_⟩
  refine List.forall_mem_cons.mpr ⟨ok_callV C h_X7_clear ⟨rfl, rfl⟩ rfl kw_495 kw_492 kw_494 kp_5 kw_9 rfl ds_X7_clear ⟨by decide, by decide⟩ (show decode cX7_readText 1 = .ok (.invokevirtual 73, 3) by decide +kernel) rfl, ?_⟩
  refine List.forall_mem_cons.mpr ⟨ok_iconst C (show decode cX7_readText 4 = .ok (.iconst 0, 1) by decide +kernel) (by decide) rfl, ?_⟩
  refine List.forall_mem_cons.mpr ⟨ok_istore_n C (show decode cX7_readText 5 = .ok (.istore_n 2, 1) by decide +kernel) rfl (by decide) rfl, ?_⟩
  refine List.forall_mem_cons.mpr ⟨ok_iload_n C (show decode cX7_readText 6 = .ok (.iload_n 2, 1) by decide +kernel) rfl rfl, ?_⟩
  refine List.forall_mem_cons.mpr ⟨ok_sipush C (show decode cX7_readText 7 = .ok (.sipush 900, 3) by decide +kernel) (by decide) rfl, ?_⟩
  refine List.forall_mem_cons.mpr ⟨ok_icmpgt C (show decode cX7_readText 10 = .ok (.if_icmp .gt 41, 3) by decide +kernel) (tg := 51) (by decide) rfl rfl, ?_⟩
  refine List.forall_mem_cons.mpr ⟨ok_aload_n C (show decode cX7_readText 13 = .ok (.aload_n 1, 1) by decide +kernel) rfl rfl, ?_⟩
  refine List.forall_mem_cons.mpr ⟨ok_callV C h_X9_step ⟨rfl, rfl⟩ rfl kw_499 kw_496 kw_497 kw_498 kw_3 rfl ds_X9_step ⟨by decide, by decide⟩ (show decode cX7_readText 14 = .ok (.invokevirtual 76, 3) by decide +kernel) rfl, ?_⟩
  refine List.forall_mem_cons.mpr ⟨ok_aload_n C (show decode cX7_readText 17 = .ok (.aload_n 1, 1) by decide +kernel) rfl rfl, ?_⟩
  refine List.forall_mem_cons.mpr ⟨ok_getf C (wi_X9) rfl (by decide) kw_64 (show decode cX7_readText 18 = .ok (.getfield 81, 3) by decide +kernel) rfl, ?_⟩
  refine List.forall_mem_cons.mpr ⟨ok_ifne C (show decode cX7_readText 21 = .ok (.ifCond .ne 5, 3) by decide +kernel) (tg := 26) (by decide) rfl rfl, ?_⟩
  refine List.forall_mem_cons.mpr ⟨ok_iload_n C (show decode cX7_readText 24 = .ok (.iload_n 2, 1) by decide +kernel) rfl rfl, ?_⟩
  refine List.forall_mem_cons.mpr ⟨ok_ret C rfl (show decode cX7_readText 25 = .ok (.ireturn, 1) by decide +kernel), ?_⟩
  refine List.forall_mem_cons.mpr ⟨ok_aload_n C (show decode cX7_readText 26 = .ok (.aload_n 0, 1) by decide +kernel) rfl rfl, ?_⟩
  refine List.forall_mem_cons.mpr ⟨ok_aload_n C (show decode cX7_readText 27 = .ok (.aload_n 1, 1) by decide +kernel) rfl rfl, ?_⟩
  refine List.forall_mem_cons.mpr ⟨ok_callV C h_X7_readLine ⟨rfl, rfl⟩ rfl kw_503 kw_500 kw_502 kp_6 kw_9 rfl ds_X7_readLine ⟨by decide, by decide⟩ (show decode cX7_readText 28 = .ok (.invokevirtual 84, 3) by decide +kernel) rfl, ?_⟩
  refine List.forall_mem_cons.mpr ⟨ok_ifeq C (show decode cX7_readText 31 = .ok (.ifCond .eq 12, 3) by decide +kernel) (tg := 43) (by decide) rfl rfl, ?_⟩
  refine List.forall_mem_cons.mpr ⟨ok_aload_n C (show decode cX7_readText 34 = .ok (.aload_n 1, 1) by decide +kernel) rfl rfl, ?_⟩
  refine List.forall_mem_cons.mpr ⟨ok_bipush C (show decode cX7_readText 35 = .ok (.bipush 59, 2) by decide +kernel) (by decide) rfl, ?_⟩
  refine List.forall_mem_cons.mpr ⟨ok_callV C h_X9_takeSign ⟨rfl, rfl⟩ rfl kw_568 kw_565 kw_566 kw_567 kw_3 rfl ds_X9_takeSign ⟨by decide, by decide⟩ (show decode cX7_readText 37 = .ok (.invokevirtual 88, 3) by decide +kernel) rfl, ?_⟩
  refine List.forall_mem_cons.mpr ⟨ok_ifne C (show decode cX7_readText 40 = .ok (.ifCond .ne 5, 3) by decide +kernel) (tg := 45) (by decide) rfl rfl, ?_⟩
  refine List.forall_mem_cons.mpr ⟨ok_iconst C (show decode cX7_readText 43 = .ok (.iconst (-1), 1) by decide +kernel) (by decide) rfl, ?_⟩
  refine List.forall_mem_cons.mpr ⟨ok_ret C rfl (show decode cX7_readText 44 = .ok (.ireturn, 1) by decide +kernel), ?_⟩
  refine List.forall_mem_cons.mpr ⟨ok_iinc C (show decode cX7_readText 45 = .ok (.iinc 2 1, 3) by decide +kernel) (by decide) (by decide) rfl, ?_⟩
  refine List.forall_mem_cons.mpr ⟨ok_goto C (show decode cX7_readText 48 = .ok (.goto (-42), 3) by decide +kernel) (tg := 6) (by decide) rfl, ?_⟩
  refine List.forall_mem_cons.mpr ⟨ok_iconst C (show decode cX7_readText 51 = .ok (.iconst (-1), 1) by decide +kernel) (by decide) rfl, ?_⟩
  refine List.forall_mem_cons.mpr ⟨ok_ret C rfl (show decode cX7_readText 52 = .ok (.ireturn, 1) by decide +kernel), ?_⟩
  exact fun _ h => absurd h List.not_mem_nil
def L_X8_init : List (Nat × ab_A) := [
  (0, ab_nx 1 (ab_aload 0)),
  (1, ab_nx 4 ab_obj),
  (4, ab_nx 5 (ab_aload 0)),
  (5, ab_nx 8 (ab_lit (.int 940))),
  (8, ab_nx 10 (ab_newa 0 (fun n => (n, .inl (fun _ => 0))) 1 940)),
  (10, ab_nx 13 (ab_putf 8 0 2)),
  (13, ab_vret 1 940)]
set_option maxRecDepth 100000 in
set_option maxHeartbeats 4000000 in
theorem M_X8_init {l : Launch} {b : ab_B} {D : va_G} {cA : Nat → ClassId} : ab_M l b D ab_cl cA (ab_E0 b) yX8_init (Cond.code yX8_init cX8_init 1 none :: ab_G) ({ frames := 2, cells := 1, slots := 940, locals := 200 } : Room) (ab_X (ab_T L_X8_init) 1) := by
  refine ab_meth (ret := none) L_X8_init (by decide) rfl fun p e R s m args below meth c o C => ?_
  unfold L_X8_init
  refine List.forall_mem_cons.mpr ⟨ok_aload_n C (show decode cX8_init 0 = .ok (.aload_n 0, 1) by decide +kernel) rfl rfl, ?_⟩
  refine List.forall_mem_cons.mpr ⟨ok_obj C kw_37 kw_30 kw_31 ⟨by decide, by decide⟩ (show decode cX8_init 1 = .ok (.invokespecial 3, 3) by decide +kernel) rfl, ?_⟩
  refine List.forall_mem_cons.mpr ⟨ok_aload_n C (show decode cX8_init 4 = .ok (.aload_n 0, 1) by decide +kernel) rfl rfl, ?_⟩
  refine List.forall_mem_cons.mpr ⟨ok_sipush C (show decode cX8_init 5 = .ok (.sipush 940, 3) by decide +kernel) (by decide) rfl, ?_⟩
  refine List.forall_mem_cons.mpr ⟨ok_newa_byte C kw_49 (show decode cX8_init 8 = .ok (.newarray .byte, 2) by decide +kernel) rfl, ?_⟩
  refine List.forall_mem_cons.mpr ⟨ok_putf C (wi_X8) tyX8 tyX8_ok nmX8 rfl (by decide) kw_38 (Or.inr ⟨rfl, cx_name C, rfl⟩) (Or.inr (Or.inr (Or.inl ⟨rfl, Or.inr ⟨_, rfl⟩⟩))) (show decode cX8_init 10 = .ok (.putfield 9, 3) by decide +kernel) rfl, ?_⟩
  refine List.forall_mem_cons.mpr ⟨ok_vret C rfl (show decode cX8_init 13 = .ok (.return_, 1) by decide +kernel), ?_⟩
  exact fun _ h => absurd h List.not_mem_nil
def L_X8_put : List (Nat × ab_A) := [
  (0, ab_nx 2 (ab_lit (.int 24))),
  (2, ab_nx 3 (ab_istore 2)),
  (3, ab_nx 4 (ab_iload 2)),
  (4, ab_if 7 46 (fun x => decide (x < 0))),
  (7, ab_nx 8 (ab_aload 0)),
  (8, ab_nx 11 (ab_getf 8 1)),
  (11, ab_nx 14 (ab_lit (.int 940))),
  (14, ab_icmp 17 46 (fun x y => decide (y ≤ x))),
  (17, ab_nx 18 (ab_aload 0)),
  (18, ab_nx 21 (ab_getf 8 0)),
  (21, ab_nx 22 (ab_aload 0)),
  (22, ab_nx 25 (ab_getf 8 1)),
  (25, ab_nx 26 (ab_iload 1)),
  (26, ab_nx 27 (ab_iload 2)),
  (27, ab_nx 28 (ab_bin (fun x y => x >>> (y &&& 31)))),
  (28, ab_nx 29 (ab_un (fun x => x.toInt8.toInt32))),
  (29, ab_nx 30 (ab_ast 0)),
  (30, ab_nx 31 (ab_aload 0)),
  (31, ab_nx 32 ab_dup),
  (32, ab_nx 35 (ab_getf 8 1)),
  (35, ab_nx 36 (ab_lit (.int 1))),
  (36, ab_nx 37 (ab_bin (fun x y => x + y))),
  (37, ab_nx 40 (ab_putf 8 1 0)),
  (40, ab_nx 43 (ab_iinc 2 (-8))),
  (43, ab_goto 3),
  (46, ab_vret 0 0)]
set_option maxRecDepth 100000 in
set_option maxHeartbeats 4000000 in
theorem M_X8_put {l : Launch} {b : ab_B} {D : va_G} {cA : Nat → ClassId} : ab_M l b D ab_cl cA (ab_E0 b) yX8_put (Cond.code yX8_put cX8_put 3 none :: ab_G) ({ frames := 1, cells := 0, slots := 0, locals := 100 } : Room) (ab_X (ab_T L_X8_put) 3) := by
  refine ab_meth (ret := none) L_X8_put (by decide) rfl fun p e R s m args below meth c o C => ?_
  unfold L_X8_put
  refine List.forall_mem_cons.mpr ⟨ok_bipush C (show decode cX8_put 0 = .ok (.bipush 24, 2) by decide +kernel) (by decide) rfl, ?_⟩
  refine List.forall_mem_cons.mpr ⟨ok_istore_n C (show decode cX8_put 2 = .ok (.istore_n 2, 1) by decide +kernel) rfl (by decide) rfl, ?_⟩
  refine List.forall_mem_cons.mpr ⟨ok_iload_n C (show decode cX8_put 3 = .ok (.iload_n 2, 1) by decide +kernel) rfl rfl, ?_⟩
  refine List.forall_mem_cons.mpr ⟨ok_iflt C (show decode cX8_put 4 = .ok (.ifCond .lt 42, 3) by decide +kernel) (tg := 46) (by decide) rfl rfl, ?_⟩
  refine List.forall_mem_cons.mpr ⟨ok_aload_n C (show decode cX8_put 7 = .ok (.aload_n 0, 1) by decide +kernel) rfl rfl, ?_⟩
  refine List.forall_mem_cons.mpr ⟨ok_getf C (wi_X8) rfl (by decide) kw_40 (show decode cX8_put 8 = .ok (.getfield 15, 3) by decide +kernel) rfl, ?_⟩
  refine List.forall_mem_cons.mpr ⟨ok_sipush C (show decode cX8_put 11 = .ok (.sipush 940, 3) by decide +kernel) (by decide) rfl, ?_⟩
  refine List.forall_mem_cons.mpr ⟨ok_icmpge C (show decode cX8_put 14 = .ok (.if_icmp .ge 32, 3) by decide +kernel) (tg := 46) (by decide) rfl rfl, ?_⟩
  refine List.forall_mem_cons.mpr ⟨ok_aload_n C (show decode cX8_put 17 = .ok (.aload_n 0, 1) by decide +kernel) rfl rfl, ?_⟩
  refine List.forall_mem_cons.mpr ⟨ok_getf C (wi_X8) rfl (by decide) kw_38 (show decode cX8_put 18 = .ok (.getfield 9, 3) by decide +kernel) rfl, ?_⟩
  refine List.forall_mem_cons.mpr ⟨ok_aload_n C (show decode cX8_put 21 = .ok (.aload_n 0, 1) by decide +kernel) rfl rfl, ?_⟩
  refine List.forall_mem_cons.mpr ⟨ok_getf C (wi_X8) rfl (by decide) kw_40 (show decode cX8_put 22 = .ok (.getfield 15, 3) by decide +kernel) rfl, ?_⟩
  refine List.forall_mem_cons.mpr ⟨ok_iload_n C (show decode cX8_put 25 = .ok (.iload_n 1, 1) by decide +kernel) rfl rfl, ?_⟩
  refine List.forall_mem_cons.mpr ⟨ok_iload_n C (show decode cX8_put 26 = .ok (.iload_n 2, 1) by decide +kernel) rfl rfl, ?_⟩
  refine List.forall_mem_cons.mpr ⟨ok_ishr C (show decode cX8_put 27 = .ok (.ishr, 1) by decide +kernel) rfl, ?_⟩
  refine List.forall_mem_cons.mpr ⟨ok_i2b C (show decode cX8_put 28 = .ok (.i2b, 1) by decide +kernel) rfl, ?_⟩
  refine List.forall_mem_cons.mpr ⟨ok_bastore C (show decode cX8_put 29 = .ok (.bastore, 1) by decide +kernel) rfl, ?_⟩
  refine List.forall_mem_cons.mpr ⟨ok_aload_n C (show decode cX8_put 30 = .ok (.aload_n 0, 1) by decide +kernel) rfl rfl, ?_⟩
  refine List.forall_mem_cons.mpr ⟨ok_dup C (show decode cX8_put 31 = .ok (.dup, 1) by decide +kernel) rfl, ?_⟩
  refine List.forall_mem_cons.mpr ⟨ok_getf C (wi_X8) rfl (by decide) kw_40 (show decode cX8_put 32 = .ok (.getfield 15, 3) by decide +kernel) rfl, ?_⟩
  refine List.forall_mem_cons.mpr ⟨ok_iconst C (show decode cX8_put 35 = .ok (.iconst 1, 1) by decide +kernel) (by decide) rfl, ?_⟩
  refine List.forall_mem_cons.mpr ⟨ok_iadd C (show decode cX8_put 36 = .ok (.iadd, 1) by decide +kernel) rfl, ?_⟩
  refine List.forall_mem_cons.mpr ⟨ok_putf C (wi_X8) tyX8 tyX8_ok nmX8 rfl (by decide) kw_40 (Or.inl rfl) (Or.inl ⟨rfl, rfl⟩) (show decode cX8_put 37 = .ok (.putfield 15, 3) by decide +kernel) rfl, ?_⟩
  refine List.forall_mem_cons.mpr ⟨ok_iinc C (show decode cX8_put 40 = .ok (.iinc 2 (-8), 3) by decide +kernel) (by decide) (by decide) rfl, ?_⟩
  refine List.forall_mem_cons.mpr ⟨ok_goto C (show decode cX8_put 43 = .ok (.goto (-40), 3) by decide +kernel) (tg := 3) (by decide) rfl, ?_⟩
  refine List.forall_mem_cons.mpr ⟨ok_vret C rfl (show decode cX8_put 46 = .ok (.return_, 1) by decide +kernel), ?_⟩
  exact fun _ h => absurd h List.not_mem_nil
def L_X8_valueAt : List (Nat × ab_A) := [
  (0, ab_nx 1 (ab_iload 1)),
  (1, ab_if 4 24 (fun x => decide (x < 0))),
  (4, ab_nx 5 (ab_iload 1)),
  (5, ab_nx 8 (ab_lit (.int 940))),
  (8, ab_icmp 11 24 (fun x y => decide (y ≤ x))),
  (11, ab_nx 12 (ab_aload 0)),
  (12, ab_nx 15 (ab_getf 8 0)),
  (15, ab_nx 16 (ab_iload 1)),
  (16, ab_nx 17 (ab_ald 0)),
  (17, ab_nx 20 (ab_lit (.int 255))),
  (20, ab_nx 21 (ab_bin (fun x y => x &&& y))),
  (21, ab_goto 25),
  (24, ab_nx 25 (ab_lit (.int 0))),
  (25, ab_ret 0 0)]
set_option maxRecDepth 100000 in
set_option maxHeartbeats 4000000 in
theorem M_X8_valueAt {l : Launch} {b : ab_B} {D : va_G} {cA : Nat → ClassId} : ab_M l b D ab_cl cA (ab_E0 b) yX8_valueAt (Cond.code yX8_valueAt cX8_valueAt 2 (some .int) :: ab_G) ({ frames := 1, cells := 0, slots := 0, locals := 100 } : Room) (ab_X (ab_T L_X8_valueAt) 2) := by
  refine ab_meth (ret := (some .int)) L_X8_valueAt (by decide) rfl fun p e R s m args below meth c o C => ?_
  unfold L_X8_valueAt
  refine List.forall_mem_cons.mpr ⟨ok_iload_n C (show decode cX8_valueAt 0 = .ok (.iload_n 1, 1) by decide +kernel) rfl rfl, ?_⟩
  refine List.forall_mem_cons.mpr ⟨ok_iflt C (show decode cX8_valueAt 1 = .ok (.ifCond .lt 23, 3) by decide +kernel) (tg := 24) (by decide) rfl rfl, ?_⟩
  refine List.forall_mem_cons.mpr ⟨ok_iload_n C (show decode cX8_valueAt 4 = .ok (.iload_n 1, 1) by decide +kernel) rfl rfl, ?_⟩
  refine List.forall_mem_cons.mpr ⟨ok_sipush C (show decode cX8_valueAt 5 = .ok (.sipush 940, 3) by decide +kernel) (by decide) rfl, ?_⟩
  refine List.forall_mem_cons.mpr ⟨ok_icmpge C (show decode cX8_valueAt 8 = .ok (.if_icmp .ge 16, 3) by decide +kernel) (tg := 24) (by decide) rfl rfl, ?_⟩
  refine List.forall_mem_cons.mpr ⟨ok_aload_n C (show decode cX8_valueAt 11 = .ok (.aload_n 0, 1) by decide +kernel) rfl rfl, ?_⟩
  refine List.forall_mem_cons.mpr ⟨ok_getf C (wi_X8) rfl (by decide) kw_38 (show decode cX8_valueAt 12 = .ok (.getfield 9, 3) by decide +kernel) rfl, ?_⟩
  refine List.forall_mem_cons.mpr ⟨ok_iload_n C (show decode cX8_valueAt 15 = .ok (.iload_n 1, 1) by decide +kernel) rfl rfl, ?_⟩
  refine List.forall_mem_cons.mpr ⟨ok_baload C (show decode cX8_valueAt 16 = .ok (.baload, 1) by decide +kernel) rfl, ?_⟩
  refine List.forall_mem_cons.mpr ⟨ok_sipush C (show decode cX8_valueAt 17 = .ok (.sipush 255, 3) by decide +kernel) (by decide) rfl, ?_⟩
  refine List.forall_mem_cons.mpr ⟨ok_iand C (show decode cX8_valueAt 20 = .ok (.iand, 1) by decide +kernel) rfl, ?_⟩
  refine List.forall_mem_cons.mpr ⟨ok_goto C (show decode cX8_valueAt 21 = .ok (.goto 4, 3) by decide +kernel) (tg := 25) (by decide) rfl, ?_⟩
  refine List.forall_mem_cons.mpr ⟨ok_iconst C (show decode cX8_valueAt 24 = .ok (.iconst 0, 1) by decide +kernel) (by decide) rfl, ?_⟩
  refine List.forall_mem_cons.mpr ⟨ok_ret C rfl (show decode cX8_valueAt 25 = .ok (.ireturn, 1) by decide +kernel), ?_⟩
  exact fun _ h => absurd h List.not_mem_nil
def L_X9_clear : List (Nat × ab_A) := [
  (0, ab_nx 1 (ab_aload 0)),
  (1, ab_nx 2 (ab_lit (.int 0))),
  (2, ab_nx 5 (ab_putf 9 3 0)),
  (5, ab_nx 6 (ab_aload 0)),
  (6, ab_nx 7 (ab_lit (.int 0))),
  (7, ab_nx 10 (ab_putf 9 4 0)),
  (10, ab_nx 11 (ab_aload 0)),
  (11, ab_nx 12 (ab_lit (.int 0))),
  (12, ab_nx 15 (ab_putf 9 9 0)),
  (15, ab_vret 0 0)]
set_option maxRecDepth 100000 in
set_option maxHeartbeats 4000000 in
theorem M_X9_clear {l : Launch} {b : ab_B} {D : va_G} {cA : Nat → ClassId} : ab_M l b D ab_cl cA (ab_E0 b) yX9_clear (Cond.code yX9_clear cX9_clear 1 none :: ab_G) ({ frames := 1, cells := 0, slots := 0, locals := 100 } : Room) (ab_X (ab_T L_X9_clear) 1) := by
  refine ab_meth (ret := none) L_X9_clear (by decide) rfl fun p e R s m args below meth c o C => ?_
  unfold L_X9_clear
  refine List.forall_mem_cons.mpr ⟨ok_aload_n C (show decode cX9_clear 0 = .ok (.aload_n 0, 1) by decide +kernel) rfl rfl, ?_⟩
  refine List.forall_mem_cons.mpr ⟨ok_iconst C (show decode cX9_clear 1 = .ok (.iconst 0, 1) by decide +kernel) (by decide) rfl, ?_⟩
  refine List.forall_mem_cons.mpr ⟨ok_putf C (wi_X9) tyX9 tyX9_ok nmX9 rfl (by decide) kw_59 (Or.inl rfl) (Or.inl ⟨rfl, rfl⟩) (show decode cX9_clear 2 = .ok (.putfield 22, 3) by decide +kernel) rfl, ?_⟩
  refine List.forall_mem_cons.mpr ⟨ok_aload_n C (show decode cX9_clear 5 = .ok (.aload_n 0, 1) by decide +kernel) rfl rfl, ?_⟩
  refine List.forall_mem_cons.mpr ⟨ok_iconst C (show decode cX9_clear 6 = .ok (.iconst 0, 1) by decide +kernel) (by decide) rfl, ?_⟩
  refine List.forall_mem_cons.mpr ⟨ok_putf C (wi_X9) tyX9 tyX9_ok nmX9 rfl (by decide) kw_60 (Or.inl rfl) (Or.inl ⟨rfl, rfl⟩) (show decode cX9_clear 7 = .ok (.putfield 26, 3) by decide +kernel) rfl, ?_⟩
  refine List.forall_mem_cons.mpr ⟨ok_aload_n C (show decode cX9_clear 10 = .ok (.aload_n 0, 1) by decide +kernel) rfl rfl, ?_⟩
  refine List.forall_mem_cons.mpr ⟨ok_iconst C (show decode cX9_clear 11 = .ok (.iconst 0, 1) by decide +kernel) (by decide) rfl, ?_⟩
  refine List.forall_mem_cons.mpr ⟨ok_putf C (wi_X9) tyX9 tyX9_ok nmX9 rfl (by decide) kw_74 (Or.inl rfl) (Or.inl ⟨rfl, rfl⟩) (show decode cX9_clear 12 = .ok (.putfield 29, 3) by decide +kernel) rfl, ?_⟩
  refine List.forall_mem_cons.mpr ⟨ok_vret C rfl (show decode cX9_clear 15 = .ok (.return_, 1) by decide +kernel), ?_⟩
  exact fun _ h => absurd h List.not_mem_nil
def L_X8_skipBlanks (f_X8_valueAt : List Value → ab_H → Option ab_O) : List (Nat × ab_A) := [
  (0, ab_nx 1 (ab_aload 0)),
  (1, ab_nx 4 (ab_getf 8 2)),
  (4, ab_nx 5 (ab_aload 0)),
  (5, ab_nx 8 (ab_getf 8 1)),
  (8, ab_icmp 11 50 (fun x y => decide (y ≤ x))),
  (11, ab_nx 12 (ab_aload 0)),
  (12, ab_nx 13 (ab_aload 0)),
  (13, ab_nx 16 (ab_getf 8 2)),
  (16, ab_nx 19 (ab_callV 2 8 f_X8_valueAt 0 0 0 0)),
  (19, ab_nx 21 (ab_lit (.int 32))),
  (21, ab_icmp 24 37 (fun x y => decide (x = y))),
  (24, ab_nx 25 (ab_aload 0)),
  (25, ab_nx 26 (ab_aload 0)),
  (26, ab_nx 29 (ab_getf 8 2)),
  (29, ab_nx 32 (ab_callV 2 8 f_X8_valueAt 0 0 0 0)),
  (32, ab_nx 34 (ab_lit (.int 10))),
  (34, ab_icmp 37 50 (fun x y => !decide (x = y))),
  (37, ab_nx 38 (ab_aload 0)),
  (38, ab_nx 39 ab_dup),
  (39, ab_nx 42 (ab_getf 8 2)),
  (42, ab_nx 43 (ab_lit (.int 1))),
  (43, ab_nx 44 (ab_bin (fun x y => x + y))),
  (44, ab_nx 47 (ab_putf 8 2 0)),
  (47, ab_goto 0),
  (50, ab_vret 0 0)]
set_option maxRecDepth 100000 in
set_option maxHeartbeats 4000000 in
theorem M_X8_skipBlanks {l : Launch} {b : ab_B} {D : va_G} {cA : Nat → ClassId} {f_X8_valueAt : List Value → ab_H → Option ab_O} (h_X8_valueAt : ab_M l b D ab_cl cA (ab_E0 b) yX8_valueAt (Cond.code yX8_valueAt cX8_valueAt 2 (some .int) :: ab_G) ({ frames := 1, cells := 0, slots := 0, locals := 100 } : Room) f_X8_valueAt) : ab_M l b D ab_cl cA (ab_E0 b) yX8_skipBlanks (Cond.code yX8_skipBlanks cX8_skipBlanks 1 none :: ab_G) ({ frames := 2, cells := 0, slots := 0, locals := 200 } : Room) (ab_X (ab_T (L_X8_skipBlanks f_X8_valueAt)) 1) := by
  refine ab_meth (ret := none) (L_X8_skipBlanks f_X8_valueAt) (by decide) rfl fun p e R s m args below meth c o C => ?_
  unfold L_X8_skipBlanks
  refine List.forall_mem_cons.mpr ⟨ok_aload_n C (show decode cX8_skipBlanks 0 = .ok (.aload_n 0, 1) by decide +kernel) rfl rfl, ?_⟩
  refine List.forall_mem_cons.mpr ⟨ok_getf C (wi_X8) rfl (by decide) kw_41 (show decode cX8_skipBlanks 1 = .ok (.getfield 24, 3) by decide +kernel) rfl, ?_⟩
  refine List.forall_mem_cons.mpr ⟨ok_aload_n C (show decode cX8_skipBlanks 4 = .ok (.aload_n 0, 1) by decide +kernel) rfl rfl, ?_⟩
  refine List.forall_mem_cons.mpr ⟨ok_getf C (wi_X8) rfl (by decide) kw_40 (show decode cX8_skipBlanks 5 = .ok (.getfield 15, 3) by decide +kernel) rfl, ?_⟩
  refine List.forall_mem_cons.mpr ⟨ok_icmpge C (show decode cX8_skipBlanks 8 = .ok (.if_icmp .ge 42, 3) by decide +kernel) (tg := 50) (by decide) rfl rfl, ?_⟩
  refine List.forall_mem_cons.mpr ⟨ok_aload_n C (show decode cX8_skipBlanks 11 = .ok (.aload_n 0, 1) by decide +kernel) rfl rfl, ?_⟩
  refine List.forall_mem_cons.mpr ⟨ok_aload_n C (show decode cX8_skipBlanks 12 = .ok (.aload_n 0, 1) by decide +kernel) rfl rfl, ?_⟩
  refine List.forall_mem_cons.mpr ⟨ok_getf C (wi_X8) rfl (by decide) kw_41 (show decode cX8_skipBlanks 13 = .ok (.getfield 24, 3) by decide +kernel) rfl, ?_⟩
  refine List.forall_mem_cons.mpr ⟨ok_callV C h_X8_valueAt ⟨rfl, rfl⟩ rfl kw_404 kw_401 kw_402 kw_403 kw_2 rfl ds_X8_valueAt ⟨by decide, by decide⟩ (show decode cX8_skipBlanks 16 = .ok (.invokevirtual 44, 3) by decide +kernel) rfl, ?_⟩
  refine List.forall_mem_cons.mpr ⟨ok_bipush C (show decode cX8_skipBlanks 19 = .ok (.bipush 32, 2) by decide +kernel) (by decide) rfl, ?_⟩
  refine List.forall_mem_cons.mpr ⟨ok_icmpeq C (show decode cX8_skipBlanks 21 = .ok (.if_icmp .eq 16, 3) by decide +kernel) (tg := 37) (by decide) rfl rfl, ?_⟩
  refine List.forall_mem_cons.mpr ⟨ok_aload_n C (show decode cX8_skipBlanks 24 = .ok (.aload_n 0, 1) by decide +kernel) rfl rfl, ?_⟩
  refine List.forall_mem_cons.mpr ⟨ok_aload_n C (show decode cX8_skipBlanks 25 = .ok (.aload_n 0, 1) by decide +kernel) rfl rfl, ?_⟩
  refine List.forall_mem_cons.mpr ⟨ok_getf C (wi_X8) rfl (by decide) kw_41 (show decode cX8_skipBlanks 26 = .ok (.getfield 24, 3) by decide +kernel) rfl, ?_⟩
  refine List.forall_mem_cons.mpr ⟨ok_callV C h_X8_valueAt ⟨rfl, rfl⟩ rfl kw_404 kw_401 kw_402 kw_403 kw_2 rfl ds_X8_valueAt ⟨by decide, by decide⟩ (show decode cX8_skipBlanks 29 = .ok (.invokevirtual 44, 3) by decide +kernel) rfl, ?_⟩
  refine List.forall_mem_cons.mpr ⟨ok_bipush C (show decode cX8_skipBlanks 32 = .ok (.bipush 10, 2) by decide +kernel) (by decide) rfl, ?_⟩
  refine List.forall_mem_cons.mpr ⟨ok_icmpne C (show decode cX8_skipBlanks 34 = .ok (.if_icmp .ne 16, 3) by decide +kernel) (tg := 50) (by decide) rfl rfl, ?_⟩
  refine List.forall_mem_cons.mpr ⟨ok_aload_n C (show decode cX8_skipBlanks 37 = .ok (.aload_n 0, 1) by decide +kernel) rfl rfl, ?_⟩
  refine List.forall_mem_cons.mpr ⟨ok_dup C (show decode cX8_skipBlanks 38 = .ok (.dup, 1) by decide +kernel) rfl, ?_⟩
  refine List.forall_mem_cons.mpr ⟨ok_getf C (wi_X8) rfl (by decide) kw_41 (show decode cX8_skipBlanks 39 = .ok (.getfield 24, 3) by decide +kernel) rfl, ?_⟩
  refine List.forall_mem_cons.mpr ⟨ok_iconst C (show decode cX8_skipBlanks 42 = .ok (.iconst 1, 1) by decide +kernel) (by decide) rfl, ?_⟩
  refine List.forall_mem_cons.mpr ⟨ok_iadd C (show decode cX8_skipBlanks 43 = .ok (.iadd, 1) by decide +kernel) rfl, ?_⟩
  refine List.forall_mem_cons.mpr ⟨ok_putf C (wi_X8) tyX8 tyX8_ok nmX8 rfl (by decide) kw_41 (Or.inl rfl) (Or.inl ⟨rfl, rfl⟩) (show decode cX8_skipBlanks 44 = .ok (.putfield 24, 3) by decide +kernel) rfl, ?_⟩
  refine List.forall_mem_cons.mpr ⟨ok_goto C (show decode cX8_skipBlanks 47 = .ok (.goto (-47), 3) by decide +kernel) (tg := 0) (by decide) rfl, ?_⟩
  refine List.forall_mem_cons.mpr ⟨ok_vret C rfl (show decode cX8_skipBlanks 50 = .ok (.return_, 1) by decide +kernel), ?_⟩
  exact fun _ h => absurd h List.not_mem_nil
def L_X8_isLetter : List (Nat × ab_A) := [
  (0, ab_nx 1 (ab_iload 0)),
  (1, ab_nx 3 (ab_lit (.int 97))),
  (3, ab_icmp 6 16 (fun x y => decide (x < y))),
  (6, ab_nx 7 (ab_iload 0)),
  (7, ab_nx 9 (ab_lit (.int 122))),
  (9, ab_icmp 12 16 (fun x y => decide (y < x))),
  (12, ab_nx 13 (ab_lit (.int 1))),
  (13, ab_goto 17),
  (16, ab_nx 17 (ab_lit (.int 0))),
  (17, ab_zret 0 0)]
set_option maxRecDepth 100000 in
set_option maxHeartbeats 4000000 in
theorem M_X8_isLetter {l : Launch} {b : ab_B} {D : va_G} {cA : Nat → ClassId} : ab_M l b D ab_cl cA (ab_E0 b) yX8_isLetter (Cond.code yX8_isLetter cX8_isLetter 1 (some .boolean) :: ab_G) ({ frames := 1, cells := 0, slots := 0, locals := 100 } : Room) (ab_X (ab_T L_X8_isLetter) 1) := by
  refine ab_meth (ret := (some .boolean)) L_X8_isLetter (by decide) rfl fun p e R s m args below meth c o C => ?_
  unfold L_X8_isLetter
  refine List.forall_mem_cons.mpr ⟨ok_iload_n C (show decode cX8_isLetter 0 = .ok (.iload_n 0, 1) by decide +kernel) rfl rfl, ?_⟩
  refine List.forall_mem_cons.mpr ⟨ok_bipush C (show decode cX8_isLetter 1 = .ok (.bipush 97, 2) by decide +kernel) (by decide) rfl, ?_⟩
  refine List.forall_mem_cons.mpr ⟨ok_icmplt C (show decode cX8_isLetter 3 = .ok (.if_icmp .lt 13, 3) by decide +kernel) (tg := 16) (by decide) rfl rfl, ?_⟩
  refine List.forall_mem_cons.mpr ⟨ok_iload_n C (show decode cX8_isLetter 6 = .ok (.iload_n 0, 1) by decide +kernel) rfl rfl, ?_⟩
  refine List.forall_mem_cons.mpr ⟨ok_bipush C (show decode cX8_isLetter 7 = .ok (.bipush 122, 2) by decide +kernel) (by decide) rfl, ?_⟩
  refine List.forall_mem_cons.mpr ⟨ok_icmpgt C (show decode cX8_isLetter 9 = .ok (.if_icmp .gt 7, 3) by decide +kernel) (tg := 16) (by decide) rfl rfl, ?_⟩
  refine List.forall_mem_cons.mpr ⟨ok_iconst C (show decode cX8_isLetter 12 = .ok (.iconst 1, 1) by decide +kernel) (by decide) rfl, ?_⟩
  refine List.forall_mem_cons.mpr ⟨ok_goto C (show decode cX8_isLetter 13 = .ok (.goto 4, 3) by decide +kernel) (tg := 17) (by decide) rfl, ?_⟩
  refine List.forall_mem_cons.mpr ⟨ok_iconst C (show decode cX8_isLetter 16 = .ok (.iconst 0, 1) by decide +kernel) (by decide) rfl, ?_⟩
  refine List.forall_mem_cons.mpr ⟨ok_zret C rfl (show decode cX8_isLetter 17 = .ok (.ireturn, 1) by decide +kernel), ?_⟩
  exact fun _ h => absurd h List.not_mem_nil
def L_X8_isDigit : List (Nat × ab_A) := [
  (0, ab_nx 1 (ab_iload 0)),
  (1, ab_nx 3 (ab_lit (.int 48))),
  (3, ab_icmp 6 16 (fun x y => decide (x < y))),
  (6, ab_nx 7 (ab_iload 0)),
  (7, ab_nx 9 (ab_lit (.int 57))),
  (9, ab_icmp 12 16 (fun x y => decide (y < x))),
  (12, ab_nx 13 (ab_lit (.int 1))),
  (13, ab_goto 17),
  (16, ab_nx 17 (ab_lit (.int 0))),
  (17, ab_zret 0 0)]
set_option maxRecDepth 100000 in
set_option maxHeartbeats 4000000 in
theorem M_X8_isDigit {l : Launch} {b : ab_B} {D : va_G} {cA : Nat → ClassId} : ab_M l b D ab_cl cA (ab_E0 b) yX8_isDigit (Cond.code yX8_isDigit cX8_isDigit 1 (some .boolean) :: ab_G) ({ frames := 1, cells := 0, slots := 0, locals := 100 } : Room) (ab_X (ab_T L_X8_isDigit) 1) := by
  refine ab_meth (ret := (some .boolean)) L_X8_isDigit (by decide) rfl fun p e R s m args below meth c o C => ?_
  unfold L_X8_isDigit
  refine List.forall_mem_cons.mpr ⟨ok_iload_n C (show decode cX8_isDigit 0 = .ok (.iload_n 0, 1) by decide +kernel) rfl rfl, ?_⟩
  refine List.forall_mem_cons.mpr ⟨ok_bipush C (show decode cX8_isDigit 1 = .ok (.bipush 48, 2) by decide +kernel) (by decide) rfl, ?_⟩
  refine List.forall_mem_cons.mpr ⟨ok_icmplt C (show decode cX8_isDigit 3 = .ok (.if_icmp .lt 13, 3) by decide +kernel) (tg := 16) (by decide) rfl rfl, ?_⟩
  refine List.forall_mem_cons.mpr ⟨ok_iload_n C (show decode cX8_isDigit 6 = .ok (.iload_n 0, 1) by decide +kernel) rfl rfl, ?_⟩
  refine List.forall_mem_cons.mpr ⟨ok_bipush C (show decode cX8_isDigit 7 = .ok (.bipush 57, 2) by decide +kernel) (by decide) rfl, ?_⟩
  refine List.forall_mem_cons.mpr ⟨ok_icmpgt C (show decode cX8_isDigit 9 = .ok (.if_icmp .gt 7, 3) by decide +kernel) (tg := 16) (by decide) rfl rfl, ?_⟩
  refine List.forall_mem_cons.mpr ⟨ok_iconst C (show decode cX8_isDigit 12 = .ok (.iconst 1, 1) by decide +kernel) (by decide) rfl, ?_⟩
  refine List.forall_mem_cons.mpr ⟨ok_goto C (show decode cX8_isDigit 13 = .ok (.goto 4, 3) by decide +kernel) (tg := 17) (by decide) rfl, ?_⟩
  refine List.forall_mem_cons.mpr ⟨ok_iconst C (show decode cX8_isDigit 16 = .ok (.iconst 0, 1) by decide +kernel) (by decide) rfl, ?_⟩
  refine List.forall_mem_cons.mpr ⟨ok_zret C rfl (show decode cX8_isDigit 17 = .ok (.ireturn, 1) by decide +kernel), ?_⟩
  exact fun _ h => absurd h List.not_mem_nil
def L_J0_coder_7d493 : List (Nat × ab_A) := [
  (0, ab_nx 3 (ab_lit (.int 1))),
  (3, ab_if 6 13 (fun x => decide (x = 0))),
  (6, ab_nx 7 (ab_aload 0)),
  (7, ab_nx 10 (ab_sgf 4 (.int 0))),
  (10, ab_goto 14),
  (13, ab_nx 14 (ab_lit (.int 1))),
  (14, ab_zret 0 0)]
set_option maxRecDepth 100000 in
set_option maxHeartbeats 4000000 in
theorem M_J0_coder_7d493 {l : Launch} {b : ab_B} {D : va_G} {cA : Nat → ClassId} : ab_M l b D ab_cl cA (ab_E0 b) yJ0_coder_7d493 (Cond.code yJ0_coder_7d493 cJ0_coder_7d493 1 (some .byte) :: ab_G) ({ frames := 1, cells := 0, slots := 0, locals := 100 } : Room) (ab_X (ab_T L_J0_coder_7d493) 1) := by
  refine ab_meth (ret := (some .byte)) L_J0_coder_7d493 (by decide) rfl fun p e R s m args below meth c o C => ?_
  unfold L_J0_coder_7d493
  refine List.forall_mem_cons.mpr ⟨ok_getsI C kw_438 (show decode cJ0_coder_7d493 0 = .ok (.getstatic 38, 3) by decide +kernel) rfl, ?_⟩
  refine List.forall_mem_cons.mpr ⟨ok_ifeq C (show decode cJ0_coder_7d493 3 = .ok (.ifCond .eq 10, 3) by decide +kernel) (tg := 13) (by decide) rfl rfl, ?_⟩
  refine List.forall_mem_cons.mpr ⟨ok_aload_n C (show decode cJ0_coder_7d493 6 = .ok (.aload_n 0, 1) by decide +kernel) rfl rfl, ?_⟩
  refine List.forall_mem_cons.mpr ⟨ok_sgfC C kw_1730 (show decode cJ0_coder_7d493 7 = .ok (.getfield 15, 3) by decide +kernel) rfl, ?_⟩
  refine List.forall_mem_cons.mpr ⟨ok_goto C (show decode cJ0_coder_7d493 10 = .ok (.goto 4, 3) by decide +kernel) (tg := 14) (by decide) rfl, ?_⟩
  refine List.forall_mem_cons.mpr ⟨ok_iconst C (show decode cJ0_coder_7d493 13 = .ok (.iconst 1, 1) by decide +kernel) (by decide) rfl, ?_⟩
  refine List.forall_mem_cons.mpr ⟨ok_bret C rfl (show decode cJ0_coder_7d493 14 = .ok (.ireturn, 1) by decide +kernel), ?_⟩
  exact fun _ h => absurd h List.not_mem_nil
def L_J0_length_8abf5 (f_J0_coder_7d493 : List Value → ab_H → Option ab_O) : List (Nat × ab_A) := [
  (0, ab_nx 1 (ab_aload 0)),
  (1, ab_nx 4 (ab_sgf 4 (.retAddr 5))),
  (4, ab_nx 5 (ab_sgf 5 (.int 175))),
  (5, ab_nx 6 (ab_aload 0)),
  (6, ab_nx 9 (ab_callR 1 4 f_J0_coder_7d493 0 0 0 0)),
  (9, ab_nx 10 (ab_bin (fun x y => x >>> (y &&& 31)))),
  (10, ab_ret 0 0)]
set_option maxRecDepth 100000 in
set_option maxHeartbeats 4000000 in
theorem M_J0_length_8abf5 {l : Launch} {b : ab_B} {D : va_G} {cA : Nat → ClassId} {f_J0_coder_7d493 : List Value → ab_H → Option ab_O} (h_J0_coder_7d493 : ab_M l b D ab_cl cA (ab_E0 b) yJ0_coder_7d493 (Cond.code yJ0_coder_7d493 cJ0_coder_7d493 1 (some .byte) :: ab_G) ({ frames := 1, cells := 0, slots := 0, locals := 100 } : Room) f_J0_coder_7d493) : ab_M l b D ab_cl cA (ab_E0 b) yJ0_length_8abf5 (Cond.code yJ0_length_8abf5 cJ0_length_8abf5 1 (some .int) :: ab_G) ({ frames := 2, cells := 0, slots := 0, locals := 200 } : Room) (ab_X (ab_T (L_J0_length_8abf5 f_J0_coder_7d493)) 1) := by
  refine ab_meth (ret := (some .int)) (L_J0_length_8abf5 f_J0_coder_7d493) (by decide) rfl fun p e R s m args below meth c o C => ?_
  unfold L_J0_length_8abf5
  refine List.forall_mem_cons.mpr ⟨ok_aload_n C (show decode cJ0_length_8abf5 0 = .ok (.aload_n 0, 1) by decide +kernel) rfl rfl, ?_⟩
  refine List.forall_mem_cons.mpr ⟨ok_sgfV C kw_1729 (show decode cJ0_length_8abf5 1 = .ok (.getfield 9, 3) by decide +kernel) rfl, ?_⟩
  refine List.forall_mem_cons.mpr ⟨ok_salen C (show decode cJ0_length_8abf5 4 = .ok (.arraylength, 1) by decide +kernel) rfl, ?_⟩
  refine List.forall_mem_cons.mpr ⟨ok_aload_n C (show decode cJ0_length_8abf5 5 = .ok (.aload_n 0, 1) by decide +kernel) rfl rfl, ?_⟩
  refine List.forall_mem_cons.mpr ⟨ok_callR C h_J0_coder_7d493 ⟨rfl, rfl⟩ kw_437 kw_434 kw_435 kw_436 kw_12 rfl ds_J0_coder_7d493 ⟨by decide, by decide⟩ (show decode cJ0_length_8abf5 6 = .ok (.invokevirtual 335, 3) by decide +kernel) rfl, ?_⟩
  refine List.forall_mem_cons.mpr ⟨ok_ishr C (show decode cJ0_length_8abf5 9 = .ok (.ishr, 1) by decide +kernel) rfl, ?_⟩
  refine List.forall_mem_cons.mpr ⟨ok_ret C rfl (show decode cJ0_length_8abf5 10 = .ok (.ireturn, 1) by decide +kernel), ?_⟩
  exact fun _ h => absurd h List.not_mem_nil
def L_J0_isLatin1_aae02 : List (Nat × ab_A) := [
  (0, ab_nx 3 (ab_lit (.int 1))),
  (3, ab_if 6 17 (fun x => decide (x = 0))),
  (6, ab_nx 7 (ab_aload 0)),
  (7, ab_nx 10 (ab_sgf 4 (.int 0))),
  (10, ab_if 13 17 (fun x => !decide (x = 0))),
  (13, ab_nx 14 (ab_lit (.int 1))),
  (14, ab_goto 18),
  (17, ab_nx 18 (ab_lit (.int 0))),
  (18, ab_zret 0 0)]
set_option maxRecDepth 100000 in
set_option maxHeartbeats 4000000 in
theorem M_J0_isLatin1_aae02 {l : Launch} {b : ab_B} {D : va_G} {cA : Nat → ClassId} : ab_M l b D ab_cl cA (ab_E0 b) yJ0_isLatin1_aae02 (Cond.code yJ0_isLatin1_aae02 cJ0_isLatin1_aae02 1 (some .boolean) :: ab_G) ({ frames := 1, cells := 0, slots := 0, locals := 100 } : Room) (ab_X (ab_T L_J0_isLatin1_aae02) 1) := by
  refine ab_meth (ret := (some .boolean)) L_J0_isLatin1_aae02 (by decide) rfl fun p e R s m args below meth c o C => ?_
  unfold L_J0_isLatin1_aae02
  refine List.forall_mem_cons.mpr ⟨ok_getsI C kw_438 (show decode cJ0_isLatin1_aae02 0 = .ok (.getstatic 38, 3) by decide +kernel) rfl, ?_⟩
  refine List.forall_mem_cons.mpr ⟨ok_ifeq C (show decode cJ0_isLatin1_aae02 3 = .ok (.ifCond .eq 14, 3) by decide +kernel) (tg := 17) (by decide) rfl rfl, ?_⟩
  refine List.forall_mem_cons.mpr ⟨ok_aload_n C (show decode cJ0_isLatin1_aae02 6 = .ok (.aload_n 0, 1) by decide +kernel) rfl rfl, ?_⟩
  refine List.forall_mem_cons.mpr ⟨ok_sgfC C kw_1730 (show decode cJ0_isLatin1_aae02 7 = .ok (.getfield 15, 3) by decide +kernel) rfl, ?_⟩
  refine List.forall_mem_cons.mpr ⟨ok_ifne C (show decode cJ0_isLatin1_aae02 10 = .ok (.ifCond .ne 7, 3) by decide +kernel) (tg := 17) (by decide) rfl rfl, ?_⟩
  refine List.forall_mem_cons.mpr ⟨ok_iconst C (show decode cJ0_isLatin1_aae02 13 = .ok (.iconst 1, 1) by decide +kernel) (by decide) rfl, ?_⟩
  refine List.forall_mem_cons.mpr ⟨ok_goto C (show decode cJ0_isLatin1_aae02 14 = .ok (.goto 4, 3) by decide +kernel) (tg := 18) (by decide) rfl, ?_⟩
  refine List.forall_mem_cons.mpr ⟨ok_iconst C (show decode cJ0_isLatin1_aae02 17 = .ok (.iconst 0, 1) by decide +kernel) (by decide) rfl, ?_⟩
  refine List.forall_mem_cons.mpr ⟨ok_zret C rfl (show decode cJ0_isLatin1_aae02 18 = .ok (.ireturn, 1) by decide +kernel), ?_⟩
  exact fun _ h => absurd h List.not_mem_nil
def L_J3_checkIndex_8e157 : List (Nat × ab_A) := [
  (0, ab_nx 1 (ab_iload 0)),
  (1, ab_if 4 9 (fun x => decide (x < 0))),
  (4, ab_nx 5 (ab_iload 0)),
  (5, ab_nx 6 (ab_iload 1)),
  (6, ab_icmp 9 16 (fun x y => decide (x < y))),
  (9, ab_nx 10 (ab_aload 2)),
  (10, ab_nx 11 (ab_iload 0)),
  (11, ab_nx 12 (ab_iload 1)),
  (12, ab_no),
  (15, ab_no),
  (16, ab_nx 17 (ab_iload 0)),
  (17, ab_ret 0 0)]
set_option maxRecDepth 100000 in
set_option maxHeartbeats 4000000 in
theorem M_J3_checkIndex_8e157 {l : Launch} {b : ab_B} {D : va_G} {cA : Nat → ClassId} : ab_M l b D ab_cl cA (ab_E0 b) yJ3_checkIndex_8e157 (Cond.code yJ3_checkIndex_8e157 cJ3_checkIndex_8e157 3 (some .int) :: ab_G) ({ frames := 1, cells := 0, slots := 0, locals := 100 } : Room) (ab_X (ab_T L_J3_checkIndex_8e157) 3) := by
  refine ab_meth (ret := (some .int)) L_J3_checkIndex_8e157 (by decide) rfl fun p e R s m args below meth c o C => ?_
  unfold L_J3_checkIndex_8e157
  refine List.forall_mem_cons.mpr ⟨ok_iload_n C (show decode cJ3_checkIndex_8e157 0 = .ok (.iload_n 0, 1) by decide +kernel) rfl rfl, ?_⟩
  refine List.forall_mem_cons.mpr ⟨ok_iflt C (show decode cJ3_checkIndex_8e157 1 = .ok (.ifCond .lt 8, 3) by decide +kernel) (tg := 9) (by decide) rfl rfl, ?_⟩
  refine List.forall_mem_cons.mpr ⟨ok_iload_n C (show decode cJ3_checkIndex_8e157 4 = .ok (.iload_n 0, 1) by decide +kernel) rfl rfl, ?_⟩
  refine List.forall_mem_cons.mpr ⟨ok_iload_n C (show decode cJ3_checkIndex_8e157 5 = .ok (.iload_n 1, 1) by decide +kernel) rfl rfl, ?_⟩
  refine List.forall_mem_cons.mpr ⟨ok_icmplt C (show decode cJ3_checkIndex_8e157 6 = .ok (.if_icmp .lt 10, 3) by decide +kernel) (tg := 16) (by decide) rfl rfl, ?_⟩
  refine List.forall_mem_cons.mpr ⟨ok_aload_n C (show decode cJ3_checkIndex_8e157 9 = .ok (.aload_n 2, 1) by decide +kernel) rfl rfl, ?_⟩
  refine List.forall_mem_cons.mpr ⟨ok_iload_n C (show decode cJ3_checkIndex_8e157 10 = .ok (.iload_n 0, 1) by decide +kernel) rfl rfl, ?_⟩
  refine List.forall_mem_cons.mpr ⟨ok_iload_n C (show decode cJ3_checkIndex_8e157 11 = .ok (.iload_n 1, 1) by decide +kernel) rfl rfl, ?_⟩
  refine List.forall_mem_cons.mpr ⟨ok_no, ?_⟩
  refine List.forall_mem_cons.mpr ⟨ok_no, ?_⟩
  refine List.forall_mem_cons.mpr ⟨ok_iload_n C (show decode cJ3_checkIndex_8e157 16 = .ok (.iload_n 0, 1) by decide +kernel) rfl rfl, ?_⟩
  refine List.forall_mem_cons.mpr ⟨ok_ret C rfl (show decode cJ3_checkIndex_8e157 17 = .ok (.ireturn, 1) by decide +kernel), ?_⟩
  exact fun _ h => absurd h List.not_mem_nil
theorem x_J3_checkIndex_8e157 (i n : Int32) (w : Value) (hp : ab_H) (hw : w = .null ∨ w = .retAddr 6) (h0 : ¬ i < 0) (h1 : i < n) : ab_X (ab_T L_J3_checkIndex_8e157) 3 [.int i, .int n, w] hp = some (some (.int i), hp) := by
  have e0 : decide (i < 0) = false := decide_eq_false h0
  have e1 : decide (i < n) = true := decide_eq_true h1
  rcases hw with rfl | rfl
  · refine ab_X_of (f := 7) (Nat.le_of_ble_eq_true rfl) ?_
    simp [ab_run, ab_T, L_J3_checkIndex_8e157, ab_nx, ab_iload, ab_if, ab_icmp, ab_ret, ab_en, ab_ent, e0, e1]
  · refine ab_X_of (f := 7) (Nat.le_of_ble_eq_true rfl) ?_
    simp [ab_run, ab_T, L_J3_checkIndex_8e157, ab_nx, ab_iload, ab_if, ab_icmp, ab_ret, ab_en, ab_ent, e0, e1]
def L_J0_checkIndex_df160 : List (Nat × ab_A) := [
  (0, ab_nx 1 (ab_iload 0)),
  (1, ab_nx 2 (ab_iload 1)),
  (2, ab_nx 9 (ab_chk 0 0)),
  (9, ab_vret 0 0)]
set_option maxRecDepth 100000 in
set_option maxHeartbeats 4000000 in
theorem M_J0_checkIndex_df160 {l : Launch} {b : ab_B} {D : va_G} {cA : Nat → ClassId} : ab_M l b D ab_cl cA (ab_E0 b) yJ0_checkIndex_df160 (Cond.code yJ0_checkIndex_df160 cJ0_checkIndex_df160 2 none :: ab_G) ({ frames := 2, cells := 0, slots := 0, locals := 200 } : Room) (ab_X (ab_T L_J0_checkIndex_df160) 2) := by
  refine ab_meth (ret := none) L_J0_checkIndex_df160 (by decide) rfl fun p e R s m args below meth c o C => ?_
  unfold L_J0_checkIndex_df160
  refine List.forall_mem_cons.mpr ⟨ok_iload_n C (show decode cJ0_checkIndex_df160 0 = .ok (.iload_n 0, 1) by decide +kernel) rfl rfl, ?_⟩
  refine List.forall_mem_cons.mpr ⟨ok_iload_n C (show decode cJ0_checkIndex_df160 1 = .ok (.iload_n 1, 1) by decide +kernel) rfl rfl, ?_⟩
  refine List.forall_mem_cons.mpr ⟨ok_chk C M_J3_checkIndex_8e157 ⟨rfl, rfl⟩ x_J3_checkIndex_8e157 kw_454 kw_458 kw_456 kw_457 kw_14 ds_J3_checkIndex_8e157 ⟨by decide, by decide⟩ (show decode cJ0_checkIndex_df160 2 = .ok (.getstatic 1053, 3) by decide +kernel) (show decode cJ0_checkIndex_df160 5 = .ok (.invokestatic 1059, 3) by decide +kernel) (show decode cJ0_checkIndex_df160 8 = .ok (.pop, 1) by decide +kernel) rfl, ?_⟩
  refine List.forall_mem_cons.mpr ⟨ok_vret C rfl (show decode cJ0_checkIndex_df160 9 = .ok (.return_, 1) by decide +kernel), ?_⟩
  exact fun _ h => absurd h List.not_mem_nil
def L_J1_charAt_3b067 (f_J0_checkIndex_df160 : List Value → ab_H → Option ab_O) : List (Nat × ab_A) := [
  (0, ab_nx 1 (ab_iload 1)),
  (1, ab_nx 2 (ab_aload 0)),
  (2, ab_nx 3 (ab_sgf 5 (.int 175))),
  (3, ab_nx 6 (ab_call 2 f_J0_checkIndex_df160 0 0 0 0)),
  (6, ab_nx 7 (ab_aload 0)),
  (7, ab_nx 8 (ab_iload 1)),
  (8, ab_nx 9 (ab_sbl 5 175 sw_at)),
  (9, ab_nx 12 (ab_lit (.int 255))),
  (12, ab_nx 13 (ab_bin (fun x y => x &&& y))),
  (13, ab_nx 14 (ab_un (fun x => (x.toUInt32 % 65536).toInt32))),
  (14, ab_cret 0 0)]
set_option maxRecDepth 100000 in
set_option maxHeartbeats 4000000 in
theorem M_J1_charAt_3b067 {l : Launch} {b : ab_B} {D : va_G} {cA : Nat → ClassId} {f_J0_checkIndex_df160 : List Value → ab_H → Option ab_O} (h_J0_checkIndex_df160 : ab_M l b D ab_cl cA (ab_E0 b) yJ0_checkIndex_df160 (Cond.code yJ0_checkIndex_df160 cJ0_checkIndex_df160 2 none :: ab_G) ({ frames := 2, cells := 0, slots := 0, locals := 200 } : Room) f_J0_checkIndex_df160) : ab_M l b D ab_cl cA (ab_E0 b) yJ1_charAt_3b067 (Cond.code yJ1_charAt_3b067 cJ1_charAt_3b067 2 (some .char) :: ab_G) ({ frames := 3, cells := 0, slots := 0, locals := 300 } : Room) (ab_X (ab_T (L_J1_charAt_3b067 f_J0_checkIndex_df160)) 2) := by
  refine ab_meth (ret := (some .char)) (L_J1_charAt_3b067 f_J0_checkIndex_df160) (by decide) rfl fun p e R s m args below meth c o C => ?_
  unfold L_J1_charAt_3b067
  refine List.forall_mem_cons.mpr ⟨ok_iload_n C (show decode cJ1_charAt_3b067 0 = .ok (.iload_n 1, 1) by decide +kernel) rfl rfl, ?_⟩
  refine List.forall_mem_cons.mpr ⟨ok_aload_n C (show decode cJ1_charAt_3b067 1 = .ok (.aload_n 0, 1) by decide +kernel) rfl rfl, ?_⟩
  refine List.forall_mem_cons.mpr ⟨ok_salen C (show decode cJ1_charAt_3b067 2 = .ok (.arraylength, 1) by decide +kernel) rfl, ?_⟩
  refine List.forall_mem_cons.mpr ⟨ok_callS C h_J0_checkIndex_df160 ⟨rfl, rfl⟩ kw_453 kw_451 kw_452 kw_12 ds_J0_checkIndex_df160 ⟨by decide, by decide⟩ (show decode cJ1_charAt_3b067 3 = .ok (.invokestatic 9, 3) by decide +kernel) rfl, ?_⟩
  refine List.forall_mem_cons.mpr ⟨ok_aload_n C (show decode cJ1_charAt_3b067 6 = .ok (.aload_n 0, 1) by decide +kernel) rfl rfl, ?_⟩
  refine List.forall_mem_cons.mpr ⟨ok_iload_n C (show decode cJ1_charAt_3b067 7 = .ok (.iload_n 1, 1) by decide +kernel) rfl rfl, ?_⟩
  refine List.forall_mem_cons.mpr ⟨ok_sbl C (show decode cJ1_charAt_3b067 8 = .ok (.baload, 1) by decide +kernel) rfl, ?_⟩
  refine List.forall_mem_cons.mpr ⟨ok_sipush C (show decode cJ1_charAt_3b067 9 = .ok (.sipush 255, 3) by decide +kernel) (by decide) rfl, ?_⟩
  refine List.forall_mem_cons.mpr ⟨ok_iand C (show decode cJ1_charAt_3b067 12 = .ok (.iand, 1) by decide +kernel) rfl, ?_⟩
  refine List.forall_mem_cons.mpr ⟨ok_i2c C (show decode cJ1_charAt_3b067 13 = .ok (.i2c, 1) by decide +kernel) rfl, ?_⟩
  refine List.forall_mem_cons.mpr ⟨ok_cret C rfl (show decode cJ1_charAt_3b067 14 = .ok (.ireturn, 1) by decide +kernel), ?_⟩
  exact fun _ h => absurd h List.not_mem_nil
def L_J0_charAt_5068e (f_J0_isLatin1_aae02 : List Value → ab_H → Option ab_O) (f_J1_charAt_3b067 : List Value → ab_H → Option ab_O) : List (Nat × ab_A) := [
  (0, ab_nx 1 (ab_aload 0)),
  (1, ab_nx 4 (ab_callR 1 4 f_J0_isLatin1_aae02 0 0 0 0)),
  (4, ab_if 7 16 (fun x => decide (x = 0))),
  (7, ab_nx 8 (ab_aload 0)),
  (8, ab_nx 11 (ab_sgf 4 (.retAddr 5))),
  (11, ab_nx 12 (ab_iload 1)),
  (12, ab_nx 15 (ab_call 2 f_J1_charAt_3b067 0 0 0 0)),
  (15, ab_cret 0 0),
  (16, ab_nx 17 (ab_aload 0)),
  (17, ab_nx 20 (ab_sgf 4 (.retAddr 5))),
  (20, ab_nx 21 (ab_iload 1)),
  (21, ab_no),
  (24, ab_cret 0 0)]
set_option maxRecDepth 100000 in
set_option maxHeartbeats 4000000 in
theorem M_J0_charAt_5068e {l : Launch} {b : ab_B} {D : va_G} {cA : Nat → ClassId} {f_J0_isLatin1_aae02 : List Value → ab_H → Option ab_O} (h_J0_isLatin1_aae02 : ab_M l b D ab_cl cA (ab_E0 b) yJ0_isLatin1_aae02 (Cond.code yJ0_isLatin1_aae02 cJ0_isLatin1_aae02 1 (some .boolean) :: ab_G) ({ frames := 1, cells := 0, slots := 0, locals := 100 } : Room) f_J0_isLatin1_aae02) {f_J1_charAt_3b067 : List Value → ab_H → Option ab_O} (h_J1_charAt_3b067 : ab_M l b D ab_cl cA (ab_E0 b) yJ1_charAt_3b067 (Cond.code yJ1_charAt_3b067 cJ1_charAt_3b067 2 (some .char) :: ab_G) ({ frames := 3, cells := 0, slots := 0, locals := 300 } : Room) f_J1_charAt_3b067) : ab_M l b D ab_cl cA (ab_E0 b) yJ0_charAt_5068e (Cond.code yJ0_charAt_5068e cJ0_charAt_5068e 2 (some .char) :: ab_G) ({ frames := 4, cells := 0, slots := 0, locals := 400 } : Room) (ab_X (ab_T (L_J0_charAt_5068e f_J0_isLatin1_aae02 f_J1_charAt_3b067)) 2) := by
  refine ab_meth (ret := (some .char)) (L_J0_charAt_5068e f_J0_isLatin1_aae02 f_J1_charAt_3b067) (by decide) rfl fun p e R s m args below meth c o C => ?_
  unfold L_J0_charAt_5068e
  refine List.forall_mem_cons.mpr ⟨ok_aload_n C (show decode cJ0_charAt_5068e 0 = .ok (.aload_n 0, 1) by decide +kernel) rfl rfl, ?_⟩
  refine List.forall_mem_cons.mpr ⟨ok_callR C h_J0_isLatin1_aae02 ⟨rfl, rfl⟩ kw_447 kw_444 kw_445 kw_446 kw_12 rfl ds_J0_isLatin1_aae02 ⟨by decide, by decide⟩ (show decode cJ0_charAt_5068e 1 = .ok (.invokevirtual 492, 3) by decide +kernel) rfl, ?_⟩
  refine List.forall_mem_cons.mpr ⟨ok_ifeq C (show decode cJ0_charAt_5068e 4 = .ok (.ifCond .eq 12, 3) by decide +kernel) (tg := 16) (by decide) rfl rfl, ?_⟩
  refine List.forall_mem_cons.mpr ⟨ok_aload_n C (show decode cJ0_charAt_5068e 7 = .ok (.aload_n 0, 1) by decide +kernel) rfl rfl, ?_⟩
  refine List.forall_mem_cons.mpr ⟨ok_sgfV C kw_1729 (show decode cJ0_charAt_5068e 8 = .ok (.getfield 9, 3) by decide +kernel) rfl, ?_⟩
  refine List.forall_mem_cons.mpr ⟨ok_iload_n C (show decode cJ0_charAt_5068e 11 = .ok (.iload_n 1, 1) by decide +kernel) rfl rfl, ?_⟩
  refine List.forall_mem_cons.mpr ⟨ok_callS C h_J1_charAt_3b067 ⟨rfl, rfl⟩ kw_450 kw_448 kw_449 kw_13 ds_J1_charAt_3b067 ⟨by decide, by decide⟩ (show decode cJ0_charAt_5068e 12 = .ok (.invokestatic 495, 3) by decide +kernel) rfl, ?_⟩
  refine List.forall_mem_cons.mpr ⟨ok_cret C rfl (show decode cJ0_charAt_5068e 15 = .ok (.ireturn, 1) by decide +kernel), ?_⟩
  refine List.forall_mem_cons.mpr ⟨ok_aload_n C (show decode cJ0_charAt_5068e 16 = .ok (.aload_n 0, 1) by decide +kernel) rfl rfl, ?_⟩
  refine List.forall_mem_cons.mpr ⟨ok_sgfV C kw_1729 (show decode cJ0_charAt_5068e 17 = .ok (.getfield 9, 3) by decide +kernel) rfl, ?_⟩
  refine List.forall_mem_cons.mpr ⟨ok_iload_n C (show decode cJ0_charAt_5068e 20 = .ok (.iload_n 1, 1) by decide +kernel) rfl rfl, ?_⟩
  refine List.forall_mem_cons.mpr ⟨ok_no, ?_⟩
  refine List.forall_mem_cons.mpr ⟨ok_cret C rfl (show decode cJ0_charAt_5068e 24 = .ok (.ireturn, 1) by decide +kernel), ?_⟩
  exact fun _ h => absurd h List.not_mem_nil
def L_X8_isToldWord (f_J0_length_8abf5 : List Value → ab_H → Option ab_O) (f_X8_valueAt : List Value → ab_H → Option ab_O) (f_J0_charAt_5068e : List Value → ab_H → Option ab_O) : List (Nat × ab_A) := [
  (0, ab_nx 1 (ab_iload 1)),
  (1, ab_nx 3 (ab_lit (.int 7))),
  (3, ab_nx 4 (ab_bin (fun x y => x * y))),
  (4, ab_nx 6 (ab_istore 4)),
  (6, ab_nx 7 (ab_lit (.int 0))),
  (7, ab_nx 9 (ab_istore 5)),
  (9, ab_nx 11 (ab_iload 5)),
  (11, ab_nx 13 (ab_lit (.int 7))),
  (13, ab_icmp 16 73 (fun x y => decide (y ≤ x))),
  (16, ab_nx 18 (ab_iload 4)),
  (18, ab_nx 20 (ab_iload 5)),
  (20, ab_nx 21 (ab_bin (fun x y => x + y))),
  (21, ab_nx 23 (ab_lit (.retAddr 4))),
  (23, ab_nx 26 (ab_callR 1 4 f_J0_length_8abf5 0 0 0 0)),
  (26, ab_icmp 29 73 (fun x y => decide (y ≤ x))),
  (29, ab_nx 31 (ab_iload 5)),
  (31, ab_nx 32 (ab_iload 3)),
  (32, ab_icmp 35 46 (fun x y => decide (y ≤ x))),
  (35, ab_nx 36 (ab_aload 0)),
  (36, ab_nx 37 (ab_iload 2)),
  (37, ab_nx 39 (ab_iload 5)),
  (39, ab_nx 40 (ab_bin (fun x y => x + y))),
  (40, ab_nx 43 (ab_callV 2 8 f_X8_valueAt 0 0 0 0)),
  (43, ab_goto 48),
  (46, ab_nx 48 (ab_lit (.int 32))),
  (48, ab_nx 50 (ab_istore 6)),
  (50, ab_nx 52 (ab_iload 6)),
  (52, ab_nx 54 (ab_lit (.retAddr 4))),
  (54, ab_nx 56 (ab_iload 4)),
  (56, ab_nx 58 (ab_iload 5)),
  (58, ab_nx 59 (ab_bin (fun x y => x + y))),
  (59, ab_nx 62 (ab_callR 2 4 f_J0_charAt_5068e 0 0 0 0)),
  (62, ab_icmp 65 67 (fun x y => decide (x = y))),
  (65, ab_nx 66 (ab_lit (.int 0))),
  (66, ab_zret 0 0),
  (67, ab_nx 70 (ab_iinc 5 1)),
  (70, ab_goto 9),
  (73, ab_nx 74 (ab_lit (.int 1))),
  (74, ab_zret 0 0)]
set_option maxRecDepth 100000 in
set_option maxHeartbeats 4000000 in
theorem M_X8_isToldWord {l : Launch} {b : ab_B} {D : va_G} {cA : Nat → ClassId} {f_J0_length_8abf5 : List Value → ab_H → Option ab_O} (h_J0_length_8abf5 : ab_M l b D ab_cl cA (ab_E0 b) yJ0_length_8abf5 (Cond.code yJ0_length_8abf5 cJ0_length_8abf5 1 (some .int) :: ab_G) ({ frames := 2, cells := 0, slots := 0, locals := 200 } : Room) f_J0_length_8abf5) {f_X8_valueAt : List Value → ab_H → Option ab_O} (h_X8_valueAt : ab_M l b D ab_cl cA (ab_E0 b) yX8_valueAt (Cond.code yX8_valueAt cX8_valueAt 2 (some .int) :: ab_G) ({ frames := 1, cells := 0, slots := 0, locals := 100 } : Room) f_X8_valueAt) {f_J0_charAt_5068e : List Value → ab_H → Option ab_O} (h_J0_charAt_5068e : ab_M l b D ab_cl cA (ab_E0 b) yJ0_charAt_5068e (Cond.code yJ0_charAt_5068e cJ0_charAt_5068e 2 (some .char) :: ab_G) ({ frames := 4, cells := 0, slots := 0, locals := 400 } : Room) f_J0_charAt_5068e) : ab_M l b D ab_cl cA (ab_E0 b) yX8_isToldWord (Cond.code yX8_isToldWord cX8_isToldWord 7 (some .boolean) :: ab_G) ({ frames := 5, cells := 0, slots := 0, locals := 500 } : Room) (ab_X (ab_T (L_X8_isToldWord f_J0_length_8abf5 f_X8_valueAt f_J0_charAt_5068e)) 7) := by
  refine ab_meth (ret := (some .boolean)) (L_X8_isToldWord f_J0_length_8abf5 f_X8_valueAt f_J0_charAt_5068e) (by decide) rfl fun p e R s m args below meth c o C => ?_
  unfold L_X8_isToldWord
  refine List.forall_mem_cons.mpr ⟨ok_iload_n C (show decode cX8_isToldWord 0 = .ok (.iload_n 1, 1) by decide +kernel) rfl rfl, ?_⟩
  refine List.forall_mem_cons.mpr ⟨ok_bipush C (show decode cX8_isToldWord 1 = .ok (.bipush 7, 2) by decide +kernel) (by decide) rfl, ?_⟩
  refine List.forall_mem_cons.mpr ⟨ok_imul C (show decode cX8_isToldWord 3 = .ok (.imul, 1) by decide +kernel) rfl, ?_⟩
  refine List.forall_mem_cons.mpr ⟨ok_istore C (show decode cX8_isToldWord 4 = .ok (.istore 4, 2) by decide +kernel) (by decide) rfl, ?_⟩
  refine List.forall_mem_cons.mpr ⟨ok_iconst C (show decode cX8_isToldWord 6 = .ok (.iconst 0, 1) by decide +kernel) (by decide) rfl, ?_⟩
  refine List.forall_mem_cons.mpr ⟨ok_istore C (show decode cX8_isToldWord 7 = .ok (.istore 5, 2) by decide +kernel) (by decide) rfl, ?_⟩
  refine List.forall_mem_cons.mpr ⟨ok_iload C (show decode cX8_isToldWord 9 = .ok (.iload 5, 2) by decide +kernel) rfl, ?_⟩
  refine List.forall_mem_cons.mpr ⟨ok_bipush C (show decode cX8_isToldWord 11 = .ok (.bipush 7, 2) by decide +kernel) (by decide) rfl, ?_⟩
  refine List.forall_mem_cons.mpr ⟨ok_icmpge C (show decode cX8_isToldWord 13 = .ok (.if_icmp .ge 60, 3) by decide +kernel) (tg := 73) (by decide) rfl rfl, ?_⟩
  refine List.forall_mem_cons.mpr ⟨ok_iload C (show decode cX8_isToldWord 16 = .ok (.iload 4, 2) by decide +kernel) rfl, ?_⟩
  refine List.forall_mem_cons.mpr ⟨ok_iload C (show decode cX8_isToldWord 18 = .ok (.iload 5, 2) by decide +kernel) rfl, ?_⟩
  refine List.forall_mem_cons.mpr ⟨ok_iadd C (show decode cX8_isToldWord 20 = .ok (.iadd, 1) by decide +kernel) rfl, ?_⟩
  refine List.forall_mem_cons.mpr ⟨ok_ldcS C rfl (show decode cX8_isToldWord 21 = .ok (.ldc 72, 2) by decide +kernel) rfl, ?_⟩
  refine List.forall_mem_cons.mpr ⟨ok_callR C h_J0_length_8abf5 ⟨rfl, rfl⟩ kw_433 kw_430 kw_431 kw_432 kw_12 rfl ds_J0_length_8abf5 ⟨by decide, by decide⟩ (show decode cX8_isToldWord 23 = .ok (.invokevirtual 74, 3) by decide +kernel) rfl, ?_⟩
  refine List.forall_mem_cons.mpr ⟨ok_icmpge C (show decode cX8_isToldWord 26 = .ok (.if_icmp .ge 47, 3) by decide +kernel) (tg := 73) (by decide) rfl rfl, ?_⟩
  refine List.forall_mem_cons.mpr ⟨ok_iload C (show decode cX8_isToldWord 29 = .ok (.iload 5, 2) by decide +kernel) rfl, ?_⟩
  refine List.forall_mem_cons.mpr ⟨ok_iload_n C (show decode cX8_isToldWord 31 = .ok (.iload_n 3, 1) by decide +kernel) rfl rfl, ?_⟩
  refine List.forall_mem_cons.mpr ⟨ok_icmpge C (show decode cX8_isToldWord 32 = .ok (.if_icmp .ge 14, 3) by decide +kernel) (tg := 46) (by decide) rfl rfl, ?_⟩
  refine List.forall_mem_cons.mpr ⟨ok_aload_n C (show decode cX8_isToldWord 35 = .ok (.aload_n 0, 1) by decide +kernel) rfl rfl, ?_⟩
  refine List.forall_mem_cons.mpr ⟨ok_iload_n C (show decode cX8_isToldWord 36 = .ok (.iload_n 2, 1) by decide +kernel) rfl rfl, ?_⟩
  refine List.forall_mem_cons.mpr ⟨ok_iload C (show decode cX8_isToldWord 37 = .ok (.iload 5, 2) by decide +kernel) rfl, ?_⟩
  refine List.forall_mem_cons.mpr ⟨ok_iadd C (show decode cX8_isToldWord 39 = .ok (.iadd, 1) by decide +kernel) rfl, ?_⟩
  refine List.forall_mem_cons.mpr ⟨ok_callV C h_X8_valueAt ⟨rfl, rfl⟩ rfl kw_404 kw_401 kw_402 kw_403 kw_2 rfl ds_X8_valueAt ⟨by decide, by decide⟩ (show decode cX8_isToldWord 40 = .ok (.invokevirtual 44, 3) by decide +kernel) rfl, ?_⟩
  refine List.forall_mem_cons.mpr ⟨ok_goto C (show decode cX8_isToldWord 43 = .ok (.goto 5, 3) by decide +kernel) (tg := 48) (by decide) rfl, ?_⟩
  refine List.forall_mem_cons.mpr ⟨ok_bipush C (show decode cX8_isToldWord 46 = .ok (.bipush 32, 2) by decide +kernel) (by decide) rfl, ?_⟩
  refine List.forall_mem_cons.mpr ⟨ok_istore C (show decode cX8_isToldWord 48 = .ok (.istore 6, 2) by decide +kernel) (by decide) rfl, ?_⟩
  refine List.forall_mem_cons.mpr ⟨ok_iload C (show decode cX8_isToldWord 50 = .ok (.iload 6, 2) by decide +kernel) rfl, ?_⟩
  refine List.forall_mem_cons.mpr ⟨ok_ldcS C rfl (show decode cX8_isToldWord 52 = .ok (.ldc 72, 2) by decide +kernel) rfl, ?_⟩
  refine List.forall_mem_cons.mpr ⟨ok_iload C (show decode cX8_isToldWord 54 = .ok (.iload 4, 2) by decide +kernel) rfl, ?_⟩
  refine List.forall_mem_cons.mpr ⟨ok_iload C (show decode cX8_isToldWord 56 = .ok (.iload 5, 2) by decide +kernel) rfl, ?_⟩
  refine List.forall_mem_cons.mpr ⟨ok_iadd C (show decode cX8_isToldWord 58 = .ok (.iadd, 1) by decide +kernel) rfl, ?_⟩
  refine List.forall_mem_cons.mpr ⟨ok_callR C h_J0_charAt_5068e ⟨rfl, rfl⟩ kw_443 kw_440 kw_441 kw_442 kw_12 rfl ds_J0_charAt_5068e ⟨by decide, by decide⟩ (show decode cX8_isToldWord 59 = .ok (.invokevirtual 80, 3) by decide +kernel) rfl, ?_⟩
  refine List.forall_mem_cons.mpr ⟨ok_icmpeq C (show decode cX8_isToldWord 62 = .ok (.if_icmp .eq 5, 3) by decide +kernel) (tg := 67) (by decide) rfl rfl, ?_⟩
  refine List.forall_mem_cons.mpr ⟨ok_iconst C (show decode cX8_isToldWord 65 = .ok (.iconst 0, 1) by decide +kernel) (by decide) rfl, ?_⟩
  refine List.forall_mem_cons.mpr ⟨ok_zret C rfl (show decode cX8_isToldWord 66 = .ok (.ireturn, 1) by decide +kernel), ?_⟩
  refine List.forall_mem_cons.mpr ⟨ok_iinc C (show decode cX8_isToldWord 67 = .ok (.iinc 5 1, 3) by decide +kernel) (by decide) (by decide) rfl, ?_⟩
  refine List.forall_mem_cons.mpr ⟨ok_goto C (show decode cX8_isToldWord 70 = .ok (.goto (-61), 3) by decide +kernel) (tg := 9) (by decide) rfl, ?_⟩
  refine List.forall_mem_cons.mpr ⟨ok_iconst C (show decode cX8_isToldWord 73 = .ok (.iconst 1, 1) by decide +kernel) (by decide) rfl, ?_⟩
  refine List.forall_mem_cons.mpr ⟨ok_zret C rfl (show decode cX8_isToldWord 74 = .ok (.ireturn, 1) by decide +kernel), ?_⟩
  exact fun _ h => absurd h List.not_mem_nil
def L_X8_kindOfWord (f_X8_isToldWord : List Value → ab_H → Option ab_O) : List (Nat × ab_A) := [
  (0, ab_nx 1 (ab_lit (.int 0))),
  (1, ab_nx 2 (ab_istore 3)),
  (2, ab_nx 3 (ab_iload 3)),
  (3, ab_nx 5 (ab_lit (.int 25))),
  (5, ab_icmp 8 29 (fun x y => decide (y ≤ x))),
  (8, ab_nx 9 (ab_aload 0)),
  (9, ab_nx 10 (ab_iload 3)),
  (10, ab_nx 11 (ab_iload 1)),
  (11, ab_nx 12 (ab_iload 2)),
  (12, ab_nx 15 (ab_callV 4 8 f_X8_isToldWord 0 0 0 0)),
  (15, ab_if 18 23 (fun x => decide (x = 0))),
  (18, ab_nx 20 (ab_lit (.int 64))),
  (20, ab_nx 21 (ab_iload 3)),
  (21, ab_nx 22 (ab_bin (fun x y => x + y))),
  (22, ab_ret 0 0),
  (23, ab_nx 26 (ab_iinc 3 1)),
  (26, ab_goto 2),
  (29, ab_nx 30 (ab_lit (.int 2))),
  (30, ab_ret 0 0)]
set_option maxRecDepth 100000 in
set_option maxHeartbeats 4000000 in
theorem M_X8_kindOfWord {l : Launch} {b : ab_B} {D : va_G} {cA : Nat → ClassId} {f_X8_isToldWord : List Value → ab_H → Option ab_O} (h_X8_isToldWord : ab_M l b D ab_cl cA (ab_E0 b) yX8_isToldWord (Cond.code yX8_isToldWord cX8_isToldWord 7 (some .boolean) :: ab_G) ({ frames := 5, cells := 0, slots := 0, locals := 500 } : Room) f_X8_isToldWord) : ab_M l b D ab_cl cA (ab_E0 b) yX8_kindOfWord (Cond.code yX8_kindOfWord cX8_kindOfWord 4 (some .int) :: ab_G) ({ frames := 6, cells := 0, slots := 0, locals := 600 } : Room) (ab_X (ab_T (L_X8_kindOfWord f_X8_isToldWord)) 4) := by
  refine ab_meth (ret := (some .int)) (L_X8_kindOfWord f_X8_isToldWord) (by decide) rfl fun p e R s m args below meth c o C => ?_
  unfold L_X8_kindOfWord
  refine List.forall_mem_cons.mpr ⟨ok_iconst C (show decode cX8_kindOfWord 0 = .ok (.iconst 0, 1) by decide +kernel) (by decide) rfl, ?_⟩
  refine List.forall_mem_cons.mpr ⟨ok_istore_n C (show decode cX8_kindOfWord 1 = .ok (.istore_n 3, 1) by decide +kernel) rfl (by decide) rfl, ?_⟩
  refine List.forall_mem_cons.mpr ⟨ok_iload_n C (show decode cX8_kindOfWord 2 = .ok (.iload_n 3, 1) by decide +kernel) rfl rfl, ?_⟩
  refine List.forall_mem_cons.mpr ⟨ok_bipush C (show decode cX8_kindOfWord 3 = .ok (.bipush 25, 2) by decide +kernel) (by decide) rfl, ?_⟩
  refine List.forall_mem_cons.mpr ⟨ok_icmpge C (show decode cX8_kindOfWord 5 = .ok (.if_icmp .ge 24, 3) by decide +kernel) (tg := 29) (by decide) rfl rfl, ?_⟩
  refine List.forall_mem_cons.mpr ⟨ok_aload_n C (show decode cX8_kindOfWord 8 = .ok (.aload_n 0, 1) by decide +kernel) rfl rfl, ?_⟩
  refine List.forall_mem_cons.mpr ⟨ok_iload_n C (show decode cX8_kindOfWord 9 = .ok (.iload_n 3, 1) by decide +kernel) rfl rfl, ?_⟩
  refine List.forall_mem_cons.mpr ⟨ok_iload_n C (show decode cX8_kindOfWord 10 = .ok (.iload_n 1, 1) by decide +kernel) rfl rfl, ?_⟩
  refine List.forall_mem_cons.mpr ⟨ok_iload_n C (show decode cX8_kindOfWord 11 = .ok (.iload_n 2, 1) by decide +kernel) rfl rfl, ?_⟩
  refine List.forall_mem_cons.mpr ⟨ok_callV C h_X8_isToldWord ⟨rfl, rfl⟩ rfl kw_428 kw_425 kw_427 kp_4 kw_2 rfl ds_X8_isToldWord ⟨by decide, by decide⟩ (show decode cX8_kindOfWord 12 = .ok (.invokevirtual 68, 3) by decide +kernel) rfl, ?_⟩
  refine List.forall_mem_cons.mpr ⟨ok_ifeq C (show decode cX8_kindOfWord 15 = .ok (.ifCond .eq 8, 3) by decide +kernel) (tg := 23) (by decide) rfl rfl, ?_⟩
  refine List.forall_mem_cons.mpr ⟨ok_bipush C (show decode cX8_kindOfWord 18 = .ok (.bipush 64, 2) by decide +kernel) (by decide) rfl, ?_⟩
  refine List.forall_mem_cons.mpr ⟨ok_iload_n C (show decode cX8_kindOfWord 20 = .ok (.iload_n 3, 1) by decide +kernel) rfl rfl, ?_⟩
  refine List.forall_mem_cons.mpr ⟨ok_iadd C (show decode cX8_kindOfWord 21 = .ok (.iadd, 1) by decide +kernel) rfl, ?_⟩
  refine List.forall_mem_cons.mpr ⟨ok_ret C rfl (show decode cX8_kindOfWord 22 = .ok (.ireturn, 1) by decide +kernel), ?_⟩
  refine List.forall_mem_cons.mpr ⟨ok_iinc C (show decode cX8_kindOfWord 23 = .ok (.iinc 3 1, 3) by decide +kernel) (by decide) (by decide) rfl, ?_⟩
  refine List.forall_mem_cons.mpr ⟨ok_goto C (show decode cX8_kindOfWord 26 = .ok (.goto (-24), 3) by decide +kernel) (tg := 2) (by decide) rfl, ?_⟩
  refine List.forall_mem_cons.mpr ⟨ok_iconst C (show decode cX8_kindOfWord 29 = .ok (.iconst 2, 1) by decide +kernel) (by decide) rfl, ?_⟩
  refine List.forall_mem_cons.mpr ⟨ok_ret C rfl (show decode cX8_kindOfWord 30 = .ok (.ireturn, 1) by decide +kernel), ?_⟩
  exact fun _ h => absurd h List.not_mem_nil
def L_X9_add : List (Nat × ab_A) := [
  (0, ab_nx 1 (ab_aload 0)),
  (1, ab_nx 4 (ab_getf 9 3)),
  (4, ab_nx 7 (ab_lit (.int 901))),
  (7, ab_icmp 10 50 (fun x y => decide (y ≤ x))),
  (10, ab_nx 11 (ab_aload 0)),
  (11, ab_nx 14 (ab_getf 9 0)),
  (14, ab_nx 15 (ab_aload 0)),
  (15, ab_nx 18 (ab_getf 9 3)),
  (18, ab_nx 19 (ab_iload 1)),
  (19, ab_nx 20 (ab_ast 1)),
  (20, ab_nx 21 (ab_aload 0)),
  (21, ab_nx 24 (ab_getf 9 1)),
  (24, ab_nx 25 (ab_aload 0)),
  (25, ab_nx 28 (ab_getf 9 3)),
  (28, ab_nx 29 (ab_iload 2)),
  (29, ab_nx 30 (ab_ast 1)),
  (30, ab_nx 31 (ab_aload 0)),
  (31, ab_nx 34 (ab_getf 9 2)),
  (34, ab_nx 35 (ab_aload 0)),
  (35, ab_nx 38 (ab_getf 9 3)),
  (38, ab_nx 39 (ab_lload 3)),
  (39, ab_nx 40 ab_last),
  (40, ab_nx 41 (ab_aload 0)),
  (41, ab_nx 42 ab_dup),
  (42, ab_nx 45 (ab_getf 9 3)),
  (45, ab_nx 46 (ab_lit (.int 1))),
  (46, ab_nx 47 (ab_bin (fun x y => x + y))),
  (47, ab_nx 50 (ab_putf 9 3 0)),
  (50, ab_vret 0 0)]
set_option maxRecDepth 100000 in
set_option maxHeartbeats 4000000 in
theorem M_X9_add {l : Launch} {b : ab_B} {D : va_G} {cA : Nat → ClassId} : ab_M l b D ab_cl cA (ab_E0 b) yX9_add (Cond.code yX9_add cX9_add 5 none :: ab_G) ({ frames := 1, cells := 0, slots := 0, locals := 100 } : Room) (ab_X (ab_T L_X9_add) 5) := by
  refine ab_meth (ret := none) L_X9_add (by decide) rfl fun p e R s m args below meth c o C => ?_
  unfold L_X9_add
  refine List.forall_mem_cons.mpr ⟨ok_aload_n C (show decode cX9_add 0 = .ok (.aload_n 0, 1) by decide +kernel) rfl rfl, ?_⟩
  refine List.forall_mem_cons.mpr ⟨ok_getf C (wi_X9) rfl (by decide) kw_59 (show decode cX9_add 1 = .ok (.getfield 22, 3) by decide +kernel) rfl, ?_⟩
  refine List.forall_mem_cons.mpr ⟨ok_sipush C (show decode cX9_add 4 = .ok (.sipush 901, 3) by decide +kernel) (by decide) rfl, ?_⟩
  refine List.forall_mem_cons.mpr ⟨ok_icmpge C (show decode cX9_add 7 = .ok (.if_icmp .ge 43, 3) by decide +kernel) (tg := 50) (by decide) rfl rfl, ?_⟩
  refine List.forall_mem_cons.mpr ⟨ok_aload_n C (show decode cX9_add 10 = .ok (.aload_n 0, 1) by decide +kernel) rfl rfl, ?_⟩
  refine List.forall_mem_cons.mpr ⟨ok_getf C (wi_X9) rfl (by decide) kw_56 (show decode cX9_add 11 = .ok (.getfield 9, 3) by decide +kernel) rfl, ?_⟩
  refine List.forall_mem_cons.mpr ⟨ok_aload_n C (show decode cX9_add 14 = .ok (.aload_n 0, 1) by decide +kernel) rfl rfl, ?_⟩
  refine List.forall_mem_cons.mpr ⟨ok_getf C (wi_X9) rfl (by decide) kw_59 (show decode cX9_add 15 = .ok (.getfield 22, 3) by decide +kernel) rfl, ?_⟩
  refine List.forall_mem_cons.mpr ⟨ok_iload_n C (show decode cX9_add 18 = .ok (.iload_n 1, 1) by decide +kernel) rfl rfl, ?_⟩
  refine List.forall_mem_cons.mpr ⟨ok_iastore C (show decode cX9_add 19 = .ok (.iastore, 1) by decide +kernel) rfl, ?_⟩
  refine List.forall_mem_cons.mpr ⟨ok_aload_n C (show decode cX9_add 20 = .ok (.aload_n 0, 1) by decide +kernel) rfl rfl, ?_⟩
  refine List.forall_mem_cons.mpr ⟨ok_getf C (wi_X9) rfl (by decide) kw_57 (show decode cX9_add 21 = .ok (.getfield 15, 3) by decide +kernel) rfl, ?_⟩
  refine List.forall_mem_cons.mpr ⟨ok_aload_n C (show decode cX9_add 24 = .ok (.aload_n 0, 1) by decide +kernel) rfl rfl, ?_⟩
  refine List.forall_mem_cons.mpr ⟨ok_getf C (wi_X9) rfl (by decide) kw_59 (show decode cX9_add 25 = .ok (.getfield 22, 3) by decide +kernel) rfl, ?_⟩
  refine List.forall_mem_cons.mpr ⟨ok_iload_n C (show decode cX9_add 28 = .ok (.iload_n 2, 1) by decide +kernel) rfl rfl, ?_⟩
  refine List.forall_mem_cons.mpr ⟨ok_iastore C (show decode cX9_add 29 = .ok (.iastore, 1) by decide +kernel) rfl, ?_⟩
  refine List.forall_mem_cons.mpr ⟨ok_aload_n C (show decode cX9_add 30 = .ok (.aload_n 0, 1) by decide +kernel) rfl rfl, ?_⟩
  refine List.forall_mem_cons.mpr ⟨ok_getf C (wi_X9) rfl (by decide) kw_58 (show decode cX9_add 31 = .ok (.getfield 18, 3) by decide +kernel) rfl, ?_⟩
  refine List.forall_mem_cons.mpr ⟨ok_aload_n C (show decode cX9_add 34 = .ok (.aload_n 0, 1) by decide +kernel) rfl rfl, ?_⟩
  refine List.forall_mem_cons.mpr ⟨ok_getf C (wi_X9) rfl (by decide) kw_59 (show decode cX9_add 35 = .ok (.getfield 22, 3) by decide +kernel) rfl, ?_⟩
  refine List.forall_mem_cons.mpr ⟨ok_lload_n C (show decode cX9_add 38 = .ok (.lload_n 3, 1) by decide +kernel) rfl rfl, ?_⟩
  refine List.forall_mem_cons.mpr ⟨ok_lastore C (show decode cX9_add 39 = .ok (.lastore, 1) by decide +kernel) rfl, ?_⟩
  refine List.forall_mem_cons.mpr ⟨ok_aload_n C (show decode cX9_add 40 = .ok (.aload_n 0, 1) by decide +kernel) rfl rfl, ?_⟩
  refine List.forall_mem_cons.mpr ⟨ok_dup C (show decode cX9_add 41 = .ok (.dup, 1) by decide +kernel) rfl, ?_⟩
  refine List.forall_mem_cons.mpr ⟨ok_getf C (wi_X9) rfl (by decide) kw_59 (show decode cX9_add 42 = .ok (.getfield 22, 3) by decide +kernel) rfl, ?_⟩
  refine List.forall_mem_cons.mpr ⟨ok_iconst C (show decode cX9_add 45 = .ok (.iconst 1, 1) by decide +kernel) (by decide) rfl, ?_⟩
  refine List.forall_mem_cons.mpr ⟨ok_iadd C (show decode cX9_add 46 = .ok (.iadd, 1) by decide +kernel) rfl, ?_⟩
  refine List.forall_mem_cons.mpr ⟨ok_putf C (wi_X9) tyX9 tyX9_ok nmX9 rfl (by decide) kw_59 (Or.inl rfl) (Or.inl ⟨rfl, rfl⟩) (show decode cX9_add 47 = .ok (.putfield 22, 3) by decide +kernel) rfl, ?_⟩
  refine List.forall_mem_cons.mpr ⟨ok_vret C rfl (show decode cX9_add 50 = .ok (.return_, 1) by decide +kernel), ?_⟩
  exact fun _ h => absurd h List.not_mem_nil
def L_X8_cutRun (f_X8_valueAt : List Value → ab_H → Option ab_O) (f_X8_isLetter : List Value → ab_H → Option ab_O) (f_X8_isDigit : List Value → ab_H → Option ab_O) (f_X8_kindOfWord : List Value → ab_H → Option ab_O) (f_X9_add : List Value → ab_H → Option ab_O) : List (Nat × ab_A) := [
  (0, ab_nx 1 (ab_aload 0)),
  (1, ab_nx 4 (ab_getf 8 2)),
  (4, ab_nx 5 (ab_istore 2)),
  (5, ab_nx 6 (ab_lit (.int 0))),
  (6, ab_nx 7 (ab_istore 3)),
  (7, ab_nx 8 (ab_lit (.int 0))),
  (8, ab_nx 10 (ab_istore 4)),
  (10, ab_nx 11 (ab_lit (.long 0))),
  (11, ab_nx 13 (ab_lstore 5)),
  (13, ab_nx 14 (ab_lit (.int 0))),
  (14, ab_nx 16 (ab_istore 7)),
  (16, ab_nx 17 (ab_aload 0)),
  (17, ab_nx 20 (ab_getf 8 2)),
  (20, ab_nx 21 (ab_aload 0)),
  (21, ab_nx 24 (ab_getf 8 1)),
  (24, ab_icmp 27 148 (fun x y => decide (y ≤ x))),
  (27, ab_nx 28 (ab_aload 0)),
  (28, ab_nx 29 (ab_aload 0)),
  (29, ab_nx 32 (ab_getf 8 2)),
  (32, ab_nx 35 (ab_callV 2 8 f_X8_valueAt 0 0 0 0)),
  (35, ab_nx 38 (ab_call 1 f_X8_isLetter 0 0 0 0)),
  (38, ab_if 41 55 (fun x => !decide (x = 0))),
  (41, ab_nx 42 (ab_aload 0)),
  (42, ab_nx 43 (ab_aload 0)),
  (43, ab_nx 46 (ab_getf 8 2)),
  (46, ab_nx 49 (ab_callV 2 8 f_X8_valueAt 0 0 0 0)),
  (49, ab_nx 52 (ab_call 1 f_X8_isDigit 0 0 0 0)),
  (52, ab_if 55 148 (fun x => decide (x = 0))),
  (55, ab_nx 56 (ab_aload 0)),
  (56, ab_nx 57 (ab_aload 0)),
  (57, ab_nx 60 (ab_getf 8 2)),
  (60, ab_nx 63 (ab_callV 2 8 f_X8_valueAt 0 0 0 0)),
  (63, ab_nx 65 (ab_istore 8)),
  (65, ab_nx 67 (ab_iload 8)),
  (67, ab_nx 70 (ab_call 1 f_X8_isDigit 0 0 0 0)),
  (70, ab_if 73 103 (fun x => decide (x = 0))),
  (73, ab_nx 76 (ab_iinc 4 1)),
  (76, ab_nx 78 (ab_iload 4)),
  (78, ab_nx 79 (ab_lit (.int 3))),
  (79, ab_icmp 82 96 (fun x y => decide (y < x))),
  (82, ab_nx 84 (ab_iload 7)),
  (84, ab_nx 86 (ab_lit (.int 10))),
  (86, ab_nx 87 (ab_bin (fun x y => x * y))),
  (87, ab_nx 89 (ab_iload 8)),
  (89, ab_nx 90 (ab_bin (fun x y => x + y))),
  (90, ab_nx 92 (ab_lit (.int 48))),
  (92, ab_nx 93 (ab_bin (fun x y => x - y))),
  (93, ab_goto 98),
  (96, ab_nx 98 (ab_iload 7)),
  (98, ab_nx 100 (ab_istore 7)),
  (100, ab_goto 135),
  (103, ab_nx 106 (ab_iinc 3 1)),
  (106, ab_nx 107 (ab_iload 3)),
  (107, ab_nx 109 (ab_lit (.int 7))),
  (109, ab_icmp 112 131 (fun x y => decide (y < x))),
  (112, ab_nx 114 (ab_lload 5)),
  (114, ab_nx 117 (ab_lit (.long 32))),
  (117, ab_nx 118 (ab_lbin (fun x y => x * y))),
  (118, ab_nx 120 (ab_iload 8)),
  (120, ab_nx 121 ab_i2l),
  (121, ab_nx 122 (ab_lbin (fun x y => x + y))),
  (122, ab_nx 125 (ab_lit (.long 97))),
  (125, ab_nx 126 (ab_lbin (fun x y => x - y))),
  (126, ab_nx 127 (ab_lit (.long 1))),
  (127, ab_nx 128 (ab_lbin (fun x y => x + y))),
  (128, ab_goto 133),
  (131, ab_nx 133 (ab_lload 5)),
  (133, ab_nx 135 (ab_lstore 5)),
  (135, ab_nx 136 (ab_aload 0)),
  (136, ab_nx 137 ab_dup),
  (137, ab_nx 140 (ab_getf 8 2)),
  (140, ab_nx 141 (ab_lit (.int 1))),
  (141, ab_nx 142 (ab_bin (fun x y => x + y))),
  (142, ab_nx 145 (ab_putf 8 2 0)),
  (145, ab_goto 16),
  (148, ab_nx 149 (ab_lit (.int 1))),
  (149, ab_nx 151 (ab_istore 8)),
  (151, ab_nx 153 (ab_iload 4)),
  (153, ab_if 156 173 (fun x => !decide (x = 0))),
  (156, ab_nx 157 (ab_iload 3)),
  (157, ab_nx 159 (ab_lit (.int 7))),
  (159, ab_icmp 162 173 (fun x y => decide (y < x))),
  (162, ab_nx 163 (ab_aload 0)),
  (163, ab_nx 164 (ab_iload 2)),
  (164, ab_nx 165 (ab_iload 3)),
  (165, ab_nx 168 (ab_callV 3 8 f_X8_kindOfWord 0 0 0 0)),
  (168, ab_nx 170 (ab_istore 8)),
  (170, ab_goto 186),
  (173, ab_nx 174 (ab_iload 3)),
  (174, ab_if 177 186 (fun x => !decide (x = 0))),
  (177, ab_nx 179 (ab_iload 4)),
  (179, ab_nx 180 (ab_lit (.int 3))),
  (180, ab_icmp 183 186 (fun x y => decide (y < x))),
  (183, ab_nx 184 (ab_lit (.int 3))),
  (184, ab_nx 186 (ab_istore 8)),
  (186, ab_nx 187 (ab_aload 1)),
  (187, ab_nx 189 (ab_iload 8)),
  (189, ab_nx 190 (ab_iload 2)),
  (190, ab_nx 192 (ab_iload 8)),
  (192, ab_nx 193 (ab_lit (.int 3))),
  (193, ab_icmp 196 202 (fun x y => !decide (x = y))),
  (196, ab_nx 198 (ab_iload 7)),
  (198, ab_nx 199 ab_i2l),
  (199, ab_goto 204),
  (202, ab_nx 204 (ab_lload 5)),
  (204, ab_nx 207 (ab_callV 4 9 f_X9_add 0 0 0 0)),
  (207, ab_nx 209 (ab_iload 8)),
  (209, ab_ret 0 0)]
set_option maxRecDepth 100000 in
set_option maxHeartbeats 4000000 in
theorem M_X8_cutRun {l : Launch} {b : ab_B} {D : va_G} {cA : Nat → ClassId} {f_X8_valueAt : List Value → ab_H → Option ab_O} (h_X8_valueAt : ab_M l b D ab_cl cA (ab_E0 b) yX8_valueAt (Cond.code yX8_valueAt cX8_valueAt 2 (some .int) :: ab_G) ({ frames := 1, cells := 0, slots := 0, locals := 100 } : Room) f_X8_valueAt) {f_X8_isLetter : List Value → ab_H → Option ab_O} (h_X8_isLetter : ab_M l b D ab_cl cA (ab_E0 b) yX8_isLetter (Cond.code yX8_isLetter cX8_isLetter 1 (some .boolean) :: ab_G) ({ frames := 1, cells := 0, slots := 0, locals := 100 } : Room) f_X8_isLetter) {f_X8_isDigit : List Value → ab_H → Option ab_O} (h_X8_isDigit : ab_M l b D ab_cl cA (ab_E0 b) yX8_isDigit (Cond.code yX8_isDigit cX8_isDigit 1 (some .boolean) :: ab_G) ({ frames := 1, cells := 0, slots := 0, locals := 100 } : Room) f_X8_isDigit) {f_X8_kindOfWord : List Value → ab_H → Option ab_O} (h_X8_kindOfWord : ab_M l b D ab_cl cA (ab_E0 b) yX8_kindOfWord (Cond.code yX8_kindOfWord cX8_kindOfWord 4 (some .int) :: ab_G) ({ frames := 6, cells := 0, slots := 0, locals := 600 } : Room) f_X8_kindOfWord) {f_X9_add : List Value → ab_H → Option ab_O} (h_X9_add : ab_M l b D ab_cl cA (ab_E0 b) yX9_add (Cond.code yX9_add cX9_add 5 none :: ab_G) ({ frames := 1, cells := 0, slots := 0, locals := 100 } : Room) f_X9_add) : ab_M l b D ab_cl cA (ab_E0 b) yX8_cutRun (Cond.code yX8_cutRun cX8_cutRun 9 (some .int) :: ab_G) ({ frames := 7, cells := 0, slots := 0, locals := 700 } : Room) (ab_X (ab_T (L_X8_cutRun f_X8_valueAt f_X8_isLetter f_X8_isDigit f_X8_kindOfWord f_X9_add)) 9) := by
  refine ab_meth (ret := (some .int)) (L_X8_cutRun f_X8_valueAt f_X8_isLetter f_X8_isDigit f_X8_kindOfWord f_X9_add) (by decide) rfl fun p e R s m args below meth c o C => ?_
  unfold L_X8_cutRun
  refine List.forall_mem_cons.mpr ⟨ok_aload_n C (show decode cX8_cutRun 0 = .ok (.aload_n 0, 1) by decide +kernel) rfl rfl, ?_⟩
  refine List.forall_mem_cons.mpr ⟨ok_getf C (wi_X8) rfl (by decide) kw_41 (show decode cX8_cutRun 1 = .ok (.getfield 24, 3) by decide +kernel) rfl, ?_⟩
  refine List.forall_mem_cons.mpr ⟨ok_istore_n C (show decode cX8_cutRun 4 = .ok (.istore_n 2, 1) by decide +kernel) rfl (by decide) rfl, ?_⟩
  refine List.forall_mem_cons.mpr ⟨ok_iconst C (show decode cX8_cutRun 5 = .ok (.iconst 0, 1) by decide +kernel) (by decide) rfl, ?_⟩
  refine List.forall_mem_cons.mpr ⟨ok_istore_n C (show decode cX8_cutRun 6 = .ok (.istore_n 3, 1) by decide +kernel) rfl (by decide) rfl, ?_⟩
  refine List.forall_mem_cons.mpr ⟨ok_iconst C (show decode cX8_cutRun 7 = .ok (.iconst 0, 1) by decide +kernel) (by decide) rfl, ?_⟩
  refine List.forall_mem_cons.mpr ⟨ok_istore C (show decode cX8_cutRun 8 = .ok (.istore 4, 2) by decide +kernel) (by decide) rfl, ?_⟩
  refine List.forall_mem_cons.mpr ⟨ok_lconst C (show decode cX8_cutRun 10 = .ok (.lconst 0, 1) by decide +kernel) (by decide) rfl, ?_⟩
  refine List.forall_mem_cons.mpr ⟨ok_lstore C (show decode cX8_cutRun 11 = .ok (.lstore 5, 2) by decide +kernel) (by decide) rfl, ?_⟩
  refine List.forall_mem_cons.mpr ⟨ok_iconst C (show decode cX8_cutRun 13 = .ok (.iconst 0, 1) by decide +kernel) (by decide) rfl, ?_⟩
  refine List.forall_mem_cons.mpr ⟨ok_istore C (show decode cX8_cutRun 14 = .ok (.istore 7, 2) by decide +kernel) (by decide) rfl, ?_⟩
  refine List.forall_mem_cons.mpr ⟨ok_aload_n C (show decode cX8_cutRun 16 = .ok (.aload_n 0, 1) by decide +kernel) rfl rfl, ?_⟩
  refine List.forall_mem_cons.mpr ⟨ok_getf C (wi_X8) rfl (by decide) kw_41 (show decode cX8_cutRun 17 = .ok (.getfield 24, 3) by decide +kernel) rfl, ?_⟩
  refine List.forall_mem_cons.mpr ⟨ok_aload_n C (show decode cX8_cutRun 20 = .ok (.aload_n 0, 1) by decide +kernel) rfl rfl, ?_⟩
  refine List.forall_mem_cons.mpr ⟨ok_getf C (wi_X8) rfl (by decide) kw_40 (show decode cX8_cutRun 21 = .ok (.getfield 15, 3) by decide +kernel) rfl, ?_⟩
  refine List.forall_mem_cons.mpr ⟨ok_icmpge C (show decode cX8_cutRun 24 = .ok (.if_icmp .ge 124, 3) by decide +kernel) (tg := 148) (by decide) rfl rfl, ?_⟩
  refine List.forall_mem_cons.mpr ⟨ok_aload_n C (show decode cX8_cutRun 27 = .ok (.aload_n 0, 1) by decide +kernel) rfl rfl, ?_⟩
  refine List.forall_mem_cons.mpr ⟨ok_aload_n C (show decode cX8_cutRun 28 = .ok (.aload_n 0, 1) by decide +kernel) rfl rfl, ?_⟩
  refine List.forall_mem_cons.mpr ⟨ok_getf C (wi_X8) rfl (by decide) kw_41 (show decode cX8_cutRun 29 = .ok (.getfield 24, 3) by decide +kernel) rfl, ?_⟩
  refine List.forall_mem_cons.mpr ⟨ok_callV C h_X8_valueAt ⟨rfl, rfl⟩ rfl kw_404 kw_401 kw_402 kw_403 kw_2 rfl ds_X8_valueAt ⟨by decide, by decide⟩ (show decode cX8_cutRun 32 = .ok (.invokevirtual 44, 3) by decide +kernel) rfl, ?_⟩
  refine List.forall_mem_cons.mpr ⟨ok_callS C h_X8_isLetter ⟨rfl, rfl⟩ kw_411 kw_409 kw_410 kw_2 ds_X8_isLetter ⟨by decide, by decide⟩ (show decode cX8_cutRun 35 = .ok (.invokestatic 48, 3) by decide +kernel) rfl, ?_⟩
  refine List.forall_mem_cons.mpr ⟨ok_ifne C (show decode cX8_cutRun 38 = .ok (.ifCond .ne 17, 3) by decide +kernel) (tg := 55) (by decide) rfl rfl, ?_⟩
  refine List.forall_mem_cons.mpr ⟨ok_aload_n C (show decode cX8_cutRun 41 = .ok (.aload_n 0, 1) by decide +kernel) rfl rfl, ?_⟩
  refine List.forall_mem_cons.mpr ⟨ok_aload_n C (show decode cX8_cutRun 42 = .ok (.aload_n 0, 1) by decide +kernel) rfl rfl, ?_⟩
  refine List.forall_mem_cons.mpr ⟨ok_getf C (wi_X8) rfl (by decide) kw_41 (show decode cX8_cutRun 43 = .ok (.getfield 24, 3) by decide +kernel) rfl, ?_⟩
  refine List.forall_mem_cons.mpr ⟨ok_callV C h_X8_valueAt ⟨rfl, rfl⟩ rfl kw_404 kw_401 kw_402 kw_403 kw_2 rfl ds_X8_valueAt ⟨by decide, by decide⟩ (show decode cX8_cutRun 46 = .ok (.invokevirtual 44, 3) by decide +kernel) rfl, ?_⟩
  refine List.forall_mem_cons.mpr ⟨ok_callS C h_X8_isDigit ⟨rfl, rfl⟩ kw_414 kw_412 kw_413 kw_2 ds_X8_isDigit ⟨by decide, by decide⟩ (show decode cX8_cutRun 49 = .ok (.invokestatic 52, 3) by decide +kernel) rfl, ?_⟩
  refine List.forall_mem_cons.mpr ⟨ok_ifeq C (show decode cX8_cutRun 52 = .ok (.ifCond .eq 96, 3) by decide +kernel) (tg := 148) (by decide) rfl rfl, ?_⟩
  refine List.forall_mem_cons.mpr ⟨ok_aload_n C (show decode cX8_cutRun 55 = .ok (.aload_n 0, 1) by decide +kernel) rfl rfl, ?_⟩
  refine List.forall_mem_cons.mpr ⟨ok_aload_n C (show decode cX8_cutRun 56 = .ok (.aload_n 0, 1) by decide +kernel) rfl rfl, ?_⟩
  refine List.forall_mem_cons.mpr ⟨ok_getf C (wi_X8) rfl (by decide) kw_41 (show decode cX8_cutRun 57 = .ok (.getfield 24, 3) by decide +kernel) rfl, ?_⟩
  refine List.forall_mem_cons.mpr ⟨ok_callV C h_X8_valueAt ⟨rfl, rfl⟩ rfl kw_404 kw_401 kw_402 kw_403 kw_2 rfl ds_X8_valueAt ⟨by decide, by decide⟩ (show decode cX8_cutRun 60 = .ok (.invokevirtual 44, 3) by decide +kernel) rfl, ?_⟩
  refine List.forall_mem_cons.mpr ⟨ok_istore C (show decode cX8_cutRun 63 = .ok (.istore 8, 2) by decide +kernel) (by decide) rfl, ?_⟩
  refine List.forall_mem_cons.mpr ⟨ok_iload C (show decode cX8_cutRun 65 = .ok (.iload 8, 2) by decide +kernel) rfl, ?_⟩
  refine List.forall_mem_cons.mpr ⟨ok_callS C h_X8_isDigit ⟨rfl, rfl⟩ kw_414 kw_412 kw_413 kw_2 ds_X8_isDigit ⟨by decide, by decide⟩ (show decode cX8_cutRun 67 = .ok (.invokestatic 52, 3) by decide +kernel) rfl, ?_⟩
  refine List.forall_mem_cons.mpr ⟨ok_ifeq C (show decode cX8_cutRun 70 = .ok (.ifCond .eq 33, 3) by decide +kernel) (tg := 103) (by decide) rfl rfl, ?_⟩
  refine List.forall_mem_cons.mpr ⟨ok_iinc C (show decode cX8_cutRun 73 = .ok (.iinc 4 1, 3) by decide +kernel) (by decide) (by decide) rfl, ?_⟩
  refine List.forall_mem_cons.mpr ⟨ok_iload C (show decode cX8_cutRun 76 = .ok (.iload 4, 2) by decide +kernel) rfl, ?_⟩
  refine List.forall_mem_cons.mpr ⟨ok_iconst C (show decode cX8_cutRun 78 = .ok (.iconst 3, 1) by decide +kernel) (by decide) rfl, ?_⟩
  refine List.forall_mem_cons.mpr ⟨ok_icmpgt C (show decode cX8_cutRun 79 = .ok (.if_icmp .gt 17, 3) by decide +kernel) (tg := 96) (by decide) rfl rfl, ?_⟩
  refine List.forall_mem_cons.mpr ⟨ok_iload C (show decode cX8_cutRun 82 = .ok (.iload 7, 2) by decide +kernel) rfl, ?_⟩
  refine List.forall_mem_cons.mpr ⟨ok_bipush C (show decode cX8_cutRun 84 = .ok (.bipush 10, 2) by decide +kernel) (by decide) rfl, ?_⟩
  refine List.forall_mem_cons.mpr ⟨ok_imul C (show decode cX8_cutRun 86 = .ok (.imul, 1) by decide +kernel) rfl, ?_⟩
  refine List.forall_mem_cons.mpr ⟨ok_iload C (show decode cX8_cutRun 87 = .ok (.iload 8, 2) by decide +kernel) rfl, ?_⟩
  refine List.forall_mem_cons.mpr ⟨ok_iadd C (show decode cX8_cutRun 89 = .ok (.iadd, 1) by decide +kernel) rfl, ?_⟩
  refine List.forall_mem_cons.mpr ⟨ok_bipush C (show decode cX8_cutRun 90 = .ok (.bipush 48, 2) by decide +kernel) (by decide) rfl, ?_⟩
  refine List.forall_mem_cons.mpr ⟨ok_isub C (show decode cX8_cutRun 92 = .ok (.isub, 1) by decide +kernel) rfl, ?_⟩
  refine List.forall_mem_cons.mpr ⟨ok_goto C (show decode cX8_cutRun 93 = .ok (.goto 5, 3) by decide +kernel) (tg := 98) (by decide) rfl, ?_⟩
  refine List.forall_mem_cons.mpr ⟨ok_iload C (show decode cX8_cutRun 96 = .ok (.iload 7, 2) by decide +kernel) rfl, ?_⟩
  refine List.forall_mem_cons.mpr ⟨ok_istore C (show decode cX8_cutRun 98 = .ok (.istore 7, 2) by decide +kernel) (by decide) rfl, ?_⟩
  refine List.forall_mem_cons.mpr ⟨ok_goto C (show decode cX8_cutRun 100 = .ok (.goto 35, 3) by decide +kernel) (tg := 135) (by decide) rfl, ?_⟩
  refine List.forall_mem_cons.mpr ⟨ok_iinc C (show decode cX8_cutRun 103 = .ok (.iinc 3 1, 3) by decide +kernel) (by decide) (by decide) rfl, ?_⟩
  refine List.forall_mem_cons.mpr ⟨ok_iload_n C (show decode cX8_cutRun 106 = .ok (.iload_n 3, 1) by decide +kernel) rfl rfl, ?_⟩
  refine List.forall_mem_cons.mpr ⟨ok_bipush C (show decode cX8_cutRun 107 = .ok (.bipush 7, 2) by decide +kernel) (by decide) rfl, ?_⟩
  refine List.forall_mem_cons.mpr ⟨ok_icmpgt C (show decode cX8_cutRun 109 = .ok (.if_icmp .gt 22, 3) by decide +kernel) (tg := 131) (by decide) rfl rfl, ?_⟩
  refine List.forall_mem_cons.mpr ⟨ok_lload C (show decode cX8_cutRun 112 = .ok (.lload 5, 2) by decide +kernel) rfl, ?_⟩
  refine List.forall_mem_cons.mpr ⟨ok_ldc2 C (show decode cX8_cutRun 114 = .ok (.ldc2_w 61, 3) by decide +kernel) (gm kw_419) rfl, ?_⟩
  refine List.forall_mem_cons.mpr ⟨ok_lmul C (show decode cX8_cutRun 117 = .ok (.lmul, 1) by decide +kernel) rfl, ?_⟩
  refine List.forall_mem_cons.mpr ⟨ok_iload C (show decode cX8_cutRun 118 = .ok (.iload 8, 2) by decide +kernel) rfl, ?_⟩
  refine List.forall_mem_cons.mpr ⟨ok_i2l C (show decode cX8_cutRun 120 = .ok (.i2l, 1) by decide +kernel) rfl, ?_⟩
  refine List.forall_mem_cons.mpr ⟨ok_ladd C (show decode cX8_cutRun 121 = .ok (.ladd, 1) by decide +kernel) rfl, ?_⟩
  refine List.forall_mem_cons.mpr ⟨ok_ldc2 C (show decode cX8_cutRun 122 = .ok (.ldc2_w 63, 3) by decide +kernel) (gm kw_420) rfl, ?_⟩
  refine List.forall_mem_cons.mpr ⟨ok_lsub C (show decode cX8_cutRun 125 = .ok (.lsub, 1) by decide +kernel) rfl, ?_⟩
  refine List.forall_mem_cons.mpr ⟨ok_lconst C (show decode cX8_cutRun 126 = .ok (.lconst 1, 1) by decide +kernel) (by decide) rfl, ?_⟩
  refine List.forall_mem_cons.mpr ⟨ok_ladd C (show decode cX8_cutRun 127 = .ok (.ladd, 1) by decide +kernel) rfl, ?_⟩
  refine List.forall_mem_cons.mpr ⟨ok_goto C (show decode cX8_cutRun 128 = .ok (.goto 5, 3) by decide +kernel) (tg := 133) (by decide) rfl, ?_⟩
  refine List.forall_mem_cons.mpr ⟨ok_lload C (show decode cX8_cutRun 131 = .ok (.lload 5, 2) by decide +kernel) rfl, ?_⟩
  refine List.forall_mem_cons.mpr ⟨ok_lstore C (show decode cX8_cutRun 133 = .ok (.lstore 5, 2) by decide +kernel) (by decide) rfl, ?_⟩
  refine List.forall_mem_cons.mpr ⟨ok_aload_n C (show decode cX8_cutRun 135 = .ok (.aload_n 0, 1) by decide +kernel) rfl rfl, ?_⟩
  refine List.forall_mem_cons.mpr ⟨ok_dup C (show decode cX8_cutRun 136 = .ok (.dup, 1) by decide +kernel) rfl, ?_⟩
  refine List.forall_mem_cons.mpr ⟨ok_getf C (wi_X8) rfl (by decide) kw_41 (show decode cX8_cutRun 137 = .ok (.getfield 24, 3) by decide +kernel) rfl, ?_⟩
  refine List.forall_mem_cons.mpr ⟨ok_iconst C (show decode cX8_cutRun 140 = .ok (.iconst 1, 1) by decide +kernel) (by decide) rfl, ?_⟩
  refine List.forall_mem_cons.mpr ⟨ok_iadd C (show decode cX8_cutRun 141 = .ok (.iadd, 1) by decide +kernel) rfl, ?_⟩
  refine List.forall_mem_cons.mpr ⟨ok_putf C (wi_X8) tyX8 tyX8_ok nmX8 rfl (by decide) kw_41 (Or.inl rfl) (Or.inl ⟨rfl, rfl⟩) (show decode cX8_cutRun 142 = .ok (.putfield 24, 3) by decide +kernel) rfl, ?_⟩
  refine List.forall_mem_cons.mpr ⟨ok_goto C (show decode cX8_cutRun 145 = .ok (.goto (-129), 3) by decide +kernel) (tg := 16) (by decide) rfl, ?_⟩
  refine List.forall_mem_cons.mpr ⟨ok_iconst C (show decode cX8_cutRun 148 = .ok (.iconst 1, 1) by decide +kernel) (by decide) rfl, ?_⟩
  refine List.forall_mem_cons.mpr ⟨ok_istore C (show decode cX8_cutRun 149 = .ok (.istore 8, 2) by decide +kernel) (by decide) rfl, ?_⟩
  refine List.forall_mem_cons.mpr ⟨ok_iload C (show decode cX8_cutRun 151 = .ok (.iload 4, 2) by decide +kernel) rfl, ?_⟩
  refine List.forall_mem_cons.mpr ⟨ok_ifne C (show decode cX8_cutRun 153 = .ok (.ifCond .ne 20, 3) by decide +kernel) (tg := 173) (by decide) rfl rfl, ?_⟩
  refine List.forall_mem_cons.mpr ⟨ok_iload_n C (show decode cX8_cutRun 156 = .ok (.iload_n 3, 1) by decide +kernel) rfl rfl, ?_⟩
  refine List.forall_mem_cons.mpr ⟨ok_bipush C (show decode cX8_cutRun 157 = .ok (.bipush 7, 2) by decide +kernel) (by decide) rfl, ?_⟩
  refine List.forall_mem_cons.mpr ⟨ok_icmpgt C (show decode cX8_cutRun 159 = .ok (.if_icmp .gt 14, 3) by decide +kernel) (tg := 173) (by decide) rfl rfl, ?_⟩
  refine List.forall_mem_cons.mpr ⟨ok_aload_n C (show decode cX8_cutRun 162 = .ok (.aload_n 0, 1) by decide +kernel) rfl rfl, ?_⟩
  refine List.forall_mem_cons.mpr ⟨ok_iload_n C (show decode cX8_cutRun 163 = .ok (.iload_n 2, 1) by decide +kernel) rfl rfl, ?_⟩
  refine List.forall_mem_cons.mpr ⟨ok_iload_n C (show decode cX8_cutRun 164 = .ok (.iload_n 3, 1) by decide +kernel) rfl rfl, ?_⟩
  refine List.forall_mem_cons.mpr ⟨ok_callV C h_X8_kindOfWord ⟨rfl, rfl⟩ rfl kw_424 kw_421 kw_423 kp_3 kw_2 rfl ds_X8_kindOfWord ⟨by decide, by decide⟩ (show decode cX8_cutRun 165 = .ok (.invokevirtual 65, 3) by decide +kernel) rfl, ?_⟩
  refine List.forall_mem_cons.mpr ⟨ok_istore C (show decode cX8_cutRun 168 = .ok (.istore 8, 2) by decide +kernel) (by decide) rfl, ?_⟩
  refine List.forall_mem_cons.mpr ⟨ok_goto C (show decode cX8_cutRun 170 = .ok (.goto 16, 3) by decide +kernel) (tg := 186) (by decide) rfl, ?_⟩
  refine List.forall_mem_cons.mpr ⟨ok_iload_n C (show decode cX8_cutRun 173 = .ok (.iload_n 3, 1) by decide +kernel) rfl rfl, ?_⟩
  refine List.forall_mem_cons.mpr ⟨ok_ifne C (show decode cX8_cutRun 174 = .ok (.ifCond .ne 12, 3) by decide +kernel) (tg := 186) (by decide) rfl rfl, ?_⟩
  refine List.forall_mem_cons.mpr ⟨ok_iload C (show decode cX8_cutRun 177 = .ok (.iload 4, 2) by decide +kernel) rfl, ?_⟩
  refine List.forall_mem_cons.mpr ⟨ok_iconst C (show decode cX8_cutRun 179 = .ok (.iconst 3, 1) by decide +kernel) (by decide) rfl, ?_⟩
  refine List.forall_mem_cons.mpr ⟨ok_icmpgt C (show decode cX8_cutRun 180 = .ok (.if_icmp .gt 6, 3) by decide +kernel) (tg := 186) (by decide) rfl rfl, ?_⟩
  refine List.forall_mem_cons.mpr ⟨ok_iconst C (show decode cX8_cutRun 183 = .ok (.iconst 3, 1) by decide +kernel) (by decide) rfl, ?_⟩
  refine List.forall_mem_cons.mpr ⟨ok_istore C (show decode cX8_cutRun 184 = .ok (.istore 8, 2) by decide +kernel) (by decide) rfl, ?_⟩
  refine List.forall_mem_cons.mpr ⟨ok_aload_n C (show decode cX8_cutRun 186 = .ok (.aload_n 1, 1) by decide +kernel) rfl rfl, ?_⟩
  refine List.forall_mem_cons.mpr ⟨ok_iload C (show decode cX8_cutRun 187 = .ok (.iload 8, 2) by decide +kernel) rfl, ?_⟩
  refine List.forall_mem_cons.mpr ⟨ok_iload_n C (show decode cX8_cutRun 189 = .ok (.iload_n 2, 1) by decide +kernel) rfl rfl, ?_⟩
  refine List.forall_mem_cons.mpr ⟨ok_iload C (show decode cX8_cutRun 190 = .ok (.iload 8, 2) by decide +kernel) rfl, ?_⟩
  refine List.forall_mem_cons.mpr ⟨ok_iconst C (show decode cX8_cutRun 192 = .ok (.iconst 3, 1) by decide +kernel) (by decide) rfl, ?_⟩
  refine List.forall_mem_cons.mpr ⟨ok_icmpne C (show decode cX8_cutRun 193 = .ok (.if_icmp .ne 9, 3) by decide +kernel) (tg := 202) (by decide) rfl rfl, ?_⟩
  refine List.forall_mem_cons.mpr ⟨ok_iload C (show decode cX8_cutRun 196 = .ok (.iload 7, 2) by decide +kernel) rfl, ?_⟩
  refine List.forall_mem_cons.mpr ⟨ok_i2l C (show decode cX8_cutRun 198 = .ok (.i2l, 1) by decide +kernel) rfl, ?_⟩
  refine List.forall_mem_cons.mpr ⟨ok_goto C (show decode cX8_cutRun 199 = .ok (.goto 5, 3) by decide +kernel) (tg := 204) (by decide) rfl, ?_⟩
  refine List.forall_mem_cons.mpr ⟨ok_lload C (show decode cX8_cutRun 202 = .ok (.lload 5, 2) by decide +kernel) rfl, ?_⟩
  refine List.forall_mem_cons.mpr ⟨ok_callV C h_X9_add ⟨rfl, rfl⟩ rfl kw_481 kw_478 kw_479 kw_480 kw_3 rfl ds_X9_add ⟨by decide, by decide⟩ (show decode cX8_cutRun 204 = .ok (.invokevirtual 40, 3) by decide +kernel) rfl, ?_⟩
  refine List.forall_mem_cons.mpr ⟨ok_iload C (show decode cX8_cutRun 207 = .ok (.iload 8, 2) by decide +kernel) rfl, ?_⟩
  refine List.forall_mem_cons.mpr ⟨ok_ret C rfl (show decode cX8_cutRun 209 = .ok (.ireturn, 1) by decide +kernel), ?_⟩
  exact fun _ h => absurd h List.not_mem_nil
