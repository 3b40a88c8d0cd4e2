def L_X10_drawDeath (f_X0_drawOf : List Value → ab_H → Option ab_O) (f_X6_attempt : List Value → ab_H → Option ab_O) : List (Nat × ab_A) := [
  (0, ab_nx 1 (ab_aload 0)),
  (1, ab_nx 4 (ab_getf 10 8)),
  (4, ab_nx 6 (ab_lit (.int 90))),
  (6, ab_nx 9 (ab_callV 2 0 f_X0_drawOf 0 0 0 0)),
  (9, ab_if 12 43 (fun x => !decide (x = 0))),
  (12, ab_nx 13 (ab_aload 0)),
  (13, ab_nx 16 (ab_getf 10 13)),
  (16, ab_nx 19 (ab_getf 7 9)),
  (19, ab_if 22 43 (fun x => decide (x ≤ 0))),
  (22, ab_nx 23 (ab_aload 1)),
  (23, ab_nx 24 (ab_lit (.int 3))),
  (24, ab_nx 25 (ab_aload 0)),
  (25, ab_nx 28 (ab_getf 10 8)),
  (28, ab_nx 29 (ab_aload 0)),
  (29, ab_nx 32 (ab_getf 10 13)),
  (32, ab_nx 35 (ab_getf 7 9)),
  (35, ab_nx 38 (ab_callV 2 0 f_X0_drawOf 0 0 0 0)),
  (38, ab_nx 39 (ab_lit (.int 0))),
  (39, ab_nx 42 (ab_callV 4 6 f_X6_attempt 0 0 0 0)),
  (42, ab_nx 43 ab_pop),
  (43, ab_vret 0 0)]
set_option maxRecDepth 100000 in
set_option maxHeartbeats 4000000 in
theorem M_X10_drawDeath {l : Launch} {b : ab_B} {D : va_G} {cA : Nat → ClassId} {f_X0_drawOf : List Value → ab_H → Option ab_O} (h_X0_drawOf : ab_M l b D ab_cl cA (ab_E0 b) yX0_drawOf (Cond.code yX0_drawOf cX0_drawOf 2 (some .int) :: ab_G) ({ frames := 1, cells := 0, slots := 0, locals := 100 } : Room) f_X0_drawOf) {f_X6_attempt : List Value → ab_H → Option ab_O} (h_X6_attempt : ab_M l b D ab_cl cA (ab_E0 b) yX6_attempt (Cond.code yX6_attempt cX6_attempt 5 (some .int) :: ab_G) ({ frames := 3, cells := 0, slots := 0, locals := 300 } : Room) f_X6_attempt) : ab_M l b D ab_cl cA (ab_E0 b) yX10_drawDeath (Cond.code yX10_drawDeath cX10_drawDeath 2 none :: ab_G) ({ frames := 4, cells := 0, slots := 0, locals := 400 } : Room) (ab_X (ab_T (L_X10_drawDeath f_X0_drawOf f_X6_attempt)) 2) := by
  refine ab_meth (ret := none) (L_X10_drawDeath f_X0_drawOf f_X6_attempt) (by decide) rfl fun p e R s m args below meth c o C => ?_
  unfold L_X10_drawDeath
  refine List.forall_mem_cons.mpr ⟨ok_aload_n C (show decode cX10_drawDeath 0 = .ok (.aload_n 0, 1) by decide +kernel) rfl rfl, ?_⟩
  refine List.forall_mem_cons.mpr ⟨ok_getf C (wi_X10) rfl (by decide) kw_323 (show decode cX10_drawDeath 1 = .ok (.getfield 60, 3) by decide +kernel) rfl, ?_⟩
  refine List.forall_mem_cons.mpr ⟨ok_bipush C (show decode cX10_drawDeath 4 = .ok (.bipush 90, 2) by decide +kernel) (by decide) rfl, ?_⟩
  refine List.forall_mem_cons.mpr ⟨ok_callV C h_X0_drawOf ⟨rfl, rfl⟩ rfl kw_890 kw_887 kw_888 kw_889 kw_8 rfl ds_X0_drawOf ⟨by decide, by decide⟩ (show decode cX10_drawDeath 6 = .ok (.invokevirtual 335, 3) by decide +kernel) rfl, ?_⟩
  refine List.forall_mem_cons.mpr ⟨ok_ifne C (show decode cX10_drawDeath 9 = .ok (.ifCond .ne 34, 3) by decide +kernel) (tg := 43) (by decide) rfl rfl, ?_⟩
  refine List.forall_mem_cons.mpr ⟨ok_aload_n C (show decode cX10_drawDeath 12 = .ok (.aload_n 0, 1) by decide +kernel) rfl rfl, ?_⟩
  refine List.forall_mem_cons.mpr ⟨ok_getf C (wi_X10) rfl (by decide) kw_328 (show decode cX10_drawDeath 13 = .ok (.getfield 83, 3) by decide +kernel) rfl, ?_⟩
  refine List.forall_mem_cons.mpr ⟨ok_getf C (wi_X7) rfl (by decide) kw_254 (show decode cX10_drawDeath 16 = .ok (.getfield 146, 3) by decide +kernel) rfl, ?_⟩
  refine List.forall_mem_cons.mpr ⟨ok_ifle C (show decode cX10_drawDeath 19 = .ok (.ifCond .le 24, 3) by decide +kernel) (tg := 43) (by decide) rfl rfl, ?_⟩
  refine List.forall_mem_cons.mpr ⟨ok_aload_n C (show decode cX10_drawDeath 22 = .ok (.aload_n 1, 1) by decide +kernel) rfl rfl, ?_⟩
  refine List.forall_mem_cons.mpr ⟨ok_iconst C (show decode cX10_drawDeath 23 = .ok (.iconst 3, 1) by decide +kernel) (by decide) rfl, ?_⟩
  refine List.forall_mem_cons.mpr ⟨ok_aload_n C (show decode cX10_drawDeath 24 = .ok (.aload_n 0, 1) by decide +kernel) rfl rfl, ?_⟩
  refine List.forall_mem_cons.mpr ⟨ok_getf C (wi_X10) rfl (by decide) kw_323 (show decode cX10_drawDeath 25 = .ok (.getfield 60, 3) by decide +kernel) rfl, ?_⟩
  refine List.forall_mem_cons.mpr ⟨ok_aload_n C (show decode cX10_drawDeath 28 = .ok (.aload_n 0, 1) by decide +kernel) rfl rfl, ?_⟩
  refine List.forall_mem_cons.mpr ⟨ok_getf C (wi_X10) rfl (by decide) kw_328 (show decode cX10_drawDeath 29 = .ok (.getfield 83, 3) by decide +kernel) rfl, ?_⟩
  refine List.forall_mem_cons.mpr ⟨ok_getf C (wi_X7) rfl (by decide) kw_254 (show decode cX10_drawDeath 32 = .ok (.getfield 146, 3) by decide +kernel) rfl, ?_⟩
  refine List.forall_mem_cons.mpr ⟨ok_callV C h_X0_drawOf ⟨rfl, rfl⟩ rfl kw_890 kw_887 kw_888 kw_889 kw_8 rfl ds_X0_drawOf ⟨by decide, by decide⟩ (show decode cX10_drawDeath 35 = .ok (.invokevirtual 335, 3) by decide +kernel) rfl, ?_⟩
  refine List.forall_mem_cons.mpr ⟨ok_iconst C (show decode cX10_drawDeath 38 = .ok (.iconst 0, 1) by decide +kernel) (by decide) rfl, ?_⟩
  refine List.forall_mem_cons.mpr ⟨ok_callV C h_X6_attempt ⟨rfl, rfl⟩ rfl kw_895 kw_892 kw_893 kw_894 kw_6 rfl ds_X6_attempt ⟨by decide, by decide⟩ (show decode cX10_drawDeath 39 = .ok (.invokevirtual 338, 3) by decide +kernel) rfl, ?_⟩
  refine List.forall_mem_cons.mpr ⟨ok_pop C (show decode cX10_drawDeath 42 = .ok (.pop, 1) by decide +kernel) rfl, ?_⟩
  refine List.forall_mem_cons.mpr ⟨ok_vret C rfl (show decode cX10_drawDeath 43 = .ok (.return_, 1) by decide +kernel), ?_⟩
  exact fun _ h => absurd h List.not_mem_nil
def L_X10_drawDays (f_X10_drawDeed : List Value → ab_H → Option ab_O) (f_X10_drawDeath : List Value → ab_H → Option ab_O) (f_X1_passDays : List Value → ab_H → Option ab_O) : List (Nat × ab_A) := [
  (0, ab_nx 1 (ab_aload 1)),
  (1, ab_nx 4 (ab_getf 6 7)),
  (4, ab_nx 6 (ab_istore 4)),
  (6, ab_nx 7 (ab_aload 0)),
  (7, ab_nx 10 (ab_getf 10 8)),
  (10, ab_nx 11 (ab_iload 3)),
  (11, ab_nx 14 (ab_putf 0 0 0)),
  (14, ab_nx 15 (ab_lit (.int 0))),
  (15, ab_nx 17 (ab_istore 5)),
  (17, ab_nx 19 (ab_iload 5)),
  (19, ab_nx 20 (ab_iload 2)),
  (20, ab_icmp 23 63 (fun x y => decide (y ≤ x))),
  (23, ab_nx 24 (ab_aload 1)),
  (24, ab_nx 27 (ab_getf 6 7)),
  (27, ab_nx 30 (ab_lit (.int 400))),
  (30, ab_icmp 33 63 (fun x y => decide (y ≤ x))),
  (33, ab_nx 34 (ab_aload 0)),
  (34, ab_nx 35 (ab_aload 1)),
  (35, ab_nx 38 (ab_callV 2 10 f_X10_drawDeed 0 0 0 0)),
  (38, ab_nx 39 (ab_aload 0)),
  (39, ab_nx 40 (ab_aload 1)),
  (40, ab_nx 43 (ab_callV 2 10 f_X10_drawDeath 0 0 0 0)),
  (43, ab_nx 44 (ab_aload 0)),
  (44, ab_nx 47 (ab_getf 10 2)),
  (47, ab_nx 48 (ab_aload 0)),
  (48, ab_nx 51 (ab_getf 10 13)),
  (51, ab_nx 52 (ab_aload 1)),
  (52, ab_nx 53 (ab_lit (.int 1))),
  (53, ab_nx 56 (ab_callV 4 1 f_X1_passDays 0 0 0 0)),
  (56, ab_nx 57 ab_pop),
  (57, ab_nx 60 (ab_iinc 5 1)),
  (60, ab_goto 17),
  (63, ab_nx 64 (ab_aload 1)),
  (64, ab_nx 67 (ab_getf 6 7)),
  (67, ab_nx 69 (ab_iload 4)),
  (69, ab_nx 70 (ab_bin (fun x y => x - y))),
  (70, ab_ret 0 0)]
set_option maxRecDepth 100000 in
set_option maxHeartbeats 4000000 in
theorem M_X10_drawDays {l : Launch} {b : ab_B} {D : va_G} {cA : Nat → ClassId} {f_X10_drawDeed : List Value → ab_H → Option ab_O} (h_X10_drawDeed : ab_M l b D ab_cl cA (ab_E0 b) yX10_drawDeed (Cond.code yX10_drawDeed cX10_drawDeed 6 none :: ab_G) ({ frames := 4, cells := 0, slots := 0, locals := 400 } : Room) f_X10_drawDeed) {f_X10_drawDeath : List Value → ab_H → Option ab_O} (h_X10_drawDeath : ab_M l b D ab_cl cA (ab_E0 b) yX10_drawDeath (Cond.code yX10_drawDeath cX10_drawDeath 2 none :: ab_G) ({ frames := 4, cells := 0, slots := 0, locals := 400 } : Room) f_X10_drawDeath) {f_X1_passDays : List Value → ab_H → Option ab_O} (h_X1_passDays : ab_M l b D ab_cl cA (ab_E0 b) yX1_passDays (Cond.code yX1_passDays cX1_passDays 6 (some .int) :: ab_G) ({ frames := 5, cells := 0, slots := 0, locals := 500 } : Room) f_X1_passDays) : ab_M l b D ab_cl cA (ab_E0 b) yX10_drawDays (Cond.code yX10_drawDays cX10_drawDays 6 (some .int) :: ab_G) ({ frames := 6, cells := 0, slots := 0, locals := 600 } : Room) (ab_X (ab_T (L_X10_drawDays f_X10_drawDeed f_X10_drawDeath f_X1_passDays)) 6) := by
  refine ab_meth (ret := (some .int)) (L_X10_drawDays f_X10_drawDeed f_X10_drawDeath f_X1_passDays) (by decide) rfl fun p e R s m args below meth c o C => ?_
  unfold L_X10_drawDays
  refine List.forall_mem_cons.mpr ⟨ok_aload_n C (show decode cX10_drawDays 0 = .ok (.aload_n 1, 1) by decide +kernel) rfl rfl, ?_⟩
  refine List.forall_mem_cons.mpr ⟨ok_getf C (wi_X6) rfl (by decide) kw_164 (show decode cX10_drawDays 1 = .ok (.getfield 213, 3) by decide +kernel) rfl, ?_⟩
  refine List.forall_mem_cons.mpr ⟨ok_istore C (show decode cX10_drawDays 4 = .ok (.istore 4, 2) by decide +kernel) (by decide) rfl, ?_⟩
  refine List.forall_mem_cons.mpr ⟨ok_aload_n C (show decode cX10_drawDays 6 = .ok (.aload_n 0, 1) by decide +kernel) rfl rfl, ?_⟩
  refine List.forall_mem_cons.mpr ⟨ok_getf C (wi_X10) rfl (by decide) kw_323 (show decode cX10_drawDays 7 = .ok (.getfield 60, 3) by decide +kernel) rfl, ?_⟩
  refine List.forall_mem_cons.mpr ⟨ok_iload_n C (show decode cX10_drawDays 10 = .ok (.iload_n 3, 1) by decide +kernel) rfl rfl, ?_⟩
  refine List.forall_mem_cons.mpr ⟨ok_putf C (wi_X0) tyX0 tyX0_ok nmX0 rfl (by decide) kw_222 (Or.inl rfl) (Or.inl ⟨rfl, rfl⟩) (show decode cX10_drawDays 11 = .ok (.putfield 326, 3) by decide +kernel) rfl, ?_⟩
  refine List.forall_mem_cons.mpr ⟨ok_iconst C (show decode cX10_drawDays 14 = .ok (.iconst 0, 1) by decide +kernel) (by decide) rfl, ?_⟩
  refine List.forall_mem_cons.mpr ⟨ok_istore C (show decode cX10_drawDays 15 = .ok (.istore 5, 2) by decide +kernel) (by decide) rfl, ?_⟩
  refine List.forall_mem_cons.mpr ⟨ok_iload C (show decode cX10_drawDays 17 = .ok (.iload 5, 2) by decide +kernel) rfl, ?_⟩
  refine List.forall_mem_cons.mpr ⟨ok_iload_n C (show decode cX10_drawDays 19 = .ok (.iload_n 2, 1) by decide +kernel) rfl rfl, ?_⟩
  refine List.forall_mem_cons.mpr ⟨ok_icmpge C (show decode cX10_drawDays 20 = .ok (.if_icmp .ge 43, 3) by decide +kernel) (tg := 63) (by decide) rfl rfl, ?_⟩
  refine List.forall_mem_cons.mpr ⟨ok_aload_n C (show decode cX10_drawDays 23 = .ok (.aload_n 1, 1) by decide +kernel) rfl rfl, ?_⟩
  refine List.forall_mem_cons.mpr ⟨ok_getf C (wi_X6) rfl (by decide) kw_164 (show decode cX10_drawDays 24 = .ok (.getfield 213, 3) by decide +kernel) rfl, ?_⟩
  refine List.forall_mem_cons.mpr ⟨ok_sipush C (show decode cX10_drawDays 27 = .ok (.sipush 400, 3) by decide +kernel) (by decide) rfl, ?_⟩
  refine List.forall_mem_cons.mpr ⟨ok_icmpge C (show decode cX10_drawDays 30 = .ok (.if_icmp .ge 33, 3) by decide +kernel) (tg := 63) (by decide) rfl rfl, ?_⟩
  refine List.forall_mem_cons.mpr ⟨ok_aload_n C (show decode cX10_drawDays 33 = .ok (.aload_n 0, 1) by decide +kernel) rfl rfl, ?_⟩
  refine List.forall_mem_cons.mpr ⟨ok_aload_n C (show decode cX10_drawDays 34 = .ok (.aload_n 1, 1) by decide +kernel) rfl rfl, ?_⟩
  refine List.forall_mem_cons.mpr ⟨ok_callV C h_X10_drawDeed ⟨rfl, rfl⟩ rfl kw_886 kw_883 kw_885 kp_29 kw_1 rfl ds_X10_drawDeed ⟨by decide, by decide⟩ (show decode cX10_drawDays 35 = .ok (.invokevirtual 329, 3) by decide +kernel) rfl, ?_⟩
  refine List.forall_mem_cons.mpr ⟨ok_aload_n C (show decode cX10_drawDays 38 = .ok (.aload_n 0, 1) by decide +kernel) rfl rfl, ?_⟩
  refine List.forall_mem_cons.mpr ⟨ok_aload_n C (show decode cX10_drawDays 39 = .ok (.aload_n 1, 1) by decide +kernel) rfl rfl, ?_⟩
  refine List.forall_mem_cons.mpr ⟨ok_callV C h_X10_drawDeath ⟨rfl, rfl⟩ rfl kw_901 kw_898 kw_900 kp_30 kw_1 rfl ds_X10_drawDeath ⟨by decide, by decide⟩ (show decode cX10_drawDays 40 = .ok (.invokevirtual 332, 3) by decide +kernel) rfl, ?_⟩
  refine List.forall_mem_cons.mpr ⟨ok_aload_n C (show decode cX10_drawDays 43 = .ok (.aload_n 0, 1) by decide +kernel) rfl rfl, ?_⟩
  refine List.forall_mem_cons.mpr ⟨ok_getf C (wi_X10) rfl (by decide) kw_317 (show decode cX10_drawDays 44 = .ok (.getfield 26, 3) by decide +kernel) rfl, ?_⟩
  refine List.forall_mem_cons.mpr ⟨ok_aload_n C (show decode cX10_drawDays 47 = .ok (.aload_n 0, 1) by decide +kernel) rfl rfl, ?_⟩
  refine List.forall_mem_cons.mpr ⟨ok_getf C (wi_X10) rfl (by decide) kw_328 (show decode cX10_drawDays 48 = .ok (.getfield 83, 3) by decide +kernel) rfl, ?_⟩
  refine List.forall_mem_cons.mpr ⟨ok_aload_n C (show decode cX10_drawDays 51 = .ok (.aload_n 1, 1) by decide +kernel) rfl rfl, ?_⟩
  refine List.forall_mem_cons.mpr ⟨ok_iconst C (show decode cX10_drawDays 52 = .ok (.iconst 1, 1) by decide +kernel) (by decide) rfl, ?_⟩
  refine List.forall_mem_cons.mpr ⟨ok_callV C h_X1_passDays ⟨rfl, rfl⟩ rfl kw_751 kw_748 kw_749 kw_750 kw_4 rfl ds_X1_passDays ⟨by decide, by decide⟩ (show decode cX10_drawDays 53 = .ok (.invokevirtual 266, 3) by decide +kernel) rfl, ?_⟩
  refine List.forall_mem_cons.mpr ⟨ok_pop C (show decode cX10_drawDays 56 = .ok (.pop, 1) by decide +kernel) rfl, ?_⟩
  refine List.forall_mem_cons.mpr ⟨ok_iinc C (show decode cX10_drawDays 57 = .ok (.iinc 5 1, 3) by decide +kernel) (by decide) (by decide) rfl, ?_⟩
  refine List.forall_mem_cons.mpr ⟨ok_goto C (show decode cX10_drawDays 60 = .ok (.goto (-43), 3) by decide +kernel) (tg := 17) (by decide) rfl, ?_⟩
  refine List.forall_mem_cons.mpr ⟨ok_aload_n C (show decode cX10_drawDays 63 = .ok (.aload_n 1, 1) by decide +kernel) rfl rfl, ?_⟩
  refine List.forall_mem_cons.mpr ⟨ok_getf C (wi_X6) rfl (by decide) kw_164 (show decode cX10_drawDays 64 = .ok (.getfield 213, 3) by decide +kernel) rfl, ?_⟩
  refine List.forall_mem_cons.mpr ⟨ok_iload C (show decode cX10_drawDays 67 = .ok (.iload 4, 2) by decide +kernel) rfl, ?_⟩
  refine List.forall_mem_cons.mpr ⟨ok_isub C (show decode cX10_drawDays 69 = .ok (.isub, 1) by decide +kernel) rfl, ?_⟩
  refine List.forall_mem_cons.mpr ⟨ok_ret C rfl (show decode cX10_drawDays 70 = .ok (.ireturn, 1) by decide +kernel), ?_⟩
  exact fun _ h => absurd h List.not_mem_nil
def L_X10_drawn (f_X10_isWithin : List Value → ab_H → Option ab_O) (f_X2_keep : List Value → ab_H → Option ab_O) (f_X10_drawDays : List Value → ab_H → Option ab_O) : List (Nat × ab_A) := [
  (0, ab_nx 1 (ab_iload 1)),
  (1, ab_nx 3 (ab_lit (.int 60))),
  (3, ab_nx 6 (ab_call 2 f_X10_isWithin 0 0 8 138)),
  (6, ab_if 9 19 (fun x => decide (x = 0))),
  (9, ab_nx 10 (ab_aload 0)),
  (10, ab_nx 13 (ab_getf 10 13)),
  (13, ab_nx 16 (ab_getf 7 8)),
  (16, ab_if 19 21 (fun x => !decide (x = 0))),
  (19, ab_nx 20 (ab_lit (.int (-1)))),
  (20, ab_ret 8 138),
  (21, ab_nx 22 (ab_aload 0)),
  (22, ab_nx 25 (ab_getf 10 4)),
  (25, ab_nx 28 (ab_getf 6 7)),
  (28, ab_nx 31 (ab_lit (.int 400))),
  (31, ab_icmp 34 45 (fun x y => decide (y ≤ x))),
  (34, ab_nx 35 (ab_aload 0)),
  (35, ab_nx 38 (ab_getf 10 3)),
  (38, ab_nx 39 (ab_aload 0)),
  (39, ab_nx 42 (ab_getf 10 4)),
  (42, ab_nx 45 (ab_callV 2 2 f_X2_keep 8 138 8 138)),
  (45, ab_nx 46 (ab_aload 0)),
  (46, ab_nx 47 (ab_aload 0)),
  (47, ab_nx 50 (ab_getf 10 4)),
  (50, ab_nx 51 (ab_iload 1)),
  (51, ab_nx 52 (ab_iload 2)),
  (52, ab_nx 55 (ab_callV 4 10 f_X10_drawDays 0 0 8 138)),
  (55, ab_ret 8 138)]
set_option maxRecDepth 100000 in
set_option maxHeartbeats 4000000 in
theorem M_X10_drawn {l : Launch} {b : ab_B} {D : va_G} {cA : Nat → ClassId} {f_X10_isWithin : List Value → ab_H → Option ab_O} (h_X10_isWithin : ab_M l b D ab_cl cA (ab_E0 b) yX10_isWithin (Cond.code yX10_isWithin cX10_isWithin 2 (some .boolean) :: ab_G) ({ frames := 1, cells := 0, slots := 0, locals := 100 } : Room) f_X10_isWithin) {f_X2_keep : List Value → ab_H → Option ab_O} (h_X2_keep : ab_M l b D ab_cl cA (ab_E0 b) yX2_keep (Cond.code yX2_keep cX2_keep 3 none :: ab_G) ({ frames := 3, cells := 8, slots := 138, locals := 300 } : Room) f_X2_keep) {f_X10_drawDays : List Value → ab_H → Option ab_O} (h_X10_drawDays : ab_M l b D ab_cl cA (ab_E0 b) yX10_drawDays (Cond.code yX10_drawDays cX10_drawDays 6 (some .int) :: ab_G) ({ frames := 6, cells := 0, slots := 0, locals := 600 } : Room) f_X10_drawDays) : ab_M l b D ab_cl cA (ab_E0 b) yX10_drawn (Cond.code yX10_drawn cX10_drawn 3 (some .int) :: ab_G) ({ frames := 7, cells := 8, slots := 138, locals := 700 } : Room) (ab_X (ab_T (L_X10_drawn f_X10_isWithin f_X2_keep f_X10_drawDays)) 3) := by
  refine ab_meth (ret := (some .int)) (L_X10_drawn f_X10_isWithin f_X2_keep f_X10_drawDays) (by decide) rfl fun p e R s m args below meth c o C => ?_
  unfold L_X10_drawn
  refine List.forall_mem_cons.mpr ⟨ok_iload_n C (show decode cX10_drawn 0 = .ok (.iload_n 1, 1) by decide +kernel) rfl rfl, ?_⟩
  refine List.forall_mem_cons.mpr ⟨ok_bipush C (show decode cX10_drawn 1 = .ok (.bipush 60, 2) by decide +kernel) (by decide) rfl, ?_⟩
  refine List.forall_mem_cons.mpr ⟨ok_callS C h_X10_isWithin ⟨rfl, rfl⟩ kw_707 kw_705 kw_706 kw_1 ds_X10_isWithin ⟨by decide, by decide⟩ (show decode cX10_drawn 3 = .ok (.invokestatic 251, 3) by decide +kernel) rfl, ?_⟩
  refine List.forall_mem_cons.mpr ⟨ok_ifeq C (show decode cX10_drawn 6 = .ok (.ifCond .eq 13, 3) by decide +kernel) (tg := 19) (by decide) rfl rfl, ?_⟩
  refine List.forall_mem_cons.mpr ⟨ok_aload_n C (show decode cX10_drawn 9 = .ok (.aload_n 0, 1) by decide +kernel) rfl rfl, ?_⟩
  refine List.forall_mem_cons.mpr ⟨ok_getf C (wi_X10) rfl (by decide) kw_328 (show decode cX10_drawn 10 = .ok (.getfield 83, 3) by decide +kernel) rfl, ?_⟩
  refine List.forall_mem_cons.mpr ⟨ok_getf C (wi_X7) rfl (by decide) kw_250 (show decode cX10_drawn 13 = .ok (.getfield 136, 3) by decide +kernel) rfl, ?_⟩
  refine List.forall_mem_cons.mpr ⟨ok_ifne C (show decode cX10_drawn 16 = .ok (.ifCond .ne 5, 3) by decide +kernel) (tg := 21) (by decide) rfl rfl, ?_⟩
  refine List.forall_mem_cons.mpr ⟨ok_iconst C (show decode cX10_drawn 19 = .ok (.iconst (-1), 1) by decide +kernel) (by decide) rfl, ?_⟩
  refine List.forall_mem_cons.mpr ⟨ok_ret C rfl (show decode cX10_drawn 20 = .ok (.ireturn, 1) by decide +kernel), ?_⟩
  refine List.forall_mem_cons.mpr ⟨ok_aload_n C (show decode cX10_drawn 21 = .ok (.aload_n 0, 1) by decide +kernel) rfl rfl, ?_⟩
  refine List.forall_mem_cons.mpr ⟨ok_getf C (wi_X10) rfl (by decide) kw_319 (show decode cX10_drawn 22 = .ok (.getfield 40, 3) by decide +kernel) rfl, ?_⟩
  refine List.forall_mem_cons.mpr ⟨ok_getf C (wi_X6) rfl (by decide) kw_164 (show decode cX10_drawn 25 = .ok (.getfield 213, 3) by decide +kernel) rfl, ?_⟩
  refine List.forall_mem_cons.mpr ⟨ok_sipush C (show decode cX10_drawn 28 = .ok (.sipush 400, 3) by decide +kernel) (by decide) rfl, ?_⟩
  refine List.forall_mem_cons.mpr ⟨ok_icmpge C (show decode cX10_drawn 31 = .ok (.if_icmp .ge 14, 3) by decide +kernel) (tg := 45) (by decide) rfl rfl, ?_⟩
  refine List.forall_mem_cons.mpr ⟨ok_aload_n C (show decode cX10_drawn 34 = .ok (.aload_n 0, 1) by decide +kernel) rfl rfl, ?_⟩
  refine List.forall_mem_cons.mpr ⟨ok_getf C (wi_X10) rfl (by decide) kw_318 (show decode cX10_drawn 35 = .ok (.getfield 33, 3) by decide +kernel) rfl, ?_⟩
  refine List.forall_mem_cons.mpr ⟨ok_aload_n C (show decode cX10_drawn 38 = .ok (.aload_n 0, 1) by decide +kernel) rfl rfl, ?_⟩
  refine List.forall_mem_cons.mpr ⟨ok_getf C (wi_X10) rfl (by decide) kw_319 (show decode cX10_drawn 39 = .ok (.getfield 40, 3) by decide +kernel) rfl, ?_⟩
  refine List.forall_mem_cons.mpr ⟨ok_callV C h_X2_keep ⟨rfl, rfl⟩ rfl kw_715 kw_712 kw_713 kw_714 kw_5 rfl ds_X2_keep ⟨by decide, by decide⟩ (show decode cX10_drawn 42 = .ok (.invokevirtual 258, 3) by decide +kernel) rfl, ?_⟩
  refine List.forall_mem_cons.mpr ⟨ok_aload_n C (show decode cX10_drawn 45 = .ok (.aload_n 0, 1) by decide +kernel) rfl rfl, ?_⟩
  refine List.forall_mem_cons.mpr ⟨ok_aload_n C (show decode cX10_drawn 46 = .ok (.aload_n 0, 1) by decide +kernel) rfl rfl, ?_⟩
  refine List.forall_mem_cons.mpr ⟨ok_getf C (wi_X10) rfl (by decide) kw_319 (show decode cX10_drawn 47 = .ok (.getfield 40, 3) by decide +kernel) rfl, ?_⟩
  refine List.forall_mem_cons.mpr ⟨ok_iload_n C (show decode cX10_drawn 50 = .ok (.iload_n 1, 1) by decide +kernel) rfl rfl, ?_⟩
  refine List.forall_mem_cons.mpr ⟨ok_iload_n C (show decode cX10_drawn 51 = .ok (.iload_n 2, 1) by decide +kernel) rfl rfl, ?_⟩
  refine List.forall_mem_cons.mpr ⟨ok_callV C h_X10_drawDays ⟨rfl, rfl⟩ rfl kw_882 kw_879 kw_881 kp_28 kw_1 rfl ds_X10_drawDays ⟨by decide, by decide⟩ (show decode cX10_drawn 52 = .ok (.invokevirtual 322, 3) by decide +kernel) rfl, ?_⟩
  refine List.forall_mem_cons.mpr ⟨ok_ret C rfl (show decode cX10_drawn 55 = .ok (.ireturn, 1) by decide +kernel), ?_⟩
  exact fun _ h => absurd h List.not_mem_nil
def L_X10_odds (f_X10_isMan : List Value → ab_H → Option ab_O) (f_X10_isWithin : List Value → ab_H → Option ab_O) (f_X6_copyFrom : List Value → ab_H → Option ab_O) (f_X10_drawDays : List Value → ab_H → Option ab_O) : List (Nat × ab_A) := [
  (0, ab_nx 1 (ab_aload 0)),
  (1, ab_nx 2 (ab_iload 1)),
  (2, ab_nx 5 (ab_callV 2 10 f_X10_isMan 0 0 0 0)),
  (5, ab_if 8 27 (fun x => decide (x = 0))),
  (8, ab_nx 9 (ab_iload 2)),
  (9, ab_nx 11 (ab_lit (.int 30))),
  (11, ab_nx 14 (ab_call 2 f_X10_isWithin 0 0 0 0)),
  (14, ab_if 17 27 (fun x => decide (x = 0))),
  (17, ab_nx 18 (ab_aload 0)),
  (18, ab_nx 21 (ab_getf 10 13)),
  (21, ab_nx 24 (ab_getf 7 8)),
  (24, ab_if 27 29 (fun x => !decide (x = 0))),
  (27, ab_nx 28 (ab_lit (.int (-1)))),
  (28, ab_ret 0 0),
  (29, ab_nx 30 (ab_lit (.int 0))),
  (30, ab_nx 32 (ab_istore 4)),
  (32, ab_nx 33 (ab_lit (.int 0))),
  (33, ab_nx 35 (ab_istore 5)),
  (35, ab_nx 37 (ab_iload 5)),
  (37, ab_nx 38 (ab_iload 2)),
  (38, ab_icmp 41 97 (fun x y => decide (y ≤ x))),
  (41, ab_nx 42 (ab_aload 0)),
  (42, ab_nx 45 (ab_getf 10 5)),
  (45, ab_nx 46 (ab_aload 0)),
  (46, ab_nx 49 (ab_getf 10 4)),
  (49, ab_nx 52 (ab_callV 2 6 f_X6_copyFrom 0 0 0 0)),
  (52, ab_nx 53 (ab_aload 0)),
  (53, ab_nx 54 (ab_aload 0)),
  (54, ab_nx 57 (ab_getf 10 5)),
  (57, ab_nx 59 (ab_lit (.int 20))),
  (59, ab_nx 60 (ab_iload 3)),
  (60, ab_nx 62 (ab_iload 5)),
  (62, ab_nx 63 (ab_bin (fun x y => x + y))),
  (63, ab_nx 66 (ab_callV 4 10 f_X10_drawDays 0 0 0 0)),
  (66, ab_nx 67 ab_pop),
  (67, ab_nx 68 (ab_aload 0)),
  (68, ab_nx 71 (ab_getf 10 5)),
  (71, ab_nx 74 (ab_getf 6 5)),
  (74, ab_nx 75 (ab_iload 1)),
  (75, ab_nx 76 (ab_ald 1)),
  (76, ab_nx 77 (ab_aload 0)),
  (77, ab_nx 80 (ab_getf 10 4)),
  (80, ab_nx 83 (ab_getf 6 5)),
  (83, ab_nx 84 (ab_iload 1)),
  (84, ab_nx 85 (ab_ald 1)),
  (85, ab_icmp 88 91 (fun x y => decide (x ≤ y))),
  (88, ab_nx 91 (ab_iinc 4 1)),
  (91, ab_nx 94 (ab_iinc 5 1)),
  (94, ab_goto 35),
  (97, ab_nx 99 (ab_iload 4)),
  (99, ab_ret 0 0)]
set_option maxRecDepth 100000 in
set_option maxHeartbeats 4000000 in
theorem M_X10_odds {l : Launch} {b : ab_B} {D : va_G} {cA : Nat → ClassId} {f_X10_isMan : List Value → ab_H → Option ab_O} (h_X10_isMan : ab_M l b D ab_cl cA (ab_E0 b) yX10_isMan (Cond.code yX10_isMan cX10_isMan 2 (some .boolean) :: ab_G) ({ frames := 1, cells := 0, slots := 0, locals := 100 } : Room) f_X10_isMan) {f_X10_isWithin : List Value → ab_H → Option ab_O} (h_X10_isWithin : ab_M l b D ab_cl cA (ab_E0 b) yX10_isWithin (Cond.code yX10_isWithin cX10_isWithin 2 (some .boolean) :: ab_G) ({ frames := 1, cells := 0, slots := 0, locals := 100 } : Room) f_X10_isWithin) {f_X6_copyFrom : List Value → ab_H → Option ab_O} (h_X6_copyFrom : ab_M l b D ab_cl cA (ab_E0 b) yX6_copyFrom (Cond.code yX6_copyFrom cX6_copyFrom 2 none :: ab_G) ({ frames := 2, cells := 0, slots := 0, locals := 200 } : Room) f_X6_copyFrom) {f_X10_drawDays : List Value → ab_H → Option ab_O} (h_X10_drawDays : ab_M l b D ab_cl cA (ab_E0 b) yX10_drawDays (Cond.code yX10_drawDays cX10_drawDays 6 (some .int) :: ab_G) ({ frames := 6, cells := 0, slots := 0, locals := 600 } : Room) f_X10_drawDays) : ab_M l b D ab_cl cA (ab_E0 b) yX10_odds (Cond.code yX10_odds cX10_odds 6 (some .int) :: ab_G) ({ frames := 7, cells := 0, slots := 0, locals := 700 } : Room) (ab_X (ab_T (L_X10_odds f_X10_isMan f_X10_isWithin f_X6_copyFrom f_X10_drawDays)) 6) := by
  refine ab_meth (ret := (some .int)) (L_X10_odds f_X10_isMan f_X10_isWithin f_X6_copyFrom f_X10_drawDays) (by decide) rfl fun p e R s m args below meth c o C => ?_
  unfold L_X10_odds
  refine List.forall_mem_cons.mpr ⟨ok_aload_n C (show decode cX10_odds 0 = .ok (.aload_n 0, 1) by decide +kernel) rfl rfl, ?_⟩
  refine List.forall_mem_cons.mpr ⟨ok_iload_n C (show decode cX10_odds 1 = .ok (.iload_n 1, 1) by decide +kernel) rfl rfl, ?_⟩
  refine List.forall_mem_cons.mpr ⟨ok_callV C h_X10_isMan ⟨rfl, rfl⟩ rfl kw_628 kw_625 kw_627 kp_18 kw_1 rfl ds_X10_isMan ⟨by decide, by decide⟩ (show decode cX10_odds 2 = .ok (.invokevirtual 149, 3) by decide +kernel) rfl, ?_⟩
  refine List.forall_mem_cons.mpr ⟨ok_ifeq C (show decode cX10_odds 5 = .ok (.ifCond .eq 22, 3) by decide +kernel) (tg := 27) (by decide) rfl rfl, ?_⟩
  refine List.forall_mem_cons.mpr ⟨ok_iload_n C (show decode cX10_odds 8 = .ok (.iload_n 2, 1) by decide +kernel) rfl rfl, ?_⟩
  refine List.forall_mem_cons.mpr ⟨ok_bipush C (show decode cX10_odds 9 = .ok (.bipush 30, 2) by decide +kernel) (by decide) rfl, ?_⟩
  refine List.forall_mem_cons.mpr ⟨ok_callS C h_X10_isWithin ⟨rfl, rfl⟩ kw_707 kw_705 kw_706 kw_1 ds_X10_isWithin ⟨by decide, by decide⟩ (show decode cX10_odds 11 = .ok (.invokestatic 251, 3) by decide +kernel) rfl, ?_⟩
  refine List.forall_mem_cons.mpr ⟨ok_ifeq C (show decode cX10_odds 14 = .ok (.ifCond .eq 13, 3) by decide +kernel) (tg := 27) (by decide) rfl rfl, ?_⟩
  refine List.forall_mem_cons.mpr ⟨ok_aload_n C (show decode cX10_odds 17 = .ok (.aload_n 0, 1) by decide +kernel) rfl rfl, ?_⟩
  refine List.forall_mem_cons.mpr ⟨ok_getf C (wi_X10) rfl (by decide) kw_328 (show decode cX10_odds 18 = .ok (.getfield 83, 3) by decide +kernel) rfl, ?_⟩
  refine List.forall_mem_cons.mpr ⟨ok_getf C (wi_X7) rfl (by decide) kw_250 (show decode cX10_odds 21 = .ok (.getfield 136, 3) by decide +kernel) rfl, ?_⟩
  refine List.forall_mem_cons.mpr ⟨ok_ifne C (show decode cX10_odds 24 = .ok (.ifCond .ne 5, 3) by decide +kernel) (tg := 29) (by decide) rfl rfl, ?_⟩
  refine List.forall_mem_cons.mpr ⟨ok_iconst C (show decode cX10_odds 27 = .ok (.iconst (-1), 1) by decide +kernel) (by decide) rfl, ?_⟩
  refine List.forall_mem_cons.mpr ⟨ok_ret C rfl (show decode cX10_odds 28 = .ok (.ireturn, 1) by decide +kernel), ?_⟩
  refine List.forall_mem_cons.mpr ⟨ok_iconst C (show decode cX10_odds 29 = .ok (.iconst 0, 1) by decide +kernel) (by decide) rfl, ?_⟩
  refine List.forall_mem_cons.mpr ⟨ok_istore C (show decode cX10_odds 30 = .ok (.istore 4, 2) by decide +kernel) (by decide) rfl, ?_⟩
  refine List.forall_mem_cons.mpr ⟨ok_iconst C (show decode cX10_odds 32 = .ok (.iconst 0, 1) by decide +kernel) (by decide) rfl, ?_⟩
  refine List.forall_mem_cons.mpr ⟨ok_istore C (show decode cX10_odds 33 = .ok (.istore 5, 2) by decide +kernel) (by decide) rfl, ?_⟩
  refine List.forall_mem_cons.mpr ⟨ok_iload C (show decode cX10_odds 35 = .ok (.iload 5, 2) by decide +kernel) rfl, ?_⟩
  refine List.forall_mem_cons.mpr ⟨ok_iload_n C (show decode cX10_odds 37 = .ok (.iload_n 2, 1) by decide +kernel) rfl rfl, ?_⟩
  refine List.forall_mem_cons.mpr ⟨ok_icmpge C (show decode cX10_odds 38 = .ok (.if_icmp .ge 59, 3) by decide +kernel) (tg := 97) (by decide) rfl rfl, ?_⟩
  refine List.forall_mem_cons.mpr ⟨ok_aload_n C (show decode cX10_odds 41 = .ok (.aload_n 0, 1) by decide +kernel) rfl rfl, ?_⟩
  refine List.forall_mem_cons.mpr ⟨ok_getf C (wi_X10) rfl (by decide) kw_320 (show decode cX10_odds 42 = .ok (.getfield 44, 3) by decide +kernel) rfl, ?_⟩
  refine List.forall_mem_cons.mpr ⟨ok_aload_n C (show decode cX10_odds 45 = .ok (.aload_n 0, 1) by decide +kernel) rfl rfl, ?_⟩
  refine List.forall_mem_cons.mpr ⟨ok_getf C (wi_X10) rfl (by decide) kw_319 (show decode cX10_odds 46 = .ok (.getfield 40, 3) by decide +kernel) rfl, ?_⟩
  refine List.forall_mem_cons.mpr ⟨ok_callV C h_X6_copyFrom ⟨rfl, rfl⟩ rfl kw_724 kw_806 kw_722 kw_723 kw_6 rfl ds_X6_copyFrom ⟨by decide, by decide⟩ (show decode cX10_odds 49 = .ok (.invokevirtual 284, 3) by decide +kernel) rfl, ?_⟩
  refine List.forall_mem_cons.mpr ⟨ok_aload_n C (show decode cX10_odds 52 = .ok (.aload_n 0, 1) by decide +kernel) rfl rfl, ?_⟩
  refine List.forall_mem_cons.mpr ⟨ok_aload_n C (show decode cX10_odds 53 = .ok (.aload_n 0, 1) by decide +kernel) rfl rfl, ?_⟩
  refine List.forall_mem_cons.mpr ⟨ok_getf C (wi_X10) rfl (by decide) kw_320 (show decode cX10_odds 54 = .ok (.getfield 44, 3) by decide +kernel) rfl, ?_⟩
  refine List.forall_mem_cons.mpr ⟨ok_bipush C (show decode cX10_odds 57 = .ok (.bipush 20, 2) by decide +kernel) (by decide) rfl, ?_⟩
  refine List.forall_mem_cons.mpr ⟨ok_iload_n C (show decode cX10_odds 59 = .ok (.iload_n 3, 1) by decide +kernel) rfl rfl, ?_⟩
  refine List.forall_mem_cons.mpr ⟨ok_iload C (show decode cX10_odds 60 = .ok (.iload 5, 2) by decide +kernel) rfl, ?_⟩
  refine List.forall_mem_cons.mpr ⟨ok_iadd C (show decode cX10_odds 62 = .ok (.iadd, 1) by decide +kernel) rfl, ?_⟩
  refine List.forall_mem_cons.mpr ⟨ok_callV C h_X10_drawDays ⟨rfl, rfl⟩ rfl kw_882 kw_879 kw_881 kp_28 kw_1 rfl ds_X10_drawDays ⟨by decide, by decide⟩ (show decode cX10_odds 63 = .ok (.invokevirtual 322, 3) by decide +kernel) rfl, ?_⟩
  refine List.forall_mem_cons.mpr ⟨ok_pop C (show decode cX10_odds 66 = .ok (.pop, 1) by decide +kernel) rfl, ?_⟩
  refine List.forall_mem_cons.mpr ⟨ok_aload_n C (show decode cX10_odds 67 = .ok (.aload_n 0, 1) by decide +kernel) rfl rfl, ?_⟩
  refine List.forall_mem_cons.mpr ⟨ok_getf C (wi_X10) rfl (by decide) kw_320 (show decode cX10_odds 68 = .ok (.getfield 44, 3) by decide +kernel) rfl, ?_⟩
  refine List.forall_mem_cons.mpr ⟨ok_getf C (wi_X6) rfl (by decide) kw_160 (show decode cX10_odds 71 = .ok (.getfield 202, 3) by decide +kernel) rfl, ?_⟩
  refine List.forall_mem_cons.mpr ⟨ok_iload_n C (show decode cX10_odds 74 = .ok (.iload_n 1, 1) by decide +kernel) rfl rfl, ?_⟩
  refine List.forall_mem_cons.mpr ⟨ok_iaload C (show decode cX10_odds 75 = .ok (.iaload, 1) by decide +kernel) rfl, ?_⟩
  refine List.forall_mem_cons.mpr ⟨ok_aload_n C (show decode cX10_odds 76 = .ok (.aload_n 0, 1) by decide +kernel) rfl rfl, ?_⟩
  refine List.forall_mem_cons.mpr ⟨ok_getf C (wi_X10) rfl (by decide) kw_319 (show decode cX10_odds 77 = .ok (.getfield 40, 3) by decide +kernel) rfl, ?_⟩
  refine List.forall_mem_cons.mpr ⟨ok_getf C (wi_X6) rfl (by decide) kw_160 (show decode cX10_odds 80 = .ok (.getfield 202, 3) by decide +kernel) rfl, ?_⟩
  refine List.forall_mem_cons.mpr ⟨ok_iload_n C (show decode cX10_odds 83 = .ok (.iload_n 1, 1) by decide +kernel) rfl rfl, ?_⟩
  refine List.forall_mem_cons.mpr ⟨ok_iaload C (show decode cX10_odds 84 = .ok (.iaload, 1) by decide +kernel) rfl, ?_⟩
  refine List.forall_mem_cons.mpr ⟨ok_icmple C (show decode cX10_odds 85 = .ok (.if_icmp .le 6, 3) by decide +kernel) (tg := 91) (by decide) rfl rfl, ?_⟩
  refine List.forall_mem_cons.mpr ⟨ok_iinc C (show decode cX10_odds 88 = .ok (.iinc 4 1, 3) by decide +kernel) (by decide) (by decide) rfl, ?_⟩
  refine List.forall_mem_cons.mpr ⟨ok_iinc C (show decode cX10_odds 91 = .ok (.iinc 5 1, 3) by decide +kernel) (by decide) (by decide) rfl, ?_⟩
  refine List.forall_mem_cons.mpr ⟨ok_goto C (show decode cX10_odds 94 = .ok (.goto (-59), 3) by decide +kernel) (tg := 35) (by decide) rfl, ?_⟩
  refine List.forall_mem_cons.mpr ⟨ok_iload C (show decode cX10_odds 97 = .ok (.iload 4, 2) by decide +kernel) rfl, ?_⟩
  refine List.forall_mem_cons.mpr ⟨ok_ret C rfl (show decode cX10_odds 99 = .ok (.ireturn, 1) by decide +kernel), ?_⟩
  exact fun _ h => absurd h List.not_mem_nil
def L_X10_liveLine (f_X1_passDays : List Value → ab_H → Option ab_O) (f_X6_attempt : List Value → ab_H → Option ab_O) : List (Nat × ab_A) := [
  (0, ab_nx 1 (ab_iload 1)),
  (1, ab_nx 2 (ab_lit (.int 4))),
  (2, ab_icmp 5 42 (fun x y => !decide (x = y))),
  (5, ab_nx 8 (ab_lit (.int 400))),
  (8, ab_nx 9 (ab_aload 0)),
  (9, ab_nx 12 (ab_getf 10 5)),
  (12, ab_nx 15 (ab_getf 6 7)),
  (15, ab_nx 16 (ab_bin (fun x y => x - y))),
  (16, ab_nx 17 (ab_iload 3)),
  (17, ab_icmp 20 23 (fun x y => decide (y ≤ x))),
  (20, ab_nx 22 (ab_lit (.int 41))),
  (22, ab_ret 0 0),
  (23, ab_nx 24 (ab_aload 0)),
  (24, ab_nx 27 (ab_getf 10 2)),
  (27, ab_nx 28 (ab_aload 0)),
  (28, ab_nx 31 (ab_getf 10 13)),
  (31, ab_nx 32 (ab_aload 0)),
  (32, ab_nx 35 (ab_getf 10 5)),
  (35, ab_nx 36 (ab_iload 3)),
  (36, ab_nx 39 (ab_callV 4 1 f_X1_passDays 0 0 0 0)),
  (39, ab_nx 40 ab_pop),
  (40, ab_nx 41 (ab_lit (.int 0))),
  (41, ab_ret 0 0),
  (42, ab_nx 43 (ab_aload 0)),
  (43, ab_nx 46 (ab_getf 10 5)),
  (46, ab_nx 47 (ab_iload 1)),
  (47, ab_nx 48 (ab_iload 2)),
  (48, ab_nx 49 (ab_iload 3)),
  (49, ab_nx 52 (ab_callV 4 6 f_X6_attempt 0 0 0 0)),
  (52, ab_nx 54 (ab_istore 4)),
  (54, ab_nx 56 (ab_iload 4)),
  (56, ab_if 59 63 (fun x => !decide (x = 0))),
  (59, ab_nx 60 (ab_lit (.int 0))),
  (60, ab_goto 70),
  (63, ab_nx 65 (ab_lit (.int 10))),
  (65, ab_nx 66 (ab_iload 1)),
  (66, ab_nx 67 (ab_bin (fun x y => x * y))),
  (67, ab_nx 69 (ab_iload 4)),
  (69, ab_nx 70 (ab_bin (fun x y => x + y))),
  (70, ab_ret 0 0)]
set_option maxRecDepth 100000 in
set_option maxHeartbeats 4000000 in
theorem M_X10_liveLine {l : Launch} {b : ab_B} {D : va_G} {cA : Nat → ClassId} {f_X1_passDays : List Value → ab_H → Option ab_O} (h_X1_passDays : ab_M l b D ab_cl cA (ab_E0 b) yX1_passDays (Cond.code yX1_passDays cX1_passDays 6 (some .int) :: ab_G) ({ frames := 5, cells := 0, slots := 0, locals := 500 } : Room) f_X1_passDays) {f_X6_attempt : List Value → ab_H → Option ab_O} (h_X6_attempt : ab_M l b D ab_cl cA (ab_E0 b) yX6_attempt (Cond.code yX6_attempt cX6_attempt 5 (some .int) :: ab_G) ({ frames := 3, cells := 0, slots := 0, locals := 300 } : Room) f_X6_attempt) : ab_M l b D ab_cl cA (ab_E0 b) yX10_liveLine (Cond.code yX10_liveLine cX10_liveLine 5 (some .int) :: ab_G) ({ frames := 6, cells := 0, slots := 0, locals := 600 } : Room) (ab_X (ab_T (L_X10_liveLine f_X1_passDays f_X6_attempt)) 5) := by
  refine ab_meth (ret := (some .int)) (L_X10_liveLine f_X1_passDays f_X6_attempt) (by decide) rfl fun p e R s m args below meth c o C => ?_
  unfold L_X10_liveLine
  refine List.forall_mem_cons.mpr ⟨ok_iload_n C (show decode cX10_liveLine 0 = .ok (.iload_n 1, 1) by decide +kernel) rfl rfl, ?_⟩
  refine List.forall_mem_cons.mpr ⟨ok_iconst C (show decode cX10_liveLine 1 = .ok (.iconst 4, 1) by decide +kernel) (by decide) rfl, ?_⟩
  refine List.forall_mem_cons.mpr ⟨ok_icmpne C (show decode cX10_liveLine 2 = .ok (.if_icmp .ne 40, 3) by decide +kernel) (tg := 42) (by decide) rfl rfl, ?_⟩
  refine List.forall_mem_cons.mpr ⟨ok_sipush C (show decode cX10_liveLine 5 = .ok (.sipush 400, 3) by decide +kernel) (by decide) rfl, ?_⟩
  refine List.forall_mem_cons.mpr ⟨ok_aload_n C (show decode cX10_liveLine 8 = .ok (.aload_n 0, 1) by decide +kernel) rfl rfl, ?_⟩
  refine List.forall_mem_cons.mpr ⟨ok_getf C (wi_X10) rfl (by decide) kw_320 (show decode cX10_liveLine 9 = .ok (.getfield 44, 3) by decide +kernel) rfl, ?_⟩
  refine List.forall_mem_cons.mpr ⟨ok_getf C (wi_X6) rfl (by decide) kw_164 (show decode cX10_liveLine 12 = .ok (.getfield 213, 3) by decide +kernel) rfl, ?_⟩
  refine List.forall_mem_cons.mpr ⟨ok_isub C (show decode cX10_liveLine 15 = .ok (.isub, 1) by decide +kernel) rfl, ?_⟩
  refine List.forall_mem_cons.mpr ⟨ok_iload_n C (show decode cX10_liveLine 16 = .ok (.iload_n 3, 1) by decide +kernel) rfl rfl, ?_⟩
  refine List.forall_mem_cons.mpr ⟨ok_icmpge C (show decode cX10_liveLine 17 = .ok (.if_icmp .ge 6, 3) by decide +kernel) (tg := 23) (by decide) rfl rfl, ?_⟩
  refine List.forall_mem_cons.mpr ⟨ok_bipush C (show decode cX10_liveLine 20 = .ok (.bipush 41, 2) by decide +kernel) (by decide) rfl, ?_⟩
  refine List.forall_mem_cons.mpr ⟨ok_ret C rfl (show decode cX10_liveLine 22 = .ok (.ireturn, 1) by decide +kernel), ?_⟩
  refine List.forall_mem_cons.mpr ⟨ok_aload_n C (show decode cX10_liveLine 23 = .ok (.aload_n 0, 1) by decide +kernel) rfl rfl, ?_⟩
  refine List.forall_mem_cons.mpr ⟨ok_getf C (wi_X10) rfl (by decide) kw_317 (show decode cX10_liveLine 24 = .ok (.getfield 26, 3) by decide +kernel) rfl, ?_⟩
  refine List.forall_mem_cons.mpr ⟨ok_aload_n C (show decode cX10_liveLine 27 = .ok (.aload_n 0, 1) by decide +kernel) rfl rfl, ?_⟩
  refine List.forall_mem_cons.mpr ⟨ok_getf C (wi_X10) rfl (by decide) kw_328 (show decode cX10_liveLine 28 = .ok (.getfield 83, 3) by decide +kernel) rfl, ?_⟩
  refine List.forall_mem_cons.mpr ⟨ok_aload_n C (show decode cX10_liveLine 31 = .ok (.aload_n 0, 1) by decide +kernel) rfl rfl, ?_⟩
  refine List.forall_mem_cons.mpr ⟨ok_getf C (wi_X10) rfl (by decide) kw_320 (show decode cX10_liveLine 32 = .ok (.getfield 44, 3) by decide +kernel) rfl, ?_⟩
  refine List.forall_mem_cons.mpr ⟨ok_iload_n C (show decode cX10_liveLine 35 = .ok (.iload_n 3, 1) by decide +kernel) rfl rfl, ?_⟩
  refine List.forall_mem_cons.mpr ⟨ok_callV C h_X1_passDays ⟨rfl, rfl⟩ rfl kw_751 kw_748 kw_749 kw_750 kw_4 rfl ds_X1_passDays ⟨by decide, by decide⟩ (show decode cX10_liveLine 36 = .ok (.invokevirtual 266, 3) by decide +kernel) rfl, ?_⟩
  refine List.forall_mem_cons.mpr ⟨ok_pop C (show decode cX10_liveLine 39 = .ok (.pop, 1) by decide +kernel) rfl, ?_⟩
  refine List.forall_mem_cons.mpr ⟨ok_iconst C (show decode cX10_liveLine 40 = .ok (.iconst 0, 1) by decide +kernel) (by decide) rfl, ?_⟩
  refine List.forall_mem_cons.mpr ⟨ok_ret C rfl (show decode cX10_liveLine 41 = .ok (.ireturn, 1) by decide +kernel), ?_⟩
  refine List.forall_mem_cons.mpr ⟨ok_aload_n C (show decode cX10_liveLine 42 = .ok (.aload_n 0, 1) by decide +kernel) rfl rfl, ?_⟩
  refine List.forall_mem_cons.mpr ⟨ok_getf C (wi_X10) rfl (by decide) kw_320 (show decode cX10_liveLine 43 = .ok (.getfield 44, 3) by decide +kernel) rfl, ?_⟩
  refine List.forall_mem_cons.mpr ⟨ok_iload_n C (show decode cX10_liveLine 46 = .ok (.iload_n 1, 1) by decide +kernel) rfl rfl, ?_⟩
  refine List.forall_mem_cons.mpr ⟨ok_iload_n C (show decode cX10_liveLine 47 = .ok (.iload_n 2, 1) by decide +kernel) rfl rfl, ?_⟩
  refine List.forall_mem_cons.mpr ⟨ok_iload_n C (show decode cX10_liveLine 48 = .ok (.iload_n 3, 1) by decide +kernel) rfl rfl, ?_⟩
  refine List.forall_mem_cons.mpr ⟨ok_callV C h_X6_attempt ⟨rfl, rfl⟩ rfl kw_895 kw_892 kw_893 kw_894 kw_6 rfl ds_X6_attempt ⟨by decide, by decide⟩ (show decode cX10_liveLine 49 = .ok (.invokevirtual 338, 3) by decide +kernel) rfl, ?_⟩
  refine List.forall_mem_cons.mpr ⟨ok_istore C (show decode cX10_liveLine 52 = .ok (.istore 4, 2) by decide +kernel) (by decide) rfl, ?_⟩
  refine List.forall_mem_cons.mpr ⟨ok_iload C (show decode cX10_liveLine 54 = .ok (.iload 4, 2) by decide +kernel) rfl, ?_⟩
  refine List.forall_mem_cons.mpr ⟨ok_ifne C (show decode cX10_liveLine 56 = .ok (.ifCond .ne 7, 3) by decide +kernel) (tg := 63) (by decide) rfl rfl, ?_⟩
  refine List.forall_mem_cons.mpr ⟨ok_iconst C (show decode cX10_liveLine 59 = .ok (.iconst 0, 1) by decide +kernel) (by decide) rfl, ?_⟩
  refine List.forall_mem_cons.mpr ⟨ok_goto C (show decode cX10_liveLine 60 = .ok (.goto 10, 3) by decide +kernel) (tg := 70) (by decide) rfl, ?_⟩
  refine List.forall_mem_cons.mpr ⟨ok_bipush C (show decode cX10_liveLine 63 = .ok (.bipush 10, 2) by decide +kernel) (by decide) rfl, ?_⟩
  refine List.forall_mem_cons.mpr ⟨ok_iload_n C (show decode cX10_liveLine 65 = .ok (.iload_n 1, 1) by decide +kernel) rfl rfl, ?_⟩
  refine List.forall_mem_cons.mpr ⟨ok_imul C (show decode cX10_liveLine 66 = .ok (.imul, 1) by decide +kernel) rfl, ?_⟩
  refine List.forall_mem_cons.mpr ⟨ok_iload C (show decode cX10_liveLine 67 = .ok (.iload 4, 2) by decide +kernel) rfl, ?_⟩
  refine List.forall_mem_cons.mpr ⟨ok_iadd C (show decode cX10_liveLine 69 = .ok (.iadd, 1) by decide +kernel) rfl, ?_⟩
  refine List.forall_mem_cons.mpr ⟨ok_ret C rfl (show decode cX10_liveLine 70 = .ok (.ireturn, 1) by decide +kernel), ?_⟩
  exact fun _ h => absurd h List.not_mem_nil
def L_X10_judgeLog (f_X10_liveLine : List Value → ab_H → Option ab_O) : List (Nat × ab_A) := [
  (0, ab_nx 1 (ab_lit (.int 0))),
  (1, ab_nx 2 (ab_istore 1)),
  (2, ab_nx 3 (ab_iload 1)),
  (3, ab_nx 4 (ab_aload 0)),
  (4, ab_nx 7 (ab_getf 10 7)),
  (7, ab_nx 10 (ab_getf 4 3)),
  (10, ab_icmp 13 71 (fun x y => decide (y ≤ x))),
  (13, ab_nx 14 (ab_aload 0)),
  (14, ab_nx 15 (ab_aload 0)),
  (15, ab_nx 18 (ab_getf 10 7)),
  (18, ab_nx 21 (ab_getf 4 0)),
  (21, ab_nx 22 (ab_iload 1)),
  (22, ab_nx 23 (ab_ald 1)),
  (23, ab_nx 24 (ab_aload 0)),
  (24, ab_nx 27 (ab_getf 10 7)),
  (27, ab_nx 30 (ab_getf 4 1)),
  (30, ab_nx 31 (ab_iload 1)),
  (31, ab_nx 32 (ab_ald 1)),
  (32, ab_nx 33 (ab_aload 0)),
  (33, ab_nx 36 (ab_getf 10 7)),
  (36, ab_nx 39 (ab_getf 4 2)),
  (39, ab_nx 40 (ab_iload 1)),
  (40, ab_nx 41 (ab_ald 1)),
  (41, ab_nx 44 (ab_callV 4 10 f_X10_liveLine 0 0 0 0)),
  (44, ab_nx 45 (ab_istore 2)),
  (45, ab_nx 46 (ab_iload 2)),
  (46, ab_if 49 65 (fun x => decide (x = 0))),
  (49, ab_nx 50 (ab_aload 0)),
  (50, ab_nx 53 (ab_getf 10 12)),
  (53, ab_nx 54 (ab_lit (.int 0))),
  (54, ab_nx 55 (ab_iload 2)),
  (55, ab_nx 56 (ab_ast 1)),
  (56, ab_nx 57 (ab_aload 0)),
  (57, ab_nx 60 (ab_getf 10 12)),
  (60, ab_nx 61 (ab_lit (.int 1))),
  (61, ab_nx 62 (ab_iload 1)),
  (62, ab_nx 63 (ab_ast 1)),
  (63, ab_nx 64 (ab_iload 1)),
  (64, ab_ret 0 0),
  (65, ab_nx 68 (ab_iinc 1 1)),
  (68, ab_goto 2),
  (71, ab_nx 72 (ab_aload 0)),
  (72, ab_nx 75 (ab_getf 10 12)),
  (75, ab_nx 76 (ab_lit (.int 0))),
  (76, ab_nx 77 (ab_lit (.int 0))),
  (77, ab_nx 78 (ab_ast 1)),
  (78, ab_nx 79 (ab_aload 0)),
  (79, ab_nx 82 (ab_getf 10 12)),
  (82, ab_nx 83 (ab_lit (.int 1))),
  (83, ab_nx 84 (ab_aload 0)),
  (84, ab_nx 87 (ab_getf 10 7)),
  (87, ab_nx 90 (ab_getf 4 3)),
  (90, ab_nx 91 (ab_ast 1)),
  (91, ab_nx 92 (ab_lit (.int (-1)))),
  (92, ab_ret 0 0)]
set_option maxRecDepth 100000 in
set_option maxHeartbeats 4000000 in
theorem M_X10_judgeLog {l : Launch} {b : ab_B} {D : va_G} {cA : Nat → ClassId} {f_X10_liveLine : List Value → ab_H → Option ab_O} (h_X10_liveLine : ab_M l b D ab_cl cA (ab_E0 b) yX10_liveLine (Cond.code yX10_liveLine cX10_liveLine 5 (some .int) :: ab_G) ({ frames := 6, cells := 0, slots := 0, locals := 600 } : Room) f_X10_liveLine) : ab_M l b D ab_cl cA (ab_E0 b) yX10_judgeLog (Cond.code yX10_judgeLog cX10_judgeLog 3 (some .int) :: ab_G) ({ frames := 7, cells := 0, slots := 0, locals := 700 } : Room) (ab_X (ab_T (L_X10_judgeLog f_X10_liveLine)) 3) := by
  refine ab_meth (ret := (some .int)) (L_X10_judgeLog f_X10_liveLine) (by decide) rfl fun p e R s m args below meth c o C => ?_
  unfold L_X10_judgeLog
  refine List.forall_mem_cons.mpr ⟨ok_iconst C (show decode cX10_judgeLog 0 = .ok (.iconst 0, 1) by decide +kernel) (by decide) rfl, ?_⟩
  refine List.forall_mem_cons.mpr ⟨ok_istore_n C (show decode cX10_judgeLog 1 = .ok (.istore_n 1, 1) by decide +kernel) rfl (by decide) rfl, ?_⟩
  refine List.forall_mem_cons.mpr ⟨ok_iload_n C (show decode cX10_judgeLog 2 = .ok (.iload_n 1, 1) by decide +kernel) rfl rfl, ?_⟩
  refine List.forall_mem_cons.mpr ⟨ok_aload_n C (show decode cX10_judgeLog 3 = .ok (.aload_n 0, 1) by decide +kernel) rfl rfl, ?_⟩
  refine List.forall_mem_cons.mpr ⟨ok_getf C (wi_X10) rfl (by decide) kw_322 (show decode cX10_judgeLog 4 = .ok (.getfield 53, 3) by decide +kernel) rfl, ?_⟩
  refine List.forall_mem_cons.mpr ⟨ok_getf C (wi_X4) rfl (by decide) kw_205 (show decode cX10_judgeLog 7 = .ok (.getfield 347, 3) by decide +kernel) rfl, ?_⟩
  refine List.forall_mem_cons.mpr ⟨ok_icmpge C (show decode cX10_judgeLog 10 = .ok (.if_icmp .ge 61, 3) by decide +kernel) (tg := 71) (by decide) rfl rfl, ?_⟩
  refine List.forall_mem_cons.mpr ⟨ok_aload_n C (show decode cX10_judgeLog 13 = .ok (.aload_n 0, 1) by decide +kernel) rfl rfl, ?_⟩
  refine List.forall_mem_cons.mpr ⟨ok_aload_n C (show decode cX10_judgeLog 14 = .ok (.aload_n 0, 1) by decide +kernel) rfl rfl, ?_⟩
  refine List.forall_mem_cons.mpr ⟨ok_getf C (wi_X10) rfl (by decide) kw_322 (show decode cX10_judgeLog 15 = .ok (.getfield 53, 3) by decide +kernel) rfl, ?_⟩
  refine List.forall_mem_cons.mpr ⟨ok_getf C (wi_X4) rfl (by decide) kw_199 (show decode cX10_judgeLog 18 = .ok (.getfield 350, 3) by decide +kernel) rfl, ?_⟩
  refine List.forall_mem_cons.mpr ⟨ok_iload_n C (show decode cX10_judgeLog 21 = .ok (.iload_n 1, 1) by decide +kernel) rfl rfl, ?_⟩
  refine List.forall_mem_cons.mpr ⟨ok_iaload C (show decode cX10_judgeLog 22 = .ok (.iaload, 1) by decide +kernel) rfl, ?_⟩
  refine List.forall_mem_cons.mpr ⟨ok_aload_n C (show decode cX10_judgeLog 23 = .ok (.aload_n 0, 1) by decide +kernel) rfl rfl, ?_⟩
  refine List.forall_mem_cons.mpr ⟨ok_getf C (wi_X10) rfl (by decide) kw_322 (show decode cX10_judgeLog 24 = .ok (.getfield 53, 3) by decide +kernel) rfl, ?_⟩
  refine List.forall_mem_cons.mpr ⟨ok_getf C (wi_X4) rfl (by decide) kw_201 (show decode cX10_judgeLog 27 = .ok (.getfield 353, 3) by decide +kernel) rfl, ?_⟩
  refine List.forall_mem_cons.mpr ⟨ok_iload_n C (show decode cX10_judgeLog 30 = .ok (.iload_n 1, 1) by decide +kernel) rfl rfl, ?_⟩
  refine List.forall_mem_cons.mpr ⟨ok_iaload C (show decode cX10_judgeLog 31 = .ok (.iaload, 1) by decide +kernel) rfl, ?_⟩
  refine List.forall_mem_cons.mpr ⟨ok_aload_n C (show decode cX10_judgeLog 32 = .ok (.aload_n 0, 1) by decide +kernel) rfl rfl, ?_⟩
  refine List.forall_mem_cons.mpr ⟨ok_getf C (wi_X10) rfl (by decide) kw_322 (show decode cX10_judgeLog 33 = .ok (.getfield 53, 3) by decide +kernel) rfl, ?_⟩
  refine List.forall_mem_cons.mpr ⟨ok_getf C (wi_X4) rfl (by decide) kw_203 (show decode cX10_judgeLog 36 = .ok (.getfield 356, 3) by decide +kernel) rfl, ?_⟩
  refine List.forall_mem_cons.mpr ⟨ok_iload_n C (show decode cX10_judgeLog 39 = .ok (.iload_n 1, 1) by decide +kernel) rfl rfl, ?_⟩
  refine List.forall_mem_cons.mpr ⟨ok_iaload C (show decode cX10_judgeLog 40 = .ok (.iaload, 1) by decide +kernel) rfl, ?_⟩
  refine List.forall_mem_cons.mpr ⟨ok_callV C h_X10_liveLine ⟨rfl, rfl⟩ rfl kw_948 kw_945 kw_947 kp_37 kw_1 rfl ds_X10_liveLine ⟨by decide, by decide⟩ (show decode cX10_judgeLog 41 = .ok (.invokevirtual 359, 3) by decide +kernel) rfl, ?_⟩
  refine List.forall_mem_cons.mpr ⟨ok_istore_n C (show decode cX10_judgeLog 44 = .ok (.istore_n 2, 1) by decide +kernel) rfl (by decide) rfl, ?_⟩
  refine List.forall_mem_cons.mpr ⟨ok_iload_n C (show decode cX10_judgeLog 45 = .ok (.iload_n 2, 1) by decide +kernel) rfl rfl, ?_⟩
  refine List.forall_mem_cons.mpr ⟨ok_ifeq C (show decode cX10_judgeLog 46 = .ok (.ifCond .eq 19, 3) by decide +kernel) (tg := 65) (by decide) rfl rfl, ?_⟩
  refine List.forall_mem_cons.mpr ⟨ok_aload_n C (show decode cX10_judgeLog 49 = .ok (.aload_n 0, 1) by decide +kernel) rfl rfl, ?_⟩
  refine List.forall_mem_cons.mpr ⟨ok_getf C (wi_X10) rfl (by decide) kw_327 (show decode cX10_judgeLog 50 = .ok (.getfield 77, 3) by decide +kernel) rfl, ?_⟩
  refine List.forall_mem_cons.mpr ⟨ok_iconst C (show decode cX10_judgeLog 53 = .ok (.iconst 0, 1) by decide +kernel) (by decide) rfl, ?_⟩
  refine List.forall_mem_cons.mpr ⟨ok_iload_n C (show decode cX10_judgeLog 54 = .ok (.iload_n 2, 1) by decide +kernel) rfl rfl, ?_⟩
  refine List.forall_mem_cons.mpr ⟨ok_iastore C (show decode cX10_judgeLog 55 = .ok (.iastore, 1) by decide +kernel) rfl, ?_⟩
  refine List.forall_mem_cons.mpr ⟨ok_aload_n C (show decode cX10_judgeLog 56 = .ok (.aload_n 0, 1) by decide +kernel) rfl rfl, ?_⟩
  refine List.forall_mem_cons.mpr ⟨ok_getf C (wi_X10) rfl (by decide) kw_327 (show decode cX10_judgeLog 57 = .ok (.getfield 77, 3) by decide +kernel) rfl, ?_⟩
  refine List.forall_mem_cons.mpr ⟨ok_iconst C (show decode cX10_judgeLog 60 = .ok (.iconst 1, 1) by decide +kernel) (by decide) rfl, ?_⟩
  refine List.forall_mem_cons.mpr ⟨ok_iload_n C (show decode cX10_judgeLog 61 = .ok (.iload_n 1, 1) by decide +kernel) rfl rfl, ?_⟩
  refine List.forall_mem_cons.mpr ⟨ok_iastore C (show decode cX10_judgeLog 62 = .ok (.iastore, 1) by decide +kernel) rfl, ?_⟩
  refine List.forall_mem_cons.mpr ⟨ok_iload_n C (show decode cX10_judgeLog 63 = .ok (.iload_n 1, 1) by decide +kernel) rfl rfl, ?_⟩
  refine List.forall_mem_cons.mpr ⟨ok_ret C rfl (show decode cX10_judgeLog 64 = .ok (.ireturn, 1) by decide +kernel), ?_⟩
  refine List.forall_mem_cons.mpr ⟨ok_iinc C (show decode cX10_judgeLog 65 = .ok (.iinc 1 1, 3) by decide +kernel) (by decide) (by decide) rfl, ?_⟩
  refine List.forall_mem_cons.mpr ⟨ok_goto C (show decode cX10_judgeLog 68 = .ok (.goto (-66), 3) by decide +kernel) (tg := 2) (by decide) rfl, ?_⟩
  refine List.forall_mem_cons.mpr ⟨ok_aload_n C (show decode cX10_judgeLog 71 = .ok (.aload_n 0, 1) by decide +kernel) rfl rfl, ?_⟩
  refine List.forall_mem_cons.mpr ⟨ok_getf C (wi_X10) rfl (by decide) kw_327 (show decode cX10_judgeLog 72 = .ok (.getfield 77, 3) by decide +kernel) rfl, ?_⟩
  refine List.forall_mem_cons.mpr ⟨ok_iconst C (show decode cX10_judgeLog 75 = .ok (.iconst 0, 1) by decide +kernel) (by decide) rfl, ?_⟩
  refine List.forall_mem_cons.mpr ⟨ok_iconst C (show decode cX10_judgeLog 76 = .ok (.iconst 0, 1) by decide +kernel) (by decide) rfl, ?_⟩
  refine List.forall_mem_cons.mpr ⟨ok_iastore C (show decode cX10_judgeLog 77 = .ok (.iastore, 1) by decide +kernel) rfl, ?_⟩
  refine List.forall_mem_cons.mpr ⟨ok_aload_n C (show decode cX10_judgeLog 78 = .ok (.aload_n 0, 1) by decide +kernel) rfl rfl, ?_⟩
  refine List.forall_mem_cons.mpr ⟨ok_getf C (wi_X10) rfl (by decide) kw_327 (show decode cX10_judgeLog 79 = .ok (.getfield 77, 3) by decide +kernel) rfl, ?_⟩
  refine List.forall_mem_cons.mpr ⟨ok_iconst C (show decode cX10_judgeLog 82 = .ok (.iconst 1, 1) by decide +kernel) (by decide) rfl, ?_⟩
  refine List.forall_mem_cons.mpr ⟨ok_aload_n C (show decode cX10_judgeLog 83 = .ok (.aload_n 0, 1) by decide +kernel) rfl rfl, ?_⟩
  refine List.forall_mem_cons.mpr ⟨ok_getf C (wi_X10) rfl (by decide) kw_322 (show decode cX10_judgeLog 84 = .ok (.getfield 53, 3) by decide +kernel) rfl, ?_⟩
  refine List.forall_mem_cons.mpr ⟨ok_getf C (wi_X4) rfl (by decide) kw_205 (show decode cX10_judgeLog 87 = .ok (.getfield 347, 3) by decide +kernel) rfl, ?_⟩
  refine List.forall_mem_cons.mpr ⟨ok_iastore C (show decode cX10_judgeLog 90 = .ok (.iastore, 1) by decide +kernel) rfl, ?_⟩
  refine List.forall_mem_cons.mpr ⟨ok_iconst C (show decode cX10_judgeLog 91 = .ok (.iconst (-1), 1) by decide +kernel) (by decide) rfl, ?_⟩
  refine List.forall_mem_cons.mpr ⟨ok_ret C rfl (show decode cX10_judgeLog 92 = .ok (.ireturn, 1) by decide +kernel), ?_⟩
  exact fun _ h => absurd h List.not_mem_nil
def L_X10_log (f_X8_moveInto : List Value → ab_H → Option ab_O) (f_X4_readText : List Value → ab_H → Option ab_O) (f_X6_copyFrom : List Value → ab_H → Option ab_O) (f_X10_judgeLog : List Value → ab_H → Option ab_O) (f_X6_hungerInAll : List Value → ab_H → Option ab_O) (f_X2_keep : List Value → ab_H → Option ab_O) : List (Nat × ab_A) := [
  (0, ab_nx 1 (ab_iload 1)),
  (1, ab_if 4 13 (fun x => decide (x = 0))),
  (4, ab_nx 5 (ab_iload 1)),
  (5, ab_nx 6 (ab_lit (.int 1))),
  (6, ab_icmp 9 13 (fun x y => decide (x = y))),
  (9, ab_nx 12 (ab_lit (.int (-1000)))),
  (12, ab_ret 8 138),
  (13, ab_nx 14 (ab_aload 0)),
  (14, ab_nx 17 (ab_getf 10 0)),
  (17, ab_nx 18 (ab_aload 0)),
  (18, ab_nx 21 (ab_getf 10 1)),
  (21, ab_nx 24 (ab_lit (.int 400))),
  (24, ab_nx 27 (ab_callV 3 8 f_X8_moveInto 0 0 8 138)),
  (27, ab_nx 28 (ab_aload 0)),
  (28, ab_nx 31 (ab_getf 10 7)),
  (31, ab_nx 32 (ab_aload 0)),
  (32, ab_nx 35 (ab_getf 10 1)),
  (35, ab_nx 36 (ab_aload 0)),
  (36, ab_nx 39 (ab_getf 10 13)),
  (39, ab_nx 42 (ab_callV 3 4 f_X4_readText 0 0 8 138)),
  (42, ab_nx 43 (ab_aload 0)),
  (43, ab_nx 44 (ab_aload 0)),
  (44, ab_nx 47 (ab_getf 10 1)),
  (47, ab_nx 50 (ab_getf 9 9)),
  (50, ab_nx 53 (ab_putf 10 18 0)),
  (53, ab_nx 54 (ab_aload 0)),
  (54, ab_nx 57 (ab_getf 10 18)),
  (57, ab_if 60 71 (fun x => decide (x = 0))),
  (60, ab_nx 62 (ab_lit (.int (-2)))),
  (62, ab_nx 63 (ab_aload 0)),
  (63, ab_nx 66 (ab_getf 10 1)),
  (66, ab_nx 69 (ab_getf 9 6)),
  (69, ab_nx 70 (ab_bin (fun x y => x - y))),
  (70, ab_ret 8 138),
  (71, ab_nx 72 (ab_aload 0)),
  (72, ab_nx 75 (ab_getf 10 5)),
  (75, ab_nx 76 (ab_aload 0)),
  (76, ab_nx 79 (ab_getf 10 4)),
  (79, ab_nx 82 (ab_callV 2 6 f_X6_copyFrom 0 0 8 138)),
  (82, ab_nx 83 (ab_aload 0)),
  (83, ab_nx 86 (ab_callV 1 10 f_X10_judgeLog 0 0 8 138)),
  (86, ab_nx 87 (ab_istore 2)),
  (87, ab_nx 88 (ab_aload 0)),
  (88, ab_nx 91 (ab_getf 10 12)),
  (91, ab_nx 92 (ab_lit (.int 2))),
  (92, ab_nx 93 (ab_aload 0)),
  (93, ab_nx 96 (ab_getf 10 5)),
  (96, ab_nx 99 (ab_getf 6 7)),
  (99, ab_nx 100 (ab_ast 1)),
  (100, ab_nx 101 (ab_aload 0)),
  (101, ab_nx 104 (ab_getf 10 12)),
  (104, ab_nx 105 (ab_lit (.int 3))),
  (105, ab_nx 106 (ab_aload 0)),
  (106, ab_nx 109 (ab_getf 10 5)),
  (109, ab_nx 112 (ab_callV 1 6 f_X6_hungerInAll 0 0 8 138)),
  (112, ab_nx 113 (ab_aload 0)),
  (113, ab_nx 116 (ab_getf 10 4)),
  (116, ab_nx 119 (ab_callV 1 6 f_X6_hungerInAll 0 0 8 138)),
  (119, ab_nx 120 (ab_bin (fun x y => x - y))),
  (120, ab_nx 121 (ab_ast 1)),
  (121, ab_nx 122 (ab_iload 1)),
  (122, ab_nx 123 (ab_lit (.int 1))),
  (123, ab_icmp 126 157 (fun x y => !decide (x = y))),
  (126, ab_nx 127 (ab_aload 0)),
  (127, ab_nx 130 (ab_getf 10 12)),
  (130, ab_nx 131 (ab_lit (.int 1))),
  (131, ab_nx 132 (ab_ald 1)),
  (132, ab_if 135 157 (fun x => decide (x ≤ 0))),
  (135, ab_nx 136 (ab_aload 0)),
  (136, ab_nx 139 (ab_getf 10 3)),
  (139, ab_nx 140 (ab_aload 0)),
  (140, ab_nx 143 (ab_getf 10 4)),
  (143, ab_nx 146 (ab_callV 2 2 f_X2_keep 8 138 8 138)),
  (146, ab_nx 147 (ab_aload 0)),
  (147, ab_nx 150 (ab_getf 10 4)),
  (150, ab_nx 151 (ab_aload 0)),
  (151, ab_nx 154 (ab_getf 10 5)),
  (154, ab_nx 157 (ab_callV 2 6 f_X6_copyFrom 0 0 8 138)),
  (157, ab_nx 158 (ab_iload 2)),
  (158, ab_ret 8 138)]
set_option maxRecDepth 100000 in
set_option maxHeartbeats 4000000 in
theorem M_X10_log {l : Launch} {b : ab_B} {D : va_G} {cA : Nat → ClassId} {f_X8_moveInto : List Value → ab_H → Option ab_O} (h_X8_moveInto : ab_M l b D ab_cl cA (ab_E0 b) yX8_moveInto (Cond.code yX8_moveInto cX8_moveInto 5 none :: ab_G) ({ frames := 9, cells := 0, slots := 0, locals := 900 } : Room) f_X8_moveInto) {f_X4_readText : List Value → ab_H → Option ab_O} (h_X4_readText : ab_M l b D ab_cl cA (ab_E0 b) yX4_readText (Cond.code yX4_readText cX4_readText 5 none :: ab_G) ({ frames := 6, cells := 0, slots := 0, locals := 600 } : Room) f_X4_readText) {f_X6_copyFrom : List Value → ab_H → Option ab_O} (h_X6_copyFrom : ab_M l b D ab_cl cA (ab_E0 b) yX6_copyFrom (Cond.code yX6_copyFrom cX6_copyFrom 2 none :: ab_G) ({ frames := 2, cells := 0, slots := 0, locals := 200 } : Room) f_X6_copyFrom) {f_X10_judgeLog : List Value → ab_H → Option ab_O} (h_X10_judgeLog : ab_M l b D ab_cl cA (ab_E0 b) yX10_judgeLog (Cond.code yX10_judgeLog cX10_judgeLog 3 (some .int) :: ab_G) ({ frames := 7, cells := 0, slots := 0, locals := 700 } : Room) f_X10_judgeLog) {f_X6_hungerInAll : List Value → ab_H → Option ab_O} (h_X6_hungerInAll : ab_M l b D ab_cl cA (ab_E0 b) yX6_hungerInAll (Cond.code yX6_hungerInAll cX6_hungerInAll 3 (some .int) :: ab_G) ({ frames := 1, cells := 0, slots := 0, locals := 100 } : Room) f_X6_hungerInAll) {f_X2_keep : List Value → ab_H → Option ab_O} (h_X2_keep : ab_M l b D ab_cl cA (ab_E0 b) yX2_keep (Cond.code yX2_keep cX2_keep 3 none :: ab_G) ({ frames := 3, cells := 8, slots := 138, locals := 300 } : Room) f_X2_keep) : ab_M l b D ab_cl cA (ab_E0 b) yX10_log (Cond.code yX10_log cX10_log 3 (some .int) :: ab_G) ({ frames := 10, cells := 8, slots := 138, locals := 1000 } : Room) (ab_X (ab_T (L_X10_log f_X8_moveInto f_X4_readText f_X6_copyFrom f_X10_judgeLog f_X6_hungerInAll f_X2_keep)) 3) := by
  refine ab_meth (ret := (some .int)) (L_X10_log f_X8_moveInto f_X4_readText f_X6_copyFrom f_X10_judgeLog f_X6_hungerInAll f_X2_keep) (by decide) rfl fun p e R s m args below meth c o C => ?_
  unfold L_X10_log
  refine List.forall_mem_cons.mpr ⟨ok_iload_n C (show decode cX10_log 0 = .ok (.iload_n 1, 1) by decide +kernel) rfl rfl, ?_⟩
  refine List.forall_mem_cons.mpr ⟨ok_ifeq C (show decode cX10_log 1 = .ok (.ifCond .eq 12, 3) by decide +kernel) (tg := 13) (by decide) rfl rfl, ?_⟩
  refine List.forall_mem_cons.mpr ⟨ok_iload_n C (show decode cX10_log 4 = .ok (.iload_n 1, 1) by decide +kernel) rfl rfl, ?_⟩
  refine List.forall_mem_cons.mpr ⟨ok_iconst C (show decode cX10_log 5 = .ok (.iconst 1, 1) by decide +kernel) (by decide) rfl, ?_⟩
  refine List.forall_mem_cons.mpr ⟨ok_icmpeq C (show decode cX10_log 6 = .ok (.if_icmp .eq 7, 3) by decide +kernel) (tg := 13) (by decide) rfl rfl, ?_⟩
  refine List.forall_mem_cons.mpr ⟨ok_sipush C (show decode cX10_log 9 = .ok (.sipush (-1000), 3) by decide +kernel) (by decide) rfl, ?_⟩
  refine List.forall_mem_cons.mpr ⟨ok_ret C rfl (show decode cX10_log 12 = .ok (.ireturn, 1) by decide +kernel), ?_⟩
  refine List.forall_mem_cons.mpr ⟨ok_aload_n C (show decode cX10_log 13 = .ok (.aload_n 0, 1) by decide +kernel) rfl rfl, ?_⟩
  refine List.forall_mem_cons.mpr ⟨ok_getf C (wi_X10) rfl (by decide) kw_315 (show decode cX10_log 14 = .ok (.getfield 12, 3) by decide +kernel) rfl, ?_⟩
  refine List.forall_mem_cons.mpr ⟨ok_aload_n C (show decode cX10_log 17 = .ok (.aload_n 0, 1) by decide +kernel) rfl rfl, ?_⟩
  refine List.forall_mem_cons.mpr ⟨ok_getf C (wi_X10) rfl (by decide) kw_316 (show decode cX10_log 18 = .ok (.getfield 19, 3) by decide +kernel) rfl, ?_⟩
  refine List.forall_mem_cons.mpr ⟨ok_sipush C (show decode cX10_log 21 = .ok (.sipush 400, 3) by decide +kernel) (by decide) rfl, ?_⟩
  refine List.forall_mem_cons.mpr ⟨ok_callV C h_X8_moveInto ⟨rfl, rfl⟩ rfl kw_392 kw_389 kw_390 kw_391 kw_2 rfl ds_X8_moveInto ⟨by decide, by decide⟩ (show decode cX10_log 24 = .ok (.invokevirtual 108, 3) by decide +kernel) rfl, ?_⟩
  refine List.forall_mem_cons.mpr ⟨ok_aload_n C (show decode cX10_log 27 = .ok (.aload_n 0, 1) by decide +kernel) rfl rfl, ?_⟩
  refine List.forall_mem_cons.mpr ⟨ok_getf C (wi_X10) rfl (by decide) kw_322 (show decode cX10_log 28 = .ok (.getfield 53, 3) by decide +kernel) rfl, ?_⟩
  refine List.forall_mem_cons.mpr ⟨ok_aload_n C (show decode cX10_log 31 = .ok (.aload_n 0, 1) by decide +kernel) rfl rfl, ?_⟩
  refine List.forall_mem_cons.mpr ⟨ok_getf C (wi_X10) rfl (by decide) kw_316 (show decode cX10_log 32 = .ok (.getfield 19, 3) by decide +kernel) rfl, ?_⟩
  refine List.forall_mem_cons.mpr ⟨ok_aload_n C (show decode cX10_log 35 = .ok (.aload_n 0, 1) by decide +kernel) rfl rfl, ?_⟩
  refine List.forall_mem_cons.mpr ⟨ok_getf C (wi_X10) rfl (by decide) kw_328 (show decode cX10_log 36 = .ok (.getfield 83, 3) by decide +kernel) rfl, ?_⟩
  refine List.forall_mem_cons.mpr ⟨ok_callV C h_X4_readText ⟨rfl, rfl⟩ rfl kw_913 kw_910 kw_911 kw_912 kw_7 rfl ds_X4_readText ⟨by decide, by decide⟩ (show decode cX10_log 39 = .ok (.invokevirtual 341, 3) by decide +kernel) rfl, ?_⟩
  refine List.forall_mem_cons.mpr ⟨ok_aload_n C (show decode cX10_log 42 = .ok (.aload_n 0, 1) by decide +kernel) rfl rfl, ?_⟩
  refine List.forall_mem_cons.mpr ⟨ok_aload_n C (show decode cX10_log 43 = .ok (.aload_n 0, 1) by decide +kernel) rfl rfl, ?_⟩
  refine List.forall_mem_cons.mpr ⟨ok_getf C (wi_X10) rfl (by decide) kw_316 (show decode cX10_log 44 = .ok (.getfield 19, 3) by decide +kernel) rfl, ?_⟩
  refine List.forall_mem_cons.mpr ⟨ok_getf C (wi_X9) rfl (by decide) kw_75 (show decode cX10_log 47 = .ok (.getfield 116, 3) by decide +kernel) rfl, ?_⟩
  refine List.forall_mem_cons.mpr ⟨ok_putf C (wi_X10) tyX10 tyX10_ok nmX10 rfl (by decide) kw_333 (Or.inl rfl) (Or.inl ⟨rfl, rfl⟩) (show decode cX10_log 50 = .ok (.putfield 119, 3) by decide +kernel) rfl, ?_⟩
  refine List.forall_mem_cons.mpr ⟨ok_aload_n C (show decode cX10_log 53 = .ok (.aload_n 0, 1) by decide +kernel) rfl rfl, ?_⟩
  refine List.forall_mem_cons.mpr ⟨ok_getf C (wi_X10) rfl (by decide) kw_333 (show decode cX10_log 54 = .ok (.getfield 119, 3) by decide +kernel) rfl, ?_⟩
  refine List.forall_mem_cons.mpr ⟨ok_ifeq C (show decode cX10_log 57 = .ok (.ifCond .eq 14, 3) by decide +kernel) (tg := 71) (by decide) rfl rfl, ?_⟩
  refine List.forall_mem_cons.mpr ⟨ok_bipush C (show decode cX10_log 60 = .ok (.bipush (-2), 2) by decide +kernel) (by decide) rfl, ?_⟩
  refine List.forall_mem_cons.mpr ⟨ok_aload_n C (show decode cX10_log 62 = .ok (.aload_n 0, 1) by decide +kernel) rfl rfl, ?_⟩
  refine List.forall_mem_cons.mpr ⟨ok_getf C (wi_X10) rfl (by decide) kw_316 (show decode cX10_log 63 = .ok (.getfield 19, 3) by decide +kernel) rfl, ?_⟩
  refine List.forall_mem_cons.mpr ⟨ok_getf C (wi_X9) rfl (by decide) kw_65 (show decode cX10_log 66 = .ok (.getfield 122, 3) by decide +kernel) rfl, ?_⟩
  refine List.forall_mem_cons.mpr ⟨ok_isub C (show decode cX10_log 69 = .ok (.isub, 1) by decide +kernel) rfl, ?_⟩
  refine List.forall_mem_cons.mpr ⟨ok_ret C rfl (show decode cX10_log 70 = .ok (.ireturn, 1) by decide +kernel), ?_⟩
  refine List.forall_mem_cons.mpr ⟨ok_aload_n C (show decode cX10_log 71 = .ok (.aload_n 0, 1) by decide +kernel) rfl rfl, ?_⟩
  refine List.forall_mem_cons.mpr ⟨ok_getf C (wi_X10) rfl (by decide) kw_320 (show decode cX10_log 72 = .ok (.getfield 44, 3) by decide +kernel) rfl, ?_⟩
  refine List.forall_mem_cons.mpr ⟨ok_aload_n C (show decode cX10_log 75 = .ok (.aload_n 0, 1) by decide +kernel) rfl rfl, ?_⟩
  refine List.forall_mem_cons.mpr ⟨ok_getf C (wi_X10) rfl (by decide) kw_319 (show decode cX10_log 76 = .ok (.getfield 40, 3) by decide +kernel) rfl, ?_⟩
  refine List.forall_mem_cons.mpr ⟨ok_callV C h_X6_copyFrom ⟨rfl, rfl⟩ rfl kw_724 kw_806 kw_722 kw_723 kw_6 rfl ds_X6_copyFrom ⟨by decide, by decide⟩ (show decode cX10_log 79 = .ok (.invokevirtual 284, 3) by decide +kernel) rfl, ?_⟩
  refine List.forall_mem_cons.mpr ⟨ok_aload_n C (show decode cX10_log 82 = .ok (.aload_n 0, 1) by decide +kernel) rfl rfl, ?_⟩
  refine List.forall_mem_cons.mpr ⟨ok_callV C h_X10_judgeLog ⟨rfl, rfl⟩ rfl kw_944 kw_941 kw_943 kp_36 kw_1 rfl ds_X10_judgeLog ⟨by decide, by decide⟩ (show decode cX10_log 83 = .ok (.invokevirtual 344, 3) by decide +kernel) rfl, ?_⟩
  refine List.forall_mem_cons.mpr ⟨ok_istore_n C (show decode cX10_log 86 = .ok (.istore_n 2, 1) by decide +kernel) rfl (by decide) rfl, ?_⟩
  refine List.forall_mem_cons.mpr ⟨ok_aload_n C (show decode cX10_log 87 = .ok (.aload_n 0, 1) by decide +kernel) rfl rfl, ?_⟩
  refine List.forall_mem_cons.mpr ⟨ok_getf C (wi_X10) rfl (by decide) kw_327 (show decode cX10_log 88 = .ok (.getfield 77, 3) by decide +kernel) rfl, ?_⟩
  refine List.forall_mem_cons.mpr ⟨ok_iconst C (show decode cX10_log 91 = .ok (.iconst 2, 1) by decide +kernel) (by decide) rfl, ?_⟩
  refine List.forall_mem_cons.mpr ⟨ok_aload_n C (show decode cX10_log 92 = .ok (.aload_n 0, 1) by decide +kernel) rfl rfl, ?_⟩
  refine List.forall_mem_cons.mpr ⟨ok_getf C (wi_X10) rfl (by decide) kw_320 (show decode cX10_log 93 = .ok (.getfield 44, 3) by decide +kernel) rfl, ?_⟩
  refine List.forall_mem_cons.mpr ⟨ok_getf C (wi_X6) rfl (by decide) kw_164 (show decode cX10_log 96 = .ok (.getfield 213, 3) by decide +kernel) rfl, ?_⟩
  refine List.forall_mem_cons.mpr ⟨ok_iastore C (show decode cX10_log 99 = .ok (.iastore, 1) by decide +kernel) rfl, ?_⟩
  refine List.forall_mem_cons.mpr ⟨ok_aload_n C (show decode cX10_log 100 = .ok (.aload_n 0, 1) by decide +kernel) rfl rfl, ?_⟩
  refine List.forall_mem_cons.mpr ⟨ok_getf C (wi_X10) rfl (by decide) kw_327 (show decode cX10_log 101 = .ok (.getfield 77, 3) by decide +kernel) rfl, ?_⟩
  refine List.forall_mem_cons.mpr ⟨ok_iconst C (show decode cX10_log 104 = .ok (.iconst 3, 1) by decide +kernel) (by decide) rfl, ?_⟩
  refine List.forall_mem_cons.mpr ⟨ok_aload_n C (show decode cX10_log 105 = .ok (.aload_n 0, 1) by decide +kernel) rfl rfl, ?_⟩
  refine List.forall_mem_cons.mpr ⟨ok_getf C (wi_X10) rfl (by decide) kw_320 (show decode cX10_log 106 = .ok (.getfield 44, 3) by decide +kernel) rfl, ?_⟩
  refine List.forall_mem_cons.mpr ⟨ok_callV C h_X6_hungerInAll ⟨rfl, rfl⟩ rfl kw_652 kw_649 kw_650 kw_651 kw_6 rfl ds_X6_hungerInAll ⟨by decide, by decide⟩ (show decode cX10_log 109 = .ok (.invokevirtual 229, 3) by decide +kernel) rfl, ?_⟩
  refine List.forall_mem_cons.mpr ⟨ok_aload_n C (show decode cX10_log 112 = .ok (.aload_n 0, 1) by decide +kernel) rfl rfl, ?_⟩
  refine List.forall_mem_cons.mpr ⟨ok_getf C (wi_X10) rfl (by decide) kw_319 (show decode cX10_log 113 = .ok (.getfield 40, 3) by decide +kernel) rfl, ?_⟩
  refine List.forall_mem_cons.mpr ⟨ok_callV C h_X6_hungerInAll ⟨rfl, rfl⟩ rfl kw_652 kw_649 kw_650 kw_651 kw_6 rfl ds_X6_hungerInAll ⟨by decide, by decide⟩ (show decode cX10_log 116 = .ok (.invokevirtual 229, 3) by decide +kernel) rfl, ?_⟩
  refine List.forall_mem_cons.mpr ⟨ok_isub C (show decode cX10_log 119 = .ok (.isub, 1) by decide +kernel) rfl, ?_⟩
  refine List.forall_mem_cons.mpr ⟨ok_iastore C (show decode cX10_log 120 = .ok (.iastore, 1) by decide +kernel) rfl, ?_⟩
  refine List.forall_mem_cons.mpr ⟨ok_iload_n C (show decode cX10_log 121 = .ok (.iload_n 1, 1) by decide +kernel) rfl rfl, ?_⟩
  refine List.forall_mem_cons.mpr ⟨ok_iconst C (show decode cX10_log 122 = .ok (.iconst 1, 1) by decide +kernel) (by decide) rfl, ?_⟩
  refine List.forall_mem_cons.mpr ⟨ok_icmpne C (show decode cX10_log 123 = .ok (.if_icmp .ne 34, 3) by decide +kernel) (tg := 157) (by decide) rfl rfl, ?_⟩
  refine List.forall_mem_cons.mpr ⟨ok_aload_n C (show decode cX10_log 126 = .ok (.aload_n 0, 1) by decide +kernel) rfl rfl, ?_⟩
  refine List.forall_mem_cons.mpr ⟨ok_getf C (wi_X10) rfl (by decide) kw_327 (show decode cX10_log 127 = .ok (.getfield 77, 3) by decide +kernel) rfl, ?_⟩
  refine List.forall_mem_cons.mpr ⟨ok_iconst C (show decode cX10_log 130 = .ok (.iconst 1, 1) by decide +kernel) (by decide) rfl, ?_⟩
  refine List.forall_mem_cons.mpr ⟨ok_iaload C (show decode cX10_log 131 = .ok (.iaload, 1) by decide +kernel) rfl, ?_⟩
  refine List.forall_mem_cons.mpr ⟨ok_ifle C (show decode cX10_log 132 = .ok (.ifCond .le 25, 3) by decide +kernel) (tg := 157) (by decide) rfl rfl, ?_⟩
  refine List.forall_mem_cons.mpr ⟨ok_aload_n C (show decode cX10_log 135 = .ok (.aload_n 0, 1) by decide +kernel) rfl rfl, ?_⟩
  refine List.forall_mem_cons.mpr ⟨ok_getf C (wi_X10) rfl (by decide) kw_318 (show decode cX10_log 136 = .ok (.getfield 33, 3) by decide +kernel) rfl, ?_⟩
  refine List.forall_mem_cons.mpr ⟨ok_aload_n C (show decode cX10_log 139 = .ok (.aload_n 0, 1) by decide +kernel) rfl rfl, ?_⟩
  refine List.forall_mem_cons.mpr ⟨ok_getf C (wi_X10) rfl (by decide) kw_319 (show decode cX10_log 140 = .ok (.getfield 40, 3) by decide +kernel) rfl, ?_⟩
  refine List.forall_mem_cons.mpr ⟨ok_callV C h_X2_keep ⟨rfl, rfl⟩ rfl kw_715 kw_712 kw_713 kw_714 kw_5 rfl ds_X2_keep ⟨by decide, by decide⟩ (show decode cX10_log 143 = .ok (.invokevirtual 258, 3) by decide +kernel) rfl, ?_⟩
  refine List.forall_mem_cons.mpr ⟨ok_aload_n C (show decode cX10_log 146 = .ok (.aload_n 0, 1) by decide +kernel) rfl rfl, ?_⟩
  refine List.forall_mem_cons.mpr ⟨ok_getf C (wi_X10) rfl (by decide) kw_319 (show decode cX10_log 147 = .ok (.getfield 40, 3) by decide +kernel) rfl, ?_⟩
  refine List.forall_mem_cons.mpr ⟨ok_aload_n C (show decode cX10_log 150 = .ok (.aload_n 0, 1) by decide +kernel) rfl rfl, ?_⟩
  refine List.forall_mem_cons.mpr ⟨ok_getf C (wi_X10) rfl (by decide) kw_320 (show decode cX10_log 151 = .ok (.getfield 44, 3) by decide +kernel) rfl, ?_⟩
  refine List.forall_mem_cons.mpr ⟨ok_callV C h_X6_copyFrom ⟨rfl, rfl⟩ rfl kw_724 kw_806 kw_722 kw_723 kw_6 rfl ds_X6_copyFrom ⟨by decide, by decide⟩ (show decode cX10_log 154 = .ok (.invokevirtual 284, 3) by decide +kernel) rfl, ?_⟩
  refine List.forall_mem_cons.mpr ⟨ok_iload_n C (show decode cX10_log 157 = .ok (.iload_n 2, 1) by decide +kernel) rfl rfl, ?_⟩
  refine List.forall_mem_cons.mpr ⟨ok_ret C rfl (show decode cX10_log 158 = .ok (.ireturn, 1) by decide +kernel), ?_⟩
  exact fun _ h => absurd h List.not_mem_nil
def L_X10_logged : List (Nat × ab_A) := [
  (0, ab_nx 1 (ab_iload 1)),
  (1, ab_if 4 22 (fun x => decide (x < 0))),
  (4, ab_nx 5 (ab_iload 1)),
  (5, ab_nx 6 (ab_aload 0)),
  (6, ab_nx 9 (ab_getf 10 12)),
  (9, ab_nx 10 ab_alen),
  (10, ab_icmp 13 22 (fun x y => decide (y ≤ x))),
  (13, ab_nx 14 (ab_aload 0)),
  (14, ab_nx 17 (ab_getf 10 12)),
  (17, ab_nx 18 (ab_iload 1)),
  (18, ab_nx 19 (ab_ald 1)),
  (19, ab_goto 23),
  (22, ab_nx 23 (ab_lit (.int (-1)))),
  (23, ab_ret 0 0)]
set_option maxRecDepth 100000 in
set_option maxHeartbeats 4000000 in
theorem M_X10_logged {l : Launch} {b : ab_B} {D : va_G} {cA : Nat → ClassId} : ab_M l b D ab_cl cA (ab_E0 b) yX10_logged (Cond.code yX10_logged cX10_logged 2 (some .int) :: ab_G) ({ frames := 1, cells := 0, slots := 0, locals := 100 } : Room) (ab_X (ab_T L_X10_logged) 2) := by
  refine ab_meth (ret := (some .int)) L_X10_logged (by decide) rfl fun p e R s m args below meth c o C => ?_
  unfold L_X10_logged
  refine List.forall_mem_cons.mpr ⟨ok_iload_n C (show decode cX10_logged 0 = .ok (.iload_n 1, 1) by decide +kernel) rfl rfl, ?_⟩
  refine List.forall_mem_cons.mpr ⟨ok_iflt C (show decode cX10_logged 1 = .ok (.ifCond .lt 21, 3) by decide +kernel) (tg := 22) (by decide) rfl rfl, ?_⟩
  refine List.forall_mem_cons.mpr ⟨ok_iload_n C (show decode cX10_logged 4 = .ok (.iload_n 1, 1) by decide +kernel) rfl rfl, ?_⟩
  refine List.forall_mem_cons.mpr ⟨ok_aload_n C (show decode cX10_logged 5 = .ok (.aload_n 0, 1) by decide +kernel) rfl rfl, ?_⟩
  refine List.forall_mem_cons.mpr ⟨ok_getf C (wi_X10) rfl (by decide) kw_327 (show decode cX10_logged 6 = .ok (.getfield 77, 3) by decide +kernel) rfl, ?_⟩
  refine List.forall_mem_cons.mpr ⟨ok_arraylength C (show decode cX10_logged 9 = .ok (.arraylength, 1) by decide +kernel) rfl, ?_⟩
  refine List.forall_mem_cons.mpr ⟨ok_icmpge C (show decode cX10_logged 10 = .ok (.if_icmp .ge 12, 3) by decide +kernel) (tg := 22) (by decide) rfl rfl, ?_⟩
  refine List.forall_mem_cons.mpr ⟨ok_aload_n C (show decode cX10_logged 13 = .ok (.aload_n 0, 1) by decide +kernel) rfl rfl, ?_⟩
  refine List.forall_mem_cons.mpr ⟨ok_getf C (wi_X10) rfl (by decide) kw_327 (show decode cX10_logged 14 = .ok (.getfield 77, 3) by decide +kernel) rfl, ?_⟩
  refine List.forall_mem_cons.mpr ⟨ok_iload_n C (show decode cX10_logged 17 = .ok (.iload_n 1, 1) by decide +kernel) rfl rfl, ?_⟩
  refine List.forall_mem_cons.mpr ⟨ok_iaload C (show decode cX10_logged 18 = .ok (.iaload, 1) by decide +kernel) rfl, ?_⟩
  refine List.forall_mem_cons.mpr ⟨ok_goto C (show decode cX10_logged 19 = .ok (.goto 4, 3) by decide +kernel) (tg := 23) (by decide) rfl, ?_⟩
  refine List.forall_mem_cons.mpr ⟨ok_iconst C (show decode cX10_logged 22 = .ok (.iconst (-1), 1) by decide +kernel) (by decide) rfl, ?_⟩
  refine List.forall_mem_cons.mpr ⟨ok_ret C rfl (show decode cX10_logged 23 = .ok (.ireturn, 1) by decide +kernel), ?_⟩
  exact fun _ h => absurd h List.not_mem_nil
def L_X10_sentence (f_X8_moveInto : List Value → ab_H → Option ab_O) (f_X5_readText : List Value → ab_H → Option ab_O) : List (Nat × ab_A) := [
  (0, ab_nx 1 (ab_aload 0)),
  (1, ab_nx 4 (ab_getf 10 0)),
  (4, ab_nx 5 (ab_aload 0)),
  (5, ab_nx 8 (ab_getf 10 1)),
  (8, ab_nx 11 (ab_lit (.int 200))),
  (11, ab_nx 14 (ab_callV 3 8 f_X8_moveInto 0 0 0 0)),
  (14, ab_nx 15 (ab_aload 0)),
  (15, ab_nx 18 (ab_getf 10 16)),
  (18, ab_nx 19 (ab_aload 0)),
  (19, ab_nx 22 (ab_getf 10 1)),
  (22, ab_nx 25 (ab_callV 2 5 f_X5_readText 0 0 0 0)),
  (25, ab_nx 26 (ab_aload 0)),
  (26, ab_nx 27 (ab_aload 0)),
  (27, ab_nx 30 (ab_getf 10 1)),
  (30, ab_nx 33 (ab_getf 9 9)),
  (33, ab_nx 36 (ab_putf 10 18 0)),
  (36, ab_nx 37 (ab_aload 0)),
  (37, ab_nx 40 (ab_getf 10 18)),
  (40, ab_if 43 53 (fun x => decide (x = 0))),
  (43, ab_nx 44 (ab_lit (.int (-1)))),
  (44, ab_nx 45 (ab_aload 0)),
  (45, ab_nx 48 (ab_getf 10 1)),
  (48, ab_nx 51 (ab_getf 9 6)),
  (51, ab_nx 52 (ab_bin (fun x y => x - y))),
  (52, ab_ret 0 0),
  (53, ab_nx 54 (ab_aload 0)),
  (54, ab_nx 57 (ab_getf 10 15)),
  (57, ab_nx 58 (ab_astore 1)),
  (58, ab_nx 59 (ab_aload 0)),
  (59, ab_nx 60 (ab_aload 0)),
  (60, ab_nx 63 (ab_getf 10 16)),
  (63, ab_nx 66 (ab_putf 10 15 2)),
  (66, ab_nx 67 (ab_aload 0)),
  (67, ab_nx 68 (ab_aload 1)),
  (68, ab_nx 71 (ab_putf 10 16 2)),
  (71, ab_nx 72 (ab_aload 0)),
  (72, ab_nx 75 (ab_getf 10 15)),
  (75, ab_nx 78 (ab_getf 5 4)),
  (78, ab_ret 0 0)]
set_option maxRecDepth 100000 in
set_option maxHeartbeats 4000000 in
theorem M_X10_sentence {l : Launch} {b : ab_B} {D : va_G} {cA : Nat → ClassId} {f_X8_moveInto : List Value → ab_H → Option ab_O} (h_X8_moveInto : ab_M l b D ab_cl cA (ab_E0 b) yX8_moveInto (Cond.code yX8_moveInto cX8_moveInto 5 none :: ab_G) ({ frames := 9, cells := 0, slots := 0, locals := 900 } : Room) f_X8_moveInto) {f_X5_readText : List Value → ab_H → Option ab_O} (h_X5_readText : ab_M l b D ab_cl cA (ab_E0 b) yX5_readText (Cond.code yX5_readText cX5_readText 2 none :: ab_G) ({ frames := 40, cells := 0, slots := 0, locals := 4000 } : Room) f_X5_readText) : ab_M l b D ab_cl cA (ab_E0 b) yX10_sentence (Cond.code yX10_sentence cX10_sentence 2 (some .int) :: ab_G) ({ frames := 41, cells := 0, slots := 0, locals := 4100 } : Room) (ab_X (ab_T (L_X10_sentence f_X8_moveInto f_X5_readText)) 2) := by
  refine ab_meth (ret := (some .int)) (L_X10_sentence f_X8_moveInto f_X5_readText) (by decide) rfl fun p e R s m args below meth c o C => ?_
  unfold L_X10_sentence
  refine List.forall_mem_cons.mpr ⟨ok_aload_n C (show decode cX10_sentence 0 = .ok (.aload_n 0, 1) by decide +kernel) rfl rfl, ?_⟩
  refine List.forall_mem_cons.mpr ⟨ok_getf C (wi_X10) rfl (by decide) kw_315 (show decode cX10_sentence 1 = .ok (.getfield 12, 3) by decide +kernel) rfl, ?_⟩
  refine List.forall_mem_cons.mpr ⟨ok_aload_n C (show decode cX10_sentence 4 = .ok (.aload_n 0, 1) by decide +kernel) rfl rfl, ?_⟩
  refine List.forall_mem_cons.mpr ⟨ok_getf C (wi_X10) rfl (by decide) kw_316 (show decode cX10_sentence 5 = .ok (.getfield 19, 3) by decide +kernel) rfl, ?_⟩
  refine List.forall_mem_cons.mpr ⟨ok_sipush C (show decode cX10_sentence 8 = .ok (.sipush 200, 3) by decide +kernel) (by decide) rfl, ?_⟩
  refine List.forall_mem_cons.mpr ⟨ok_callV C h_X8_moveInto ⟨rfl, rfl⟩ rfl kw_392 kw_389 kw_390 kw_391 kw_2 rfl ds_X8_moveInto ⟨by decide, by decide⟩ (show decode cX10_sentence 11 = .ok (.invokevirtual 108, 3) by decide +kernel) rfl, ?_⟩
  refine List.forall_mem_cons.mpr ⟨ok_aload_n C (show decode cX10_sentence 14 = .ok (.aload_n 0, 1) by decide +kernel) rfl rfl, ?_⟩
  refine List.forall_mem_cons.mpr ⟨ok_getf C (wi_X10) rfl (by decide) kw_331 (show decode cX10_sentence 15 = .ok (.getfield 97, 3) by decide +kernel) rfl, ?_⟩
  refine List.forall_mem_cons.mpr ⟨ok_aload_n C (show decode cX10_sentence 18 = .ok (.aload_n 0, 1) by decide +kernel) rfl rfl, ?_⟩
  refine List.forall_mem_cons.mpr ⟨ok_getf C (wi_X10) rfl (by decide) kw_316 (show decode cX10_sentence 19 = .ok (.getfield 19, 3) by decide +kernel) rfl, ?_⟩
  refine List.forall_mem_cons.mpr ⟨ok_callV C h_X5_readText ⟨rfl, rfl⟩ rfl kw_960 kw_957 kw_958 kw_959 kw_10 rfl ds_X5_readText ⟨by decide, by decide⟩ (show decode cX10_sentence 22 = .ok (.invokevirtual 362, 3) by decide +kernel) rfl, ?_⟩
  refine List.forall_mem_cons.mpr ⟨ok_aload_n C (show decode cX10_sentence 25 = .ok (.aload_n 0, 1) by decide +kernel) rfl rfl, ?_⟩
  refine List.forall_mem_cons.mpr ⟨ok_aload_n C (show decode cX10_sentence 26 = .ok (.aload_n 0, 1) by decide +kernel) rfl rfl, ?_⟩
  refine List.forall_mem_cons.mpr ⟨ok_getf C (wi_X10) rfl (by decide) kw_316 (show decode cX10_sentence 27 = .ok (.getfield 19, 3) by decide +kernel) rfl, ?_⟩
  refine List.forall_mem_cons.mpr ⟨ok_getf C (wi_X9) rfl (by decide) kw_75 (show decode cX10_sentence 30 = .ok (.getfield 116, 3) by decide +kernel) rfl, ?_⟩
  refine List.forall_mem_cons.mpr ⟨ok_putf C (wi_X10) tyX10 tyX10_ok nmX10 rfl (by decide) kw_333 (Or.inl rfl) (Or.inl ⟨rfl, rfl⟩) (show decode cX10_sentence 33 = .ok (.putfield 119, 3) by decide +kernel) rfl, ?_⟩
  refine List.forall_mem_cons.mpr ⟨ok_aload_n C (show decode cX10_sentence 36 = .ok (.aload_n 0, 1) by decide +kernel) rfl rfl, ?_⟩
  refine List.forall_mem_cons.mpr ⟨ok_getf C (wi_X10) rfl (by decide) kw_333 (show decode cX10_sentence 37 = .ok (.getfield 119, 3) by decide +kernel) rfl, ?_⟩
  refine List.forall_mem_cons.mpr ⟨ok_ifeq C (show decode cX10_sentence 40 = .ok (.ifCond .eq 13, 3) by decide +kernel) (tg := 53) (by decide) rfl rfl, ?_⟩
  refine List.forall_mem_cons.mpr ⟨ok_iconst C (show decode cX10_sentence 43 = .ok (.iconst (-1), 1) by decide +kernel) (by decide) rfl, ?_⟩
  refine List.forall_mem_cons.mpr ⟨ok_aload_n C (show decode cX10_sentence 44 = .ok (.aload_n 0, 1) by decide +kernel) rfl rfl, ?_⟩
  refine List.forall_mem_cons.mpr ⟨ok_getf C (wi_X10) rfl (by decide) kw_316 (show decode cX10_sentence 45 = .ok (.getfield 19, 3) by decide +kernel) rfl, ?_⟩
  refine List.forall_mem_cons.mpr ⟨ok_getf C (wi_X9) rfl (by decide) kw_65 (show decode cX10_sentence 48 = .ok (.getfield 122, 3) by decide +kernel) rfl, ?_⟩
  refine List.forall_mem_cons.mpr ⟨ok_isub C (show decode cX10_sentence 51 = .ok (.isub, 1) by decide +kernel) rfl, ?_⟩
  refine List.forall_mem_cons.mpr ⟨ok_ret C rfl (show decode cX10_sentence 52 = .ok (.ireturn, 1) by decide +kernel), ?_⟩
  refine List.forall_mem_cons.mpr ⟨ok_aload_n C (show decode cX10_sentence 53 = .ok (.aload_n 0, 1) by decide +kernel) rfl rfl, ?_⟩
  refine List.forall_mem_cons.mpr ⟨ok_getf C (wi_X10) rfl (by decide) kw_330 (show decode cX10_sentence 54 = .ok (.getfield 93, 3) by decide +kernel) rfl, ?_⟩
  refine List.forall_mem_cons.mpr ⟨ok_astore_n C (show decode cX10_sentence 57 = .ok (.astore_n 1, 1) by decide +kernel) rfl (by decide) rfl, ?_⟩
  refine List.forall_mem_cons.mpr ⟨ok_aload_n C (show decode cX10_sentence 58 = .ok (.aload_n 0, 1) by decide +kernel) rfl rfl, ?_⟩
  refine List.forall_mem_cons.mpr ⟨ok_aload_n C (show decode cX10_sentence 59 = .ok (.aload_n 0, 1) by decide +kernel) rfl rfl, ?_⟩
  refine List.forall_mem_cons.mpr ⟨ok_getf C (wi_X10) rfl (by decide) kw_331 (show decode cX10_sentence 60 = .ok (.getfield 97, 3) by decide +kernel) rfl, ?_⟩
  refine List.forall_mem_cons.mpr ⟨ok_putf C (wi_X10) tyX10 tyX10_ok nmX10 rfl (by decide) kw_330 (Or.inl rfl) (Or.inr (Or.inr (Or.inl ⟨rfl, Or.inl ⟨_, rfl⟩⟩))) (show decode cX10_sentence 63 = .ok (.putfield 93, 3) by decide +kernel) rfl, ?_⟩
  refine List.forall_mem_cons.mpr ⟨ok_aload_n C (show decode cX10_sentence 66 = .ok (.aload_n 0, 1) by decide +kernel) rfl rfl, ?_⟩
  refine List.forall_mem_cons.mpr ⟨ok_aload_n C (show decode cX10_sentence 67 = .ok (.aload_n 1, 1) by decide +kernel) rfl rfl, ?_⟩
  refine List.forall_mem_cons.mpr ⟨ok_putf C (wi_X10) tyX10 tyX10_ok nmX10 rfl (by decide) kw_331 (Or.inl rfl) (Or.inr (Or.inr (Or.inl ⟨rfl, Or.inl ⟨_, rfl⟩⟩))) (show decode cX10_sentence 68 = .ok (.putfield 97, 3) by decide +kernel) rfl, ?_⟩
  refine List.forall_mem_cons.mpr ⟨ok_aload_n C (show decode cX10_sentence 71 = .ok (.aload_n 0, 1) by decide +kernel) rfl rfl, ?_⟩
  refine List.forall_mem_cons.mpr ⟨ok_getf C (wi_X10) rfl (by decide) kw_330 (show decode cX10_sentence 72 = .ok (.getfield 93, 3) by decide +kernel) rfl, ?_⟩
  refine List.forall_mem_cons.mpr ⟨ok_getf C (wi_X5) rfl (by decide) kw_299 (show decode cX10_sentence 75 = .ok (.getfield 365, 3) by decide +kernel) rfl, ?_⟩
  refine List.forall_mem_cons.mpr ⟨ok_ret C rfl (show decode cX10_sentence 78 = .ok (.ireturn, 1) by decide +kernel), ?_⟩
  exact fun _ h => absurd h List.not_mem_nil
def L_X10_said (f_X5_holdsOf : List Value → ab_H → Option ab_O) : List (Nat × ab_A) := [
  (0, ab_nx 1 (ab_aload 0)),
  (1, ab_nx 4 (ab_getf 10 15)),
  (4, ab_nx 7 (ab_getf 5 5)),
  (7, ab_if 10 15 (fun x => decide (x = 0))),
  (10, ab_nx 11 (ab_iload 1)),
  (11, ab_nx 12 (ab_lit (.int (-1)))),
  (12, ab_icmp 15 17 (fun x y => decide (y ≤ x))),
  (15, ab_nx 16 (ab_lit (.int (-1)))),
  (16, ab_ret 0 0),
  (17, ab_nx 18 (ab_lit (.int 0))),
  (18, ab_nx 19 (ab_istore 2)),
  (19, ab_nx 20 (ab_lit (.int 0))),
  (20, ab_nx 21 (ab_istore 3)),
  (21, ab_nx 22 (ab_iload 3)),
  (22, ab_nx 23 (ab_aload 0)),
  (23, ab_nx 26 (ab_getf 10 13)),
  (26, ab_nx 29 (ab_getf 7 8)),
  (29, ab_icmp 32 67 (fun x y => decide (y ≤ x))),
  (32, ab_nx 33 (ab_aload 0)),
  (33, ab_nx 36 (ab_getf 10 15)),
  (36, ab_nx 37 (ab_iload 3)),
  (37, ab_nx 38 (ab_aload 0)),
  (38, ab_nx 41 (ab_getf 10 13)),
  (41, ab_nx 42 (ab_aload 0)),
  (42, ab_nx 45 (ab_getf 10 4)),
  (45, ab_nx 48 (ab_callV 4 5 f_X5_holdsOf 0 0 0 0)),
  (48, ab_if 51 61 (fun x => decide (x = 0))),
  (51, ab_nx 52 (ab_iload 2)),
  (52, ab_nx 53 (ab_iload 1)),
  (53, ab_icmp 56 58 (fun x y => !decide (x = y))),
  (56, ab_nx 57 (ab_iload 3)),
  (57, ab_ret 0 0),
  (58, ab_nx 61 (ab_iinc 2 1)),
  (61, ab_nx 64 (ab_iinc 3 1)),
  (64, ab_goto 21),
  (67, ab_nx 68 (ab_iload 1)),
  (68, ab_nx 69 (ab_lit (.int (-1)))),
  (69, ab_icmp 72 76 (fun x y => !decide (x = y))),
  (72, ab_nx 73 (ab_iload 2)),
  (73, ab_goto 77),
  (76, ab_nx 77 (ab_lit (.int (-1)))),
  (77, ab_ret 0 0)]
set_option maxRecDepth 100000 in
set_option maxHeartbeats 4000000 in
theorem M_X10_said {l : Launch} {b : ab_B} {D : va_G} {cA : Nat → ClassId} {f_X5_holdsOf : List Value → ab_H → Option ab_O} (h_X5_holdsOf : ab_M l b D ab_cl cA (ab_E0 b) yX5_holdsOf (Cond.code yX5_holdsOf cX5_holdsOf 7 (some .boolean) :: ab_G) ({ frames := 5, cells := 0, slots := 0, locals := 500 } : Room) f_X5_holdsOf) : ab_M l b D ab_cl cA (ab_E0 b) yX10_said (Cond.code yX10_said cX10_said 4 (some .int) :: ab_G) ({ frames := 6, cells := 0, slots := 0, locals := 600 } : Room) (ab_X (ab_T (L_X10_said f_X5_holdsOf)) 4) := by
  refine ab_meth (ret := (some .int)) (L_X10_said f_X5_holdsOf) (by decide) rfl fun p e R s m args below meth c o C => ?_
  unfold L_X10_said
  refine List.forall_mem_cons.mpr ⟨ok_aload_n C (show decode cX10_said 0 = .ok (.aload_n 0, 1) by decide +kernel) rfl rfl, ?_⟩
  refine List.forall_mem_cons.mpr ⟨ok_getf C (wi_X10) rfl (by decide) kw_330 (show decode cX10_said 1 = .ok (.getfield 93, 3) by decide +kernel) rfl, ?_⟩
  refine List.forall_mem_cons.mpr ⟨ok_getf C (wi_X5) rfl (by decide) kw_301 (show decode cX10_said 4 = .ok (.getfield 129, 3) by decide +kernel) rfl, ?_⟩
  refine List.forall_mem_cons.mpr ⟨ok_ifeq C (show decode cX10_said 7 = .ok (.ifCond .eq 8, 3) by decide +kernel) (tg := 15) (by decide) rfl rfl, ?_⟩
  refine List.forall_mem_cons.mpr ⟨ok_iload_n C (show decode cX10_said 10 = .ok (.iload_n 1, 1) by decide +kernel) rfl rfl, ?_⟩
  refine List.forall_mem_cons.mpr ⟨ok_iconst C (show decode cX10_said 11 = .ok (.iconst (-1), 1) by decide +kernel) (by decide) rfl, ?_⟩
  refine List.forall_mem_cons.mpr ⟨ok_icmpge C (show decode cX10_said 12 = .ok (.if_icmp .ge 5, 3) by decide +kernel) (tg := 17) (by decide) rfl rfl, ?_⟩
  refine List.forall_mem_cons.mpr ⟨ok_iconst C (show decode cX10_said 15 = .ok (.iconst (-1), 1) by decide +kernel) (by decide) rfl, ?_⟩
  refine List.forall_mem_cons.mpr ⟨ok_ret C rfl (show decode cX10_said 16 = .ok (.ireturn, 1) by decide +kernel), ?_⟩
  refine List.forall_mem_cons.mpr ⟨ok_iconst C (show decode cX10_said 17 = .ok (.iconst 0, 1) by decide +kernel) (by decide) rfl, ?_⟩
  refine List.forall_mem_cons.mpr ⟨ok_istore_n C (show decode cX10_said 18 = .ok (.istore_n 2, 1) by decide +kernel) rfl (by decide) rfl, ?_⟩
  refine List.forall_mem_cons.mpr ⟨ok_iconst C (show decode cX10_said 19 = .ok (.iconst 0, 1) by decide +kernel) (by decide) rfl, ?_⟩
  refine List.forall_mem_cons.mpr ⟨ok_istore_n C (show decode cX10_said 20 = .ok (.istore_n 3, 1) by decide +kernel) rfl (by decide) rfl, ?_⟩
  refine List.forall_mem_cons.mpr ⟨ok_iload_n C (show decode cX10_said 21 = .ok (.iload_n 3, 1) by decide +kernel) rfl rfl, ?_⟩
  refine List.forall_mem_cons.mpr ⟨ok_aload_n C (show decode cX10_said 22 = .ok (.aload_n 0, 1) by decide +kernel) rfl rfl, ?_⟩
  refine List.forall_mem_cons.mpr ⟨ok_getf C (wi_X10) rfl (by decide) kw_328 (show decode cX10_said 23 = .ok (.getfield 83, 3) by decide +kernel) rfl, ?_⟩
  refine List.forall_mem_cons.mpr ⟨ok_getf C (wi_X7) rfl (by decide) kw_250 (show decode cX10_said 26 = .ok (.getfield 136, 3) by decide +kernel) rfl, ?_⟩
  refine List.forall_mem_cons.mpr ⟨ok_icmpge C (show decode cX10_said 29 = .ok (.if_icmp .ge 38, 3) by decide +kernel) (tg := 67) (by decide) rfl rfl, ?_⟩
  refine List.forall_mem_cons.mpr ⟨ok_aload_n C (show decode cX10_said 32 = .ok (.aload_n 0, 1) by decide +kernel) rfl rfl, ?_⟩
  refine List.forall_mem_cons.mpr ⟨ok_getf C (wi_X10) rfl (by decide) kw_330 (show decode cX10_said 33 = .ok (.getfield 93, 3) by decide +kernel) rfl, ?_⟩
  refine List.forall_mem_cons.mpr ⟨ok_iload_n C (show decode cX10_said 36 = .ok (.iload_n 3, 1) by decide +kernel) rfl rfl, ?_⟩
  refine List.forall_mem_cons.mpr ⟨ok_aload_n C (show decode cX10_said 37 = .ok (.aload_n 0, 1) by decide +kernel) rfl rfl, ?_⟩
  refine List.forall_mem_cons.mpr ⟨ok_getf C (wi_X10) rfl (by decide) kw_328 (show decode cX10_said 38 = .ok (.getfield 83, 3) by decide +kernel) rfl, ?_⟩
  refine List.forall_mem_cons.mpr ⟨ok_aload_n C (show decode cX10_said 41 = .ok (.aload_n 0, 1) by decide +kernel) rfl rfl, ?_⟩
  refine List.forall_mem_cons.mpr ⟨ok_getf C (wi_X10) rfl (by decide) kw_319 (show decode cX10_said 42 = .ok (.getfield 40, 3) by decide +kernel) rfl, ?_⟩
  refine List.forall_mem_cons.mpr ⟨ok_callV C h_X5_holdsOf ⟨rfl, rfl⟩ rfl kw_999 kw_996 kw_997 kw_998 kw_10 rfl ds_X5_holdsOf ⟨by decide, by decide⟩ (show decode cX10_said 45 = .ok (.invokevirtual 368, 3) by decide +kernel) rfl, ?_⟩
  refine List.forall_mem_cons.mpr ⟨ok_ifeq C (show decode cX10_said 48 = .ok (.ifCond .eq 13, 3) by decide +kernel) (tg := 61) (by decide) rfl rfl, ?_⟩
  refine List.forall_mem_cons.mpr ⟨ok_iload_n C (show decode cX10_said 51 = .ok (.iload_n 2, 1) by decide +kernel) rfl rfl, ?_⟩
  refine List.forall_mem_cons.mpr ⟨ok_iload_n C (show decode cX10_said 52 = .ok (.iload_n 1, 1) by decide +kernel) rfl rfl, ?_⟩
  refine List.forall_mem_cons.mpr ⟨ok_icmpne C (show decode cX10_said 53 = .ok (.if_icmp .ne 5, 3) by decide +kernel) (tg := 58) (by decide) rfl rfl, ?_⟩
  refine List.forall_mem_cons.mpr ⟨ok_iload_n C (show decode cX10_said 56 = .ok (.iload_n 3, 1) by decide +kernel) rfl rfl, ?_⟩
  refine List.forall_mem_cons.mpr ⟨ok_ret C rfl (show decode cX10_said 57 = .ok (.ireturn, 1) by decide +kernel), ?_⟩
  refine List.forall_mem_cons.mpr ⟨ok_iinc C (show decode cX10_said 58 = .ok (.iinc 2 1, 3) by decide +kernel) (by decide) (by decide) rfl, ?_⟩
  refine List.forall_mem_cons.mpr ⟨ok_iinc C (show decode cX10_said 61 = .ok (.iinc 3 1, 3) by decide +kernel) (by decide) (by decide) rfl, ?_⟩
  refine List.forall_mem_cons.mpr ⟨ok_goto C (show decode cX10_said 64 = .ok (.goto (-43), 3) by decide +kernel) (tg := 21) (by decide) rfl, ?_⟩
  refine List.forall_mem_cons.mpr ⟨ok_iload_n C (show decode cX10_said 67 = .ok (.iload_n 1, 1) by decide +kernel) rfl rfl, ?_⟩
  refine List.forall_mem_cons.mpr ⟨ok_iconst C (show decode cX10_said 68 = .ok (.iconst (-1), 1) by decide +kernel) (by decide) rfl, ?_⟩
  refine List.forall_mem_cons.mpr ⟨ok_icmpne C (show decode cX10_said 69 = .ok (.if_icmp .ne 7, 3) by decide +kernel) (tg := 76) (by decide) rfl rfl, ?_⟩
  refine List.forall_mem_cons.mpr ⟨ok_iload_n C (show decode cX10_said 72 = .ok (.iload_n 2, 1) by decide +kernel) rfl rfl, ?_⟩
  refine List.forall_mem_cons.mpr ⟨ok_goto C (show decode cX10_said 73 = .ok (.goto 4, 3) by decide +kernel) (tg := 77) (by decide) rfl, ?_⟩
  refine List.forall_mem_cons.mpr ⟨ok_iconst C (show decode cX10_said 76 = .ok (.iconst (-1), 1) by decide +kernel) (by decide) rfl, ?_⟩
  refine List.forall_mem_cons.mpr ⟨ok_ret C rfl (show decode cX10_said 77 = .ok (.ireturn, 1) by decide +kernel), ?_⟩
  exact fun _ h => absurd h List.not_mem_nil
def L_X10_image (f_X3_init : List Value → ab_H → Option ab_O) (f_X7_copyFrom : List Value → ab_H → Option ab_O) (f_X6_copyFrom : List Value → ab_H → Option ab_O) (f_X5_copyFrom : List Value → ab_H → Option ab_O) : List (Nat × ab_A) := [
  (0, ab_nx 1 (ab_iload 1)),
  (1, ab_if 4 9 (fun x => decide (x < 0))),
  (4, ab_nx 5 (ab_iload 1)),
  (5, ab_nx 6 (ab_lit (.int 2))),
  (6, ab_icmp 9 11 (fun x y => decide (x < y))),
  (9, ab_nx 10 (ab_lit (.int 0))),
  (10, ab_zret 21 410),
  (11, ab_nx 12 (ab_aload 0)),
  (12, ab_nx 15 (ab_getf 10 9)),
  (15, ab_nx 16 (ab_iload 1)),
  (16, ab_nx 17 (ab_aald 4)),
  (17, ab_nx 18 (ab_astore 2)),
  (18, ab_nx 19 (ab_aload 2)),
  (19, ab_nonnull 22 37),
  (22, ab_nx 25 (ab_new 3 3 [.null, .null, .null] 21 410)),
  (25, ab_nx 26 ab_dup),
  (26, ab_nx 29 (ab_call 1 f_X3_init 20 407 21 410)),
  (29, ab_nx 30 (ab_astore 2)),
  (30, ab_nx 31 (ab_aload 0)),
  (31, ab_nx 34 (ab_getf 10 9)),
  (34, ab_nx 35 (ab_iload 1)),
  (35, ab_nx 36 (ab_aload 2)),
  (36, ab_nx 37 (ab_aast 4 3)),
  (37, ab_nx 38 (ab_aload 2)),
  (38, ab_nx 41 (ab_getf 3 0)),
  (41, ab_nx 42 (ab_aload 0)),
  (42, ab_nx 45 (ab_getf 10 13)),
  (45, ab_nx 48 (ab_callV 2 7 f_X7_copyFrom 0 0 21 410)),
  (48, ab_nx 49 (ab_aload 2)),
  (49, ab_nx 52 (ab_getf 3 1)),
  (52, ab_nx 53 (ab_aload 0)),
  (53, ab_nx 56 (ab_getf 10 4)),
  (56, ab_nx 59 (ab_callV 2 6 f_X6_copyFrom 0 0 21 410)),
  (59, ab_nx 60 (ab_aload 2)),
  (60, ab_nx 63 (ab_getf 3 2)),
  (63, ab_nx 64 (ab_aload 0)),
  (64, ab_nx 67 (ab_getf 10 15)),
  (67, ab_nx 70 (ab_callV 2 5 f_X5_copyFrom 0 0 21 410)),
  (70, ab_nx 71 (ab_lit (.int 1))),
  (71, ab_zret 21 410)]
set_option maxRecDepth 100000 in
set_option maxHeartbeats 4000000 in
theorem M_X10_image {l : Launch} {b : ab_B} {D : va_G} {cA : Nat → ClassId} {f_X3_init : List Value → ab_H → Option ab_O} (h_X3_init : ab_M l b D ab_cl cA (ab_E0 b) yX3_init (Cond.code yX3_init cX3_init 1 none :: ab_G) ({ frames := 3, cells := 20, slots := 407, locals := 300 } : Room) f_X3_init) (i_X3_init : ∀ v hp o2, f_X3_init [v] hp = some o2 → ∃ a, v = .ref a) {f_X7_copyFrom : List Value → ab_H → Option ab_O} (h_X7_copyFrom : ab_M l b D ab_cl cA (ab_E0 b) yX7_copyFrom (Cond.code yX7_copyFrom cX7_copyFrom 2 none :: ab_G) ({ frames := 2, cells := 0, slots := 0, locals := 200 } : Room) f_X7_copyFrom) {f_X6_copyFrom : List Value → ab_H → Option ab_O} (h_X6_copyFrom : ab_M l b D ab_cl cA (ab_E0 b) yX6_copyFrom (Cond.code yX6_copyFrom cX6_copyFrom 2 none :: ab_G) ({ frames := 2, cells := 0, slots := 0, locals := 200 } : Room) f_X6_copyFrom) {f_X5_copyFrom : List Value → ab_H → Option ab_O} (h_X5_copyFrom : ab_M l b D ab_cl cA (ab_E0 b) yX5_copyFrom (Cond.code yX5_copyFrom cX5_copyFrom 2 none :: ab_G) ({ frames := 2, cells := 0, slots := 0, locals := 200 } : Room) f_X5_copyFrom) : ab_M l b D ab_cl cA (ab_E0 b) yX10_image (Cond.code yX10_image cX10_image 3 (some .boolean) :: ab_G) ({ frames := 4, cells := 21, slots := 410, locals := 400 } : Room) (ab_X (ab_T (L_X10_image f_X3_init f_X7_copyFrom f_X6_copyFrom f_X5_copyFrom)) 3) := by
  refine ab_meth (ret := (some .boolean)) (L_X10_image f_X3_init f_X7_copyFrom f_X6_copyFrom f_X5_copyFrom) (by decide) rfl fun p e R s m args below meth c o C => ?_
  unfold L_X10_image
  refine List.forall_mem_cons.mpr ⟨ok_iload_n C (show decode cX10_image 0 = .ok (.iload_n 1, 1) by decide +kernel) rfl rfl, ?_⟩
  refine List.forall_mem_cons.mpr ⟨ok_iflt C (show decode cX10_image 1 = .ok (.ifCond .lt 8, 3) by decide +kernel) (tg := 9) (by decide) rfl rfl, ?_⟩
  refine List.forall_mem_cons.mpr ⟨ok_iload_n C (show decode cX10_image 4 = .ok (.iload_n 1, 1) by decide +kernel) rfl rfl, ?_⟩
  refine List.forall_mem_cons.mpr ⟨ok_iconst C (show decode cX10_image 5 = .ok (.iconst 2, 1) by decide +kernel) (by decide) rfl, ?_⟩
  refine List.forall_mem_cons.mpr ⟨ok_icmplt C (show decode cX10_image 6 = .ok (.if_icmp .lt 5, 3) by decide +kernel) (tg := 11) (by decide) rfl rfl, ?_⟩
  refine List.forall_mem_cons.mpr ⟨ok_iconst C (show decode cX10_image 9 = .ok (.iconst 0, 1) by decide +kernel) (by decide) rfl, ?_⟩
  refine List.forall_mem_cons.mpr ⟨ok_zret C rfl (show decode cX10_image 10 = .ok (.ireturn, 1) by decide +kernel), ?_⟩
  refine List.forall_mem_cons.mpr ⟨ok_aload_n C (show decode cX10_image 11 = .ok (.aload_n 0, 1) by decide +kernel) rfl rfl, ?_⟩
  refine List.forall_mem_cons.mpr ⟨ok_getf C (wi_X10) rfl (by decide) kw_324 (show decode cX10_image 12 = .ok (.getfield 66, 3) by decide +kernel) rfl, ?_⟩
  refine List.forall_mem_cons.mpr ⟨ok_iload_n C (show decode cX10_image 15 = .ok (.iload_n 1, 1) by decide +kernel) rfl rfl, ?_⟩
  refine List.forall_mem_cons.mpr ⟨ok_aaload C (t0 := 4) rfl (show decode cX10_image 16 = .ok (.aaload, 1) by decide +kernel) rfl, ?_⟩
  refine List.forall_mem_cons.mpr ⟨ok_astore_n C (show decode cX10_image 17 = .ok (.astore_n 2, 1) by decide +kernel) rfl (by decide) rfl, ?_⟩
  refine List.forall_mem_cons.mpr ⟨ok_aload_n C (show decode cX10_image 18 = .ok (.aload_n 2, 1) by decide +kernel) rfl rfl, ?_⟩
  refine List.forall_mem_cons.mpr ⟨ok_nonnull C (show decode cX10_image 19 = .ok (.ifnonnull 18, 3) by decide +kernel) (tg := 37) (by decide) rfl rfl, ?_⟩
  refine List.forall_mem_cons.mpr ⟨ok_new C (wi_X3) tyX3 tyX3_ok rfl kw_226 kw_1021 kw_23 (df_X3 _) (show decode cX10_image 22 = .ok (.new 64, 3) by decide +kernel) rfl, ?_⟩
  refine List.forall_mem_cons.mpr ⟨ok_dup C (show decode cX10_image 25 = .ok (.dup, 1) by decide +kernel) rfl, ?_⟩
  refine List.forall_mem_cons.mpr ⟨ok_callIN C h_X3_init ⟨rfl, rfl⟩ i_X3_init kw_1024 (host := "LackFerry") (by decide +kernel) kw_1023 kw_23 rfl ds_X3_init ⟨by decide, by decide⟩ (show decode cX10_image 26 = .ok (.invokespecial 372, 3) by decide +kernel) rfl, ?_⟩
  refine List.forall_mem_cons.mpr ⟨ok_astore_n C (show decode cX10_image 29 = .ok (.astore_n 2, 1) by decide +kernel) rfl (by decide) rfl, ?_⟩
  refine List.forall_mem_cons.mpr ⟨ok_aload_n C (show decode cX10_image 30 = .ok (.aload_n 0, 1) by decide +kernel) rfl rfl, ?_⟩
  refine List.forall_mem_cons.mpr ⟨ok_getf C (wi_X10) rfl (by decide) kw_324 (show decode cX10_image 31 = .ok (.getfield 66, 3) by decide +kernel) rfl, ?_⟩
  refine List.forall_mem_cons.mpr ⟨ok_iload_n C (show decode cX10_image 34 = .ok (.iload_n 1, 1) by decide +kernel) rfl rfl, ?_⟩
  refine List.forall_mem_cons.mpr ⟨ok_aload_n C (show decode cX10_image 35 = .ok (.aload_n 2, 1) by decide +kernel) rfl rfl, ?_⟩
  refine List.forall_mem_cons.mpr ⟨ok_aastore C (t0 := 4) (ci := 3) rfl rfl (show decode cX10_image 36 = .ok (.aastore, 1) by decide +kernel) rfl, ?_⟩
  refine List.forall_mem_cons.mpr ⟨ok_aload_n C (show decode cX10_image 37 = .ok (.aload_n 2, 1) by decide +kernel) rfl rfl, ?_⟩
  refine List.forall_mem_cons.mpr ⟨ok_getf C (wi_X3) rfl (by decide) kw_1033 (show decode cX10_image 38 = .ok (.getfield 373, 3) by decide +kernel) rfl, ?_⟩
  refine List.forall_mem_cons.mpr ⟨ok_aload_n C (show decode cX10_image 41 = .ok (.aload_n 0, 1) by decide +kernel) rfl rfl, ?_⟩
  refine List.forall_mem_cons.mpr ⟨ok_getf C (wi_X10) rfl (by decide) kw_328 (show decode cX10_image 42 = .ok (.getfield 83, 3) by decide +kernel) rfl, ?_⟩
  refine List.forall_mem_cons.mpr ⟨ok_callV C h_X7_copyFrom ⟨rfl, rfl⟩ rfl kw_1048 kw_1045 kw_1046 kw_1047 kw_9 rfl ds_X7_copyFrom ⟨by decide, by decide⟩ (show decode cX10_image 45 = .ok (.invokevirtual 376, 3) by decide +kernel) rfl, ?_⟩
  refine List.forall_mem_cons.mpr ⟨ok_aload_n C (show decode cX10_image 48 = .ok (.aload_n 2, 1) by decide +kernel) rfl rfl, ?_⟩
  refine List.forall_mem_cons.mpr ⟨ok_getf C (wi_X3) rfl (by decide) kw_1035 (show decode cX10_image 49 = .ok (.getfield 378, 3) by decide +kernel) rfl, ?_⟩
  refine List.forall_mem_cons.mpr ⟨ok_aload_n C (show decode cX10_image 52 = .ok (.aload_n 0, 1) by decide +kernel) rfl rfl, ?_⟩
  refine List.forall_mem_cons.mpr ⟨ok_getf C (wi_X10) rfl (by decide) kw_319 (show decode cX10_image 53 = .ok (.getfield 40, 3) by decide +kernel) rfl, ?_⟩
  refine List.forall_mem_cons.mpr ⟨ok_callV C h_X6_copyFrom ⟨rfl, rfl⟩ rfl kw_724 kw_806 kw_722 kw_723 kw_6 rfl ds_X6_copyFrom ⟨by decide, by decide⟩ (show decode cX10_image 56 = .ok (.invokevirtual 284, 3) by decide +kernel) rfl, ?_⟩
  refine List.forall_mem_cons.mpr ⟨ok_aload_n C (show decode cX10_image 59 = .ok (.aload_n 2, 1) by decide +kernel) rfl rfl, ?_⟩
  refine List.forall_mem_cons.mpr ⟨ok_getf C (wi_X3) rfl (by decide) kw_1037 (show decode cX10_image 60 = .ok (.getfield 381, 3) by decide +kernel) rfl, ?_⟩
  refine List.forall_mem_cons.mpr ⟨ok_aload_n C (show decode cX10_image 63 = .ok (.aload_n 0, 1) by decide +kernel) rfl rfl, ?_⟩
  refine List.forall_mem_cons.mpr ⟨ok_getf C (wi_X10) rfl (by decide) kw_330 (show decode cX10_image 64 = .ok (.getfield 93, 3) by decide +kernel) rfl, ?_⟩
  refine List.forall_mem_cons.mpr ⟨ok_callV C h_X5_copyFrom ⟨rfl, rfl⟩ rfl kw_1053 kw_1050 kw_1051 kw_1052 kw_10 rfl ds_X5_copyFrom ⟨by decide, by decide⟩ (show decode cX10_image 67 = .ok (.invokevirtual 384, 3) by decide +kernel) rfl, ?_⟩
  refine List.forall_mem_cons.mpr ⟨ok_iconst C (show decode cX10_image 70 = .ok (.iconst 1, 1) by decide +kernel) (by decide) rfl, ?_⟩
  refine List.forall_mem_cons.mpr ⟨ok_zret C rfl (show decode cX10_image 71 = .ok (.ireturn, 1) by decide +kernel), ?_⟩
  exact fun _ h => absurd h List.not_mem_nil
