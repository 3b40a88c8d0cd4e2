def L_X11_die (f_X11_isMan : List Value → ab_H → Option ab_O) (f_X11_isDead : List Value → ab_H → Option ab_O) (f_X11_keep : List Value → ab_H → Option ab_O) : List (Nat × ab_A) := [
  (0, ab_nx 1 (ab_aload 0)),
  (1, ab_nx 2 (ab_lit (.int 0))),
  (2, ab_nx 5 (ab_putf 11 0 0)),
  (5, ab_nx 6 (ab_aload 0)),
  (6, ab_nx 7 (ab_iload 1)),
  (7, ab_nx 10 (ab_callV 2 11 f_X11_isMan 0 0 0 0)),
  (10, ab_if 13 15 (fun x => !decide (x = 0))),
  (13, ab_nx 14 (ab_lit (.int (-1)))),
  (14, ab_ret 0 0),
  (15, ab_nx 16 (ab_aload 0)),
  (16, ab_nx 17 (ab_iload 1)),
  (17, ab_nx 20 (ab_callV 2 11 f_X11_isDead 0 0 0 0)),
  (20, ab_if 23 25 (fun x => decide (x = 0))),
  (23, ab_nx 24 (ab_lit (.int 1))),
  (24, ab_ret 0 0),
  (25, ab_nx 26 (ab_aload 0)),
  (26, ab_nx 29 (ab_callV 1 11 f_X11_keep 0 0 0 0)),
  (29, ab_nx 30 (ab_aload 0)),
  (30, ab_nx 33 (ab_getf 11 6)),
  (33, ab_nx 36 (ab_lit (.int 180))),
  (36, ab_nx 37 ab_dup2),
  (37, ab_nx 38 (ab_ald 1)),
  (38, ab_nx 39 (ab_lit (.int 1))),
  (39, ab_nx 40 (ab_iload 1)),
  (40, ab_nx 41 (ab_bin (fun x y => x <<< (y &&& 31)))),
  (41, ab_nx 42 (ab_bin (fun x y => x ||| y))),
  (42, ab_nx 43 (ab_ast 1)),
  (43, ab_nx 44 (ab_lit (.int 0))),
  (44, ab_ret 0 0)]
set_option maxRecDepth 100000 in
set_option maxHeartbeats 4000000 in
theorem M_X11_die {l : Launch} {b : ab_B} {D : va_G} {cA : Nat → ClassId} {f_X11_isMan : List Value → ab_H → Option ab_O} (h_X11_isMan : ab_M l b D ab_cl cA (ab_E0 b) yX11_isMan (Cond.code yX11_isMan cX11_isMan 2 (some .boolean) :: ab_G) ({ frames := 2, cells := 0, slots := 0, locals := 200 } : Room) f_X11_isMan) {f_X11_isDead : List Value → ab_H → Option ab_O} (h_X11_isDead : ab_M l b D ab_cl cA (ab_E0 b) yX11_isDead (Cond.code yX11_isDead cX11_isDead 2 (some .boolean) :: ab_G) ({ frames := 2, cells := 0, slots := 0, locals := 200 } : Room) f_X11_isDead) {f_X11_keep : List Value → ab_H → Option ab_O} (h_X11_keep : ab_M l b D ab_cl cA (ab_E0 b) yX11_keep (Cond.code yX11_keep cX11_keep 2 none :: ab_G) ({ frames := 1, cells := 0, slots := 0, locals := 100 } : Room) f_X11_keep) : ab_M l b D ab_cl cA (ab_E0 b) yX11_die (Cond.code yX11_die cX11_die 2 (some .int) :: ab_G) ({ frames := 3, cells := 0, slots := 0, locals := 300 } : Room) (ab_X (ab_T (L_X11_die f_X11_isMan f_X11_isDead f_X11_keep)) 2) := by
  refine ab_meth (ret := (some .int)) (L_X11_die f_X11_isMan f_X11_isDead f_X11_keep) (by decide) rfl fun p e R s m args below meth c o C => ?_
  unfold L_X11_die
  refine List.forall_mem_cons.mpr ⟨ok_aload_n C (show decode cX11_die 0 = .ok (.aload_n 0, 1) by decide +kernel) rfl rfl, ?_⟩
  refine List.forall_mem_cons.mpr ⟨ok_iconst C (show decode cX11_die 1 = .ok (.iconst 0, 1) by decide +kernel) (by decide) rfl, ?_⟩
  refine List.forall_mem_cons.mpr ⟨ok_putf C (wi_X11) tyX11 tyX11_ok nmX11 rfl (by decide) kw_1180 (Or.inl rfl) (Or.inl ⟨rfl, rfl⟩) (show decode cX11_die 2 = .ok (.putfield 1, 3) by decide +kernel) rfl, ?_⟩
  refine List.forall_mem_cons.mpr ⟨ok_aload_n C (show decode cX11_die 5 = .ok (.aload_n 0, 1) by decide +kernel) rfl rfl, ?_⟩
  refine List.forall_mem_cons.mpr ⟨ok_iload_n C (show decode cX11_die 6 = .ok (.iload_n 1, 1) by decide +kernel) rfl rfl, ?_⟩
  refine List.forall_mem_cons.mpr ⟨ok_callV C h_X11_isMan ⟨rfl, rfl⟩ rfl kw_1433 kw_1430 kw_1432 kp_69 kw_11 rfl ds_X11_isMan ⟨by decide, by decide⟩ (show decode cX11_die 7 = .ok (.invokevirtual 266, 3) by decide +kernel) rfl, ?_⟩
  refine List.forall_mem_cons.mpr ⟨ok_ifne C (show decode cX11_die 10 = .ok (.ifCond .ne 5, 3) by decide +kernel) (tg := 15) (by decide) rfl rfl, ?_⟩
  refine List.forall_mem_cons.mpr ⟨ok_iconst C (show decode cX11_die 13 = .ok (.iconst (-1), 1) by decide +kernel) (by decide) rfl, ?_⟩
  refine List.forall_mem_cons.mpr ⟨ok_ret C rfl (show decode cX11_die 14 = .ok (.ireturn, 1) by decide +kernel), ?_⟩
  refine List.forall_mem_cons.mpr ⟨ok_aload_n C (show decode cX11_die 15 = .ok (.aload_n 0, 1) by decide +kernel) rfl rfl, ?_⟩
  refine List.forall_mem_cons.mpr ⟨ok_iload_n C (show decode cX11_die 16 = .ok (.iload_n 1, 1) by decide +kernel) rfl rfl, ?_⟩
  refine List.forall_mem_cons.mpr ⟨ok_callV C h_X11_isDead ⟨rfl, rfl⟩ rfl kw_1441 kw_1438 kw_1440 kp_71 kw_11 rfl ds_X11_isDead ⟨by decide, by decide⟩ (show decode cX11_die 17 = .ok (.invokevirtual 257, 3) by decide +kernel) rfl, ?_⟩
  refine List.forall_mem_cons.mpr ⟨ok_ifeq C (show decode cX11_die 20 = .ok (.ifCond .eq 5, 3) by decide +kernel) (tg := 25) (by decide) rfl rfl, ?_⟩
  refine List.forall_mem_cons.mpr ⟨ok_iconst C (show decode cX11_die 23 = .ok (.iconst 1, 1) by decide +kernel) (by decide) rfl, ?_⟩
  refine List.forall_mem_cons.mpr ⟨ok_ret C rfl (show decode cX11_die 24 = .ok (.ireturn, 1) by decide +kernel), ?_⟩
  refine List.forall_mem_cons.mpr ⟨ok_aload_n C (show decode cX11_die 25 = .ok (.aload_n 0, 1) by decide +kernel) rfl rfl, ?_⟩
  refine List.forall_mem_cons.mpr ⟨ok_callV C h_X11_keep ⟨rfl, rfl⟩ rfl kw_1481 kw_1478 kw_1480 kp_78 kw_11 rfl ds_X11_keep ⟨by decide, by decide⟩ (show decode cX11_die 26 = .ok (.invokevirtual 304, 3) by decide +kernel) rfl, ?_⟩
  refine List.forall_mem_cons.mpr ⟨ok_aload_n C (show decode cX11_die 29 = .ok (.aload_n 0, 1) by decide +kernel) rfl rfl, ?_⟩
  refine List.forall_mem_cons.mpr ⟨ok_getf C (wi_X11) rfl (by decide) kw_1186 (show decode cX11_die 30 = .ok (.getfield 33, 3) by decide +kernel) rfl, ?_⟩
  refine List.forall_mem_cons.mpr ⟨ok_sipush C (show decode cX11_die 33 = .ok (.sipush 180, 3) by decide +kernel) (by decide) rfl, ?_⟩
  refine List.forall_mem_cons.mpr ⟨ok_dup2 C (show decode cX11_die 36 = .ok (.dup2, 1) by decide +kernel) rfl, ?_⟩
  refine List.forall_mem_cons.mpr ⟨ok_iaload C (show decode cX11_die 37 = .ok (.iaload, 1) by decide +kernel) rfl, ?_⟩
  refine List.forall_mem_cons.mpr ⟨ok_iconst C (show decode cX11_die 38 = .ok (.iconst 1, 1) by decide +kernel) (by decide) rfl, ?_⟩
  refine List.forall_mem_cons.mpr ⟨ok_iload_n C (show decode cX11_die 39 = .ok (.iload_n 1, 1) by decide +kernel) rfl rfl, ?_⟩
  refine List.forall_mem_cons.mpr ⟨ok_ishl C (show decode cX11_die 40 = .ok (.ishl, 1) by decide +kernel) rfl, ?_⟩
  refine List.forall_mem_cons.mpr ⟨ok_ior C (show decode cX11_die 41 = .ok (.ior, 1) by decide +kernel) rfl, ?_⟩
  refine List.forall_mem_cons.mpr ⟨ok_iastore C (show decode cX11_die 42 = .ok (.iastore, 1) by decide +kernel) rfl, ?_⟩
  refine List.forall_mem_cons.mpr ⟨ok_iconst C (show decode cX11_die 43 = .ok (.iconst 0, 1) by decide +kernel) (by decide) rfl, ?_⟩
  refine List.forall_mem_cons.mpr ⟨ok_ret C rfl (show decode cX11_die 44 = .ok (.ireturn, 1) by decide +kernel), ?_⟩
  exact fun _ h => absurd h List.not_mem_nil
def L_X11_days (f_X11_isIn : List Value → ab_H → Option ab_O) (f_X11_keep : List Value → ab_H → Option ab_O) (f_X11_goesOn : List Value → ab_H → Option ab_O) : List (Nat × ab_A) := [
  (0, ab_nx 1 (ab_aload 0)),
  (1, ab_nx 2 (ab_lit (.int 0))),
  (2, ab_nx 5 (ab_putf 11 0 0)),
  (5, ab_nx 6 (ab_iload 1)),
  (6, ab_nx 7 (ab_lit (.int 1))),
  (7, ab_nx 9 (ab_lit (.int 60))),
  (9, ab_nx 12 (ab_call 3 f_X11_isIn 0 0 0 0)),
  (12, ab_if 15 17 (fun x => !decide (x = 0))),
  (15, ab_nx 16 (ab_lit (.int (-1)))),
  (16, ab_ret 0 0),
  (17, ab_nx 18 (ab_aload 0)),
  (18, ab_nx 21 (ab_getf 11 6)),
  (21, ab_nx 23 (ab_lit (.int 120))),
  (23, ab_nx 24 (ab_ald 1)),
  (24, ab_nx 27 (ab_lit (.int 400))),
  (27, ab_icmp 30 32 (fun x y => !decide (x = y))),
  (30, ab_nx 31 (ab_lit (.int 0))),
  (31, ab_ret 0 0),
  (32, ab_nx 33 (ab_aload 0)),
  (33, ab_nx 36 (ab_callV 1 11 f_X11_keep 0 0 0 0)),
  (36, ab_nx 37 (ab_aload 0)),
  (37, ab_nx 38 (ab_iload 1)),
  (38, ab_nx 41 (ab_callV 2 11 f_X11_goesOn 0 0 0 0)),
  (41, ab_ret 0 0)]
set_option maxRecDepth 100000 in
set_option maxHeartbeats 4000000 in
theorem M_X11_days {l : Launch} {b : ab_B} {D : va_G} {cA : Nat → ClassId} {f_X11_isIn : List Value → ab_H → Option ab_O} (h_X11_isIn : ab_M l b D ab_cl cA (ab_E0 b) yX11_isIn (Cond.code yX11_isIn cX11_isIn 3 (some .boolean) :: ab_G) ({ frames := 1, cells := 0, slots := 0, locals := 100 } : Room) f_X11_isIn) {f_X11_keep : List Value → ab_H → Option ab_O} (h_X11_keep : ab_M l b D ab_cl cA (ab_E0 b) yX11_keep (Cond.code yX11_keep cX11_keep 2 none :: ab_G) ({ frames := 1, cells := 0, slots := 0, locals := 100 } : Room) f_X11_keep) {f_X11_goesOn : List Value → ab_H → Option ab_O} (h_X11_goesOn : ab_M l b D ab_cl cA (ab_E0 b) yX11_goesOn (Cond.code yX11_goesOn cX11_goesOn 3 (some .int) :: ab_G) ({ frames := 8, cells := 0, slots := 0, locals := 800 } : Room) f_X11_goesOn) : ab_M l b D ab_cl cA (ab_E0 b) yX11_days (Cond.code yX11_days cX11_days 2 (some .int) :: ab_G) ({ frames := 9, cells := 0, slots := 0, locals := 900 } : Room) (ab_X (ab_T (L_X11_days f_X11_isIn f_X11_keep f_X11_goesOn)) 2) := by
  refine ab_meth (ret := (some .int)) (L_X11_days f_X11_isIn f_X11_keep f_X11_goesOn) (by decide) rfl fun p e R s m args below meth c o C => ?_
  unfold L_X11_days
  refine List.forall_mem_cons.mpr ⟨ok_aload_n C (show decode cX11_days 0 = .ok (.aload_n 0, 1) by decide +kernel) rfl rfl, ?_⟩
  refine List.forall_mem_cons.mpr ⟨ok_iconst C (show decode cX11_days 1 = .ok (.iconst 0, 1) by decide +kernel) (by decide) rfl, ?_⟩
  refine List.forall_mem_cons.mpr ⟨ok_putf C (wi_X11) tyX11 tyX11_ok nmX11 rfl (by decide) kw_1180 (Or.inl rfl) (Or.inl ⟨rfl, rfl⟩) (show decode cX11_days 2 = .ok (.putfield 1, 3) by decide +kernel) rfl, ?_⟩
  refine List.forall_mem_cons.mpr ⟨ok_iload_n C (show decode cX11_days 5 = .ok (.iload_n 1, 1) by decide +kernel) rfl rfl, ?_⟩
  refine List.forall_mem_cons.mpr ⟨ok_iconst C (show decode cX11_days 6 = .ok (.iconst 1, 1) by decide +kernel) (by decide) rfl, ?_⟩
  refine List.forall_mem_cons.mpr ⟨ok_bipush C (show decode cX11_days 7 = .ok (.bipush 60, 2) by decide +kernel) (by decide) rfl, ?_⟩
  refine List.forall_mem_cons.mpr ⟨ok_callS C h_X11_isIn ⟨rfl, rfl⟩ kw_1355 kw_1353 kw_1354 kw_11 ds_X11_isIn ⟨by decide, by decide⟩ (show decode cX11_days 9 = .ok (.invokestatic 179, 3) by decide +kernel) rfl, ?_⟩
  refine List.forall_mem_cons.mpr ⟨ok_ifne C (show decode cX11_days 12 = .ok (.ifCond .ne 5, 3) by decide +kernel) (tg := 17) (by decide) rfl rfl, ?_⟩
  refine List.forall_mem_cons.mpr ⟨ok_iconst C (show decode cX11_days 15 = .ok (.iconst (-1), 1) by decide +kernel) (by decide) rfl, ?_⟩
  refine List.forall_mem_cons.mpr ⟨ok_ret C rfl (show decode cX11_days 16 = .ok (.ireturn, 1) by decide +kernel), ?_⟩
  refine List.forall_mem_cons.mpr ⟨ok_aload_n C (show decode cX11_days 17 = .ok (.aload_n 0, 1) by decide +kernel) rfl rfl, ?_⟩
  refine List.forall_mem_cons.mpr ⟨ok_getf C (wi_X11) rfl (by decide) kw_1186 (show decode cX11_days 18 = .ok (.getfield 33, 3) by decide +kernel) rfl, ?_⟩
  refine List.forall_mem_cons.mpr ⟨ok_bipush C (show decode cX11_days 21 = .ok (.bipush 120, 2) by decide +kernel) (by decide) rfl, ?_⟩
  refine List.forall_mem_cons.mpr ⟨ok_iaload C (show decode cX11_days 23 = .ok (.iaload, 1) by decide +kernel) rfl, ?_⟩
  refine List.forall_mem_cons.mpr ⟨ok_sipush C (show decode cX11_days 24 = .ok (.sipush 400, 3) by decide +kernel) (by decide) rfl, ?_⟩
  refine List.forall_mem_cons.mpr ⟨ok_icmpne C (show decode cX11_days 27 = .ok (.if_icmp .ne 5, 3) by decide +kernel) (tg := 32) (by decide) rfl rfl, ?_⟩
  refine List.forall_mem_cons.mpr ⟨ok_iconst C (show decode cX11_days 30 = .ok (.iconst 0, 1) by decide +kernel) (by decide) rfl, ?_⟩
  refine List.forall_mem_cons.mpr ⟨ok_ret C rfl (show decode cX11_days 31 = .ok (.ireturn, 1) by decide +kernel), ?_⟩
  refine List.forall_mem_cons.mpr ⟨ok_aload_n C (show decode cX11_days 32 = .ok (.aload_n 0, 1) by decide +kernel) rfl rfl, ?_⟩
  refine List.forall_mem_cons.mpr ⟨ok_callV C h_X11_keep ⟨rfl, rfl⟩ rfl kw_1481 kw_1478 kw_1480 kp_78 kw_11 rfl ds_X11_keep ⟨by decide, by decide⟩ (show decode cX11_days 33 = .ok (.invokevirtual 304, 3) by decide +kernel) rfl, ?_⟩
  refine List.forall_mem_cons.mpr ⟨ok_aload_n C (show decode cX11_days 36 = .ok (.aload_n 0, 1) by decide +kernel) rfl rfl, ?_⟩
  refine List.forall_mem_cons.mpr ⟨ok_iload_n C (show decode cX11_days 37 = .ok (.iload_n 1, 1) by decide +kernel) rfl rfl, ?_⟩
  refine List.forall_mem_cons.mpr ⟨ok_callV C h_X11_goesOn ⟨rfl, rfl⟩ rfl kw_1509 kw_1506 kw_1508 kp_81 kw_11 rfl ds_X11_goesOn ⟨by decide, by decide⟩ (show decode cX11_days 38 = .ok (.invokevirtual 314, 3) by decide +kernel) rfl, ?_⟩
  refine List.forall_mem_cons.mpr ⟨ok_ret C rfl (show decode cX11_days 41 = .ok (.ireturn, 1) by decide +kernel), ?_⟩
  exact fun _ h => absurd h List.not_mem_nil
def L_X11_undo : List (Nat × ab_A) := [
  (0, ab_nx 1 (ab_aload 0)),
  (1, ab_nx 2 (ab_lit (.int 0))),
  (2, ab_nx 5 (ab_putf 11 0 0)),
  (5, ab_nx 6 (ab_aload 0)),
  (6, ab_nx 9 (ab_getf 11 25)),
  (9, ab_if 12 14 (fun x => !decide (x = 0))),
  (12, ab_nx 13 (ab_lit (.int (-1)))),
  (13, ab_ret 0 0),
  (14, ab_nx 15 (ab_aload 0)),
  (15, ab_nx 16 ab_dup),
  (16, ab_nx 19 (ab_getf 11 25)),
  (19, ab_nx 20 (ab_lit (.int 1))),
  (20, ab_nx 21 (ab_bin (fun x y => x - y))),
  (21, ab_nx 24 (ab_putf 11 25 0)),
  (24, ab_nx 25 (ab_lit (.int 0))),
  (25, ab_nx 26 (ab_istore 1)),
  (26, ab_nx 27 (ab_iload 1)),
  (27, ab_nx 30 (ab_lit (.int 133))),
  (30, ab_icmp 33 63 (fun x y => decide (y ≤ x))),
  (33, ab_nx 34 (ab_aload 0)),
  (34, ab_nx 37 (ab_getf 11 6)),
  (37, ab_nx 39 (ab_lit (.int 120))),
  (39, ab_nx 40 (ab_iload 1)),
  (40, ab_nx 41 (ab_bin (fun x y => x + y))),
  (41, ab_nx 42 (ab_aload 0)),
  (42, ab_nx 45 (ab_getf 11 23)),
  (45, ab_nx 48 (ab_lit (.int 133))),
  (48, ab_nx 49 (ab_aload 0)),
  (49, ab_nx 52 (ab_getf 11 25)),
  (52, ab_nx 53 (ab_bin (fun x y => x * y))),
  (53, ab_nx 54 (ab_iload 1)),
  (54, ab_nx 55 (ab_bin (fun x y => x + y))),
  (55, ab_nx 56 (ab_ald 1)),
  (56, ab_nx 57 (ab_ast 1)),
  (57, ab_nx 60 (ab_iinc 1 1)),
  (60, ab_goto 26),
  (63, ab_nx 64 (ab_aload 0)),
  (64, ab_nx 67 (ab_getf 11 25)),
  (67, ab_ret 0 0)]
set_option maxRecDepth 100000 in
set_option maxHeartbeats 4000000 in
theorem M_X11_undo {l : Launch} {b : ab_B} {D : va_G} {cA : Nat → ClassId} : ab_M l b D ab_cl cA (ab_E0 b) yX11_undo (Cond.code yX11_undo cX11_undo 2 (some .int) :: ab_G) ({ frames := 1, cells := 0, slots := 0, locals := 100 } : Room) (ab_X (ab_T L_X11_undo) 2) := by
  refine ab_meth (ret := (some .int)) L_X11_undo (by decide) rfl fun p e R s m args below meth c o C => ?_
  unfold L_X11_undo
  refine List.forall_mem_cons.mpr ⟨ok_aload_n C (show decode cX11_undo 0 = .ok (.aload_n 0, 1) by decide +kernel) rfl rfl, ?_⟩
  refine List.forall_mem_cons.mpr ⟨ok_iconst C (show decode cX11_undo 1 = .ok (.iconst 0, 1) by decide +kernel) (by decide) rfl, ?_⟩
  refine List.forall_mem_cons.mpr ⟨ok_putf C (wi_X11) tyX11 tyX11_ok nmX11 rfl (by decide) kw_1180 (Or.inl rfl) (Or.inl ⟨rfl, rfl⟩) (show decode cX11_undo 2 = .ok (.putfield 1, 3) by decide +kernel) rfl, ?_⟩
  refine List.forall_mem_cons.mpr ⟨ok_aload_n C (show decode cX11_undo 5 = .ok (.aload_n 0, 1) by decide +kernel) rfl rfl, ?_⟩
  refine List.forall_mem_cons.mpr ⟨ok_getf C (wi_X11) rfl (by decide) kw_1205 (show decode cX11_undo 6 = .ok (.getfield 236, 3) by decide +kernel) rfl, ?_⟩
  refine List.forall_mem_cons.mpr ⟨ok_ifne C (show decode cX11_undo 9 = .ok (.ifCond .ne 5, 3) by decide +kernel) (tg := 14) (by decide) rfl rfl, ?_⟩
  refine List.forall_mem_cons.mpr ⟨ok_iconst C (show decode cX11_undo 12 = .ok (.iconst (-1), 1) by decide +kernel) (by decide) rfl, ?_⟩
  refine List.forall_mem_cons.mpr ⟨ok_ret C rfl (show decode cX11_undo 13 = .ok (.ireturn, 1) by decide +kernel), ?_⟩
  refine List.forall_mem_cons.mpr ⟨ok_aload_n C (show decode cX11_undo 14 = .ok (.aload_n 0, 1) by decide +kernel) rfl rfl, ?_⟩
  refine List.forall_mem_cons.mpr ⟨ok_dup C (show decode cX11_undo 15 = .ok (.dup, 1) by decide +kernel) rfl, ?_⟩
  refine List.forall_mem_cons.mpr ⟨ok_getf C (wi_X11) rfl (by decide) kw_1205 (show decode cX11_undo 16 = .ok (.getfield 236, 3) by decide +kernel) rfl, ?_⟩
  refine List.forall_mem_cons.mpr ⟨ok_iconst C (show decode cX11_undo 19 = .ok (.iconst 1, 1) by decide +kernel) (by decide) rfl, ?_⟩
  refine List.forall_mem_cons.mpr ⟨ok_isub C (show decode cX11_undo 20 = .ok (.isub, 1) by decide +kernel) rfl, ?_⟩
  refine List.forall_mem_cons.mpr ⟨ok_putf C (wi_X11) tyX11 tyX11_ok nmX11 rfl (by decide) kw_1205 (Or.inl rfl) (Or.inl ⟨rfl, rfl⟩) (show decode cX11_undo 21 = .ok (.putfield 236, 3) by decide +kernel) rfl, ?_⟩
  refine List.forall_mem_cons.mpr ⟨ok_iconst C (show decode cX11_undo 24 = .ok (.iconst 0, 1) by decide +kernel) (by decide) rfl, ?_⟩
  refine List.forall_mem_cons.mpr ⟨ok_istore_n C (show decode cX11_undo 25 = .ok (.istore_n 1, 1) by decide +kernel) rfl (by decide) rfl, ?_⟩
  refine List.forall_mem_cons.mpr ⟨ok_iload_n C (show decode cX11_undo 26 = .ok (.iload_n 1, 1) by decide +kernel) rfl rfl, ?_⟩
  refine List.forall_mem_cons.mpr ⟨ok_sipush C (show decode cX11_undo 27 = .ok (.sipush 133, 3) by decide +kernel) (by decide) rfl, ?_⟩
  refine List.forall_mem_cons.mpr ⟨ok_icmpge C (show decode cX11_undo 30 = .ok (.if_icmp .ge 33, 3) by decide +kernel) (tg := 63) (by decide) rfl rfl, ?_⟩
  refine List.forall_mem_cons.mpr ⟨ok_aload_n C (show decode cX11_undo 33 = .ok (.aload_n 0, 1) by decide +kernel) rfl rfl, ?_⟩
  refine List.forall_mem_cons.mpr ⟨ok_getf C (wi_X11) rfl (by decide) kw_1186 (show decode cX11_undo 34 = .ok (.getfield 33, 3) by decide +kernel) rfl, ?_⟩
  refine List.forall_mem_cons.mpr ⟨ok_bipush C (show decode cX11_undo 37 = .ok (.bipush 120, 2) by decide +kernel) (by decide) rfl, ?_⟩
  refine List.forall_mem_cons.mpr ⟨ok_iload_n C (show decode cX11_undo 39 = .ok (.iload_n 1, 1) by decide +kernel) rfl rfl, ?_⟩
  refine List.forall_mem_cons.mpr ⟨ok_iadd C (show decode cX11_undo 40 = .ok (.iadd, 1) by decide +kernel) rfl, ?_⟩
  refine List.forall_mem_cons.mpr ⟨ok_aload_n C (show decode cX11_undo 41 = .ok (.aload_n 0, 1) by decide +kernel) rfl rfl, ?_⟩
  refine List.forall_mem_cons.mpr ⟨ok_getf C (wi_X11) rfl (by decide) kw_1203 (show decode cX11_undo 42 = .ok (.getfield 53, 3) by decide +kernel) rfl, ?_⟩
  refine List.forall_mem_cons.mpr ⟨ok_sipush C (show decode cX11_undo 45 = .ok (.sipush 133, 3) by decide +kernel) (by decide) rfl, ?_⟩
  refine List.forall_mem_cons.mpr ⟨ok_aload_n C (show decode cX11_undo 48 = .ok (.aload_n 0, 1) by decide +kernel) rfl rfl, ?_⟩
  refine List.forall_mem_cons.mpr ⟨ok_getf C (wi_X11) rfl (by decide) kw_1205 (show decode cX11_undo 49 = .ok (.getfield 236, 3) by decide +kernel) rfl, ?_⟩
  refine List.forall_mem_cons.mpr ⟨ok_imul C (show decode cX11_undo 52 = .ok (.imul, 1) by decide +kernel) rfl, ?_⟩
  refine List.forall_mem_cons.mpr ⟨ok_iload_n C (show decode cX11_undo 53 = .ok (.iload_n 1, 1) by decide +kernel) rfl rfl, ?_⟩
  refine List.forall_mem_cons.mpr ⟨ok_iadd C (show decode cX11_undo 54 = .ok (.iadd, 1) by decide +kernel) rfl, ?_⟩
  refine List.forall_mem_cons.mpr ⟨ok_iaload C (show decode cX11_undo 55 = .ok (.iaload, 1) by decide +kernel) rfl, ?_⟩
  refine List.forall_mem_cons.mpr ⟨ok_iastore C (show decode cX11_undo 56 = .ok (.iastore, 1) by decide +kernel) rfl, ?_⟩
  refine List.forall_mem_cons.mpr ⟨ok_iinc C (show decode cX11_undo 57 = .ok (.iinc 1 1, 3) by decide +kernel) (by decide) (by decide) rfl, ?_⟩
  refine List.forall_mem_cons.mpr ⟨ok_goto C (show decode cX11_undo 60 = .ok (.goto (-34), 3) by decide +kernel) (tg := 26) (by decide) rfl, ?_⟩
  refine List.forall_mem_cons.mpr ⟨ok_aload_n C (show decode cX11_undo 63 = .ok (.aload_n 0, 1) by decide +kernel) rfl rfl, ?_⟩
  refine List.forall_mem_cons.mpr ⟨ok_getf C (wi_X11) rfl (by decide) kw_1205 (show decode cX11_undo 64 = .ok (.getfield 236, 3) by decide +kernel) rfl, ?_⟩
  refine List.forall_mem_cons.mpr ⟨ok_ret C rfl (show decode cX11_undo 67 = .ok (.ireturn, 1) by decide +kernel), ?_⟩
  exact fun _ h => absurd h List.not_mem_nil
def L_X11_tries : List (Nat × ab_A) := [
  (0, ab_nx 1 (ab_lit (.int 0))),
  (1, ab_nx 2 (ab_istore 1)),
  (2, ab_nx 3 (ab_iload 1)),
  (3, ab_nx 6 (ab_lit (.int 133))),
  (6, ab_icmp 9 30 (fun x y => decide (y ≤ x))),
  (9, ab_nx 10 (ab_aload 0)),
  (10, ab_nx 13 (ab_getf 11 24)),
  (13, ab_nx 14 (ab_iload 1)),
  (14, ab_nx 15 (ab_aload 0)),
  (15, ab_nx 18 (ab_getf 11 6)),
  (18, ab_nx 20 (ab_lit (.int 120))),
  (20, ab_nx 21 (ab_iload 1)),
  (21, ab_nx 22 (ab_bin (fun x y => x + y))),
  (22, ab_nx 23 (ab_ald 1)),
  (23, ab_nx 24 (ab_ast 1)),
  (24, ab_nx 27 (ab_iinc 1 1)),
  (27, ab_goto 2),
  (30, ab_vret 0 0)]
set_option maxRecDepth 100000 in
set_option maxHeartbeats 4000000 in
theorem M_X11_tries {l : Launch} {b : ab_B} {D : va_G} {cA : Nat → ClassId} : ab_M l b D ab_cl cA (ab_E0 b) yX11_tries (Cond.code yX11_tries cX11_tries 2 none :: ab_G) ({ frames := 1, cells := 0, slots := 0, locals := 100 } : Room) (ab_X (ab_T L_X11_tries) 2) := by
  refine ab_meth (ret := none) L_X11_tries (by decide) rfl fun p e R s m args below meth c o C => ?_
  unfold L_X11_tries
  refine List.forall_mem_cons.mpr ⟨ok_iconst C (show decode cX11_tries 0 = .ok (.iconst 0, 1) by decide +kernel) (by decide) rfl, ?_⟩
  refine List.forall_mem_cons.mpr ⟨ok_istore_n C (show decode cX11_tries 1 = .ok (.istore_n 1, 1) by decide +kernel) rfl (by decide) rfl, ?_⟩
  refine List.forall_mem_cons.mpr ⟨ok_iload_n C (show decode cX11_tries 2 = .ok (.iload_n 1, 1) by decide +kernel) rfl rfl, ?_⟩
  refine List.forall_mem_cons.mpr ⟨ok_sipush C (show decode cX11_tries 3 = .ok (.sipush 133, 3) by decide +kernel) (by decide) rfl, ?_⟩
  refine List.forall_mem_cons.mpr ⟨ok_icmpge C (show decode cX11_tries 6 = .ok (.if_icmp .ge 24, 3) by decide +kernel) (tg := 30) (by decide) rfl rfl, ?_⟩
  refine List.forall_mem_cons.mpr ⟨ok_aload_n C (show decode cX11_tries 9 = .ok (.aload_n 0, 1) by decide +kernel) rfl rfl, ?_⟩
  refine List.forall_mem_cons.mpr ⟨ok_getf C (wi_X11) rfl (by decide) kw_1204 (show decode cX11_tries 10 = .ok (.getfield 56, 3) by decide +kernel) rfl, ?_⟩
  refine List.forall_mem_cons.mpr ⟨ok_iload_n C (show decode cX11_tries 13 = .ok (.iload_n 1, 1) by decide +kernel) rfl rfl, ?_⟩
  refine List.forall_mem_cons.mpr ⟨ok_aload_n C (show decode cX11_tries 14 = .ok (.aload_n 0, 1) by decide +kernel) rfl rfl, ?_⟩
  refine List.forall_mem_cons.mpr ⟨ok_getf C (wi_X11) rfl (by decide) kw_1186 (show decode cX11_tries 15 = .ok (.getfield 33, 3) by decide +kernel) rfl, ?_⟩
  refine List.forall_mem_cons.mpr ⟨ok_bipush C (show decode cX11_tries 18 = .ok (.bipush 120, 2) by decide +kernel) (by decide) rfl, ?_⟩
  refine List.forall_mem_cons.mpr ⟨ok_iload_n C (show decode cX11_tries 20 = .ok (.iload_n 1, 1) by decide +kernel) rfl rfl, ?_⟩
  refine List.forall_mem_cons.mpr ⟨ok_iadd C (show decode cX11_tries 21 = .ok (.iadd, 1) by decide +kernel) rfl, ?_⟩
  refine List.forall_mem_cons.mpr ⟨ok_iaload C (show decode cX11_tries 22 = .ok (.iaload, 1) by decide +kernel) rfl, ?_⟩
  refine List.forall_mem_cons.mpr ⟨ok_iastore C (show decode cX11_tries 23 = .ok (.iastore, 1) by decide +kernel) rfl, ?_⟩
  refine List.forall_mem_cons.mpr ⟨ok_iinc C (show decode cX11_tries 24 = .ok (.iinc 1 1, 3) by decide +kernel) (by decide) (by decide) rfl, ?_⟩
  refine List.forall_mem_cons.mpr ⟨ok_goto C (show decode cX11_tries 27 = .ok (.goto (-25), 3) by decide +kernel) (tg := 2) (by decide) rfl, ?_⟩
  refine List.forall_mem_cons.mpr ⟨ok_vret C rfl (show decode cX11_tries 30 = .ok (.return_, 1) by decide +kernel), ?_⟩
  exact fun _ h => absurd h List.not_mem_nil
def L_X11_back : List (Nat × ab_A) := [
  (0, ab_nx 1 (ab_lit (.int 0))),
  (1, ab_nx 2 (ab_istore 1)),
  (2, ab_nx 3 (ab_iload 1)),
  (3, ab_nx 6 (ab_lit (.int 133))),
  (6, ab_icmp 9 30 (fun x y => decide (y ≤ x))),
  (9, ab_nx 10 (ab_aload 0)),
  (10, ab_nx 13 (ab_getf 11 6)),
  (13, ab_nx 15 (ab_lit (.int 120))),
  (15, ab_nx 16 (ab_iload 1)),
  (16, ab_nx 17 (ab_bin (fun x y => x + y))),
  (17, ab_nx 18 (ab_aload 0)),
  (18, ab_nx 21 (ab_getf 11 24)),
  (21, ab_nx 22 (ab_iload 1)),
  (22, ab_nx 23 (ab_ald 1)),
  (23, ab_nx 24 (ab_ast 1)),
  (24, ab_nx 27 (ab_iinc 1 1)),
  (27, ab_goto 2),
  (30, ab_vret 0 0)]
set_option maxRecDepth 100000 in
set_option maxHeartbeats 4000000 in
theorem M_X11_back {l : Launch} {b : ab_B} {D : va_G} {cA : Nat → ClassId} : ab_M l b D ab_cl cA (ab_E0 b) yX11_back (Cond.code yX11_back cX11_back 2 none :: ab_G) ({ frames := 1, cells := 0, slots := 0, locals := 100 } : Room) (ab_X (ab_T L_X11_back) 2) := by
  refine ab_meth (ret := none) L_X11_back (by decide) rfl fun p e R s m args below meth c o C => ?_
  unfold L_X11_back
  refine List.forall_mem_cons.mpr ⟨ok_iconst C (show decode cX11_back 0 = .ok (.iconst 0, 1) by decide +kernel) (by decide) rfl, ?_⟩
  refine List.forall_mem_cons.mpr ⟨ok_istore_n C (show decode cX11_back 1 = .ok (.istore_n 1, 1) by decide +kernel) rfl (by decide) rfl, ?_⟩
  refine List.forall_mem_cons.mpr ⟨ok_iload_n C (show decode cX11_back 2 = .ok (.iload_n 1, 1) by decide +kernel) rfl rfl, ?_⟩
  refine List.forall_mem_cons.mpr ⟨ok_sipush C (show decode cX11_back 3 = .ok (.sipush 133, 3) by decide +kernel) (by decide) rfl, ?_⟩
  refine List.forall_mem_cons.mpr ⟨ok_icmpge C (show decode cX11_back 6 = .ok (.if_icmp .ge 24, 3) by decide +kernel) (tg := 30) (by decide) rfl rfl, ?_⟩
  refine List.forall_mem_cons.mpr ⟨ok_aload_n C (show decode cX11_back 9 = .ok (.aload_n 0, 1) by decide +kernel) rfl rfl, ?_⟩
  refine List.forall_mem_cons.mpr ⟨ok_getf C (wi_X11) rfl (by decide) kw_1186 (show decode cX11_back 10 = .ok (.getfield 33, 3) by decide +kernel) rfl, ?_⟩
  refine List.forall_mem_cons.mpr ⟨ok_bipush C (show decode cX11_back 13 = .ok (.bipush 120, 2) by decide +kernel) (by decide) rfl, ?_⟩
  refine List.forall_mem_cons.mpr ⟨ok_iload_n C (show decode cX11_back 15 = .ok (.iload_n 1, 1) by decide +kernel) rfl rfl, ?_⟩
  refine List.forall_mem_cons.mpr ⟨ok_iadd C (show decode cX11_back 16 = .ok (.iadd, 1) by decide +kernel) rfl, ?_⟩
  refine List.forall_mem_cons.mpr ⟨ok_aload_n C (show decode cX11_back 17 = .ok (.aload_n 0, 1) by decide +kernel) rfl rfl, ?_⟩
  refine List.forall_mem_cons.mpr ⟨ok_getf C (wi_X11) rfl (by decide) kw_1204 (show decode cX11_back 18 = .ok (.getfield 56, 3) by decide +kernel) rfl, ?_⟩
  refine List.forall_mem_cons.mpr ⟨ok_iload_n C (show decode cX11_back 21 = .ok (.iload_n 1, 1) by decide +kernel) rfl rfl, ?_⟩
  refine List.forall_mem_cons.mpr ⟨ok_iaload C (show decode cX11_back 22 = .ok (.iaload, 1) by decide +kernel) rfl, ?_⟩
  refine List.forall_mem_cons.mpr ⟨ok_iastore C (show decode cX11_back 23 = .ok (.iastore, 1) by decide +kernel) rfl, ?_⟩
  refine List.forall_mem_cons.mpr ⟨ok_iinc C (show decode cX11_back 24 = .ok (.iinc 1 1, 3) by decide +kernel) (by decide) (by decide) rfl, ?_⟩
  refine List.forall_mem_cons.mpr ⟨ok_goto C (show decode cX11_back 27 = .ok (.goto (-25), 3) by decide +kernel) (tg := 2) (by decide) rfl, ?_⟩
  refine List.forall_mem_cons.mpr ⟨ok_vret C rfl (show decode cX11_back 30 = .ok (.return_, 1) by decide +kernel), ?_⟩
  exact fun _ h => absurd h List.not_mem_nil
def L_X11_lacks (f_X11_isShore : List Value → ab_H → Option ab_O) (f_X11_lackOf : List Value → ab_H → Option ab_O) : List (Nat × ab_A) := [
  (0, ab_nx 1 (ab_aload 0)),
  (1, ab_nx 2 (ab_lit (.int 0))),
  (2, ab_nx 5 (ab_putf 11 0 0)),
  (5, ab_nx 6 (ab_aload 0)),
  (6, ab_nx 7 (ab_iload 1)),
  (7, ab_nx 10 (ab_callV 2 11 f_X11_isShore 0 0 0 0)),
  (10, ab_if 13 15 (fun x => !decide (x = 0))),
  (13, ab_nx 14 (ab_lit (.int (-1)))),
  (14, ab_ret 0 0),
  (15, ab_nx 16 (ab_lit (.int 0))),
  (16, ab_nx 17 (ab_istore 2)),
  (17, ab_nx 18 (ab_lit (.int 0))),
  (18, ab_nx 19 (ab_istore 3)),
  (19, ab_nx 20 (ab_iload 3)),
  (20, ab_nx 21 (ab_aload 0)),
  (21, ab_nx 24 (ab_getf 11 6)),
  (24, ab_nx 25 (ab_lit (.int 0))),
  (25, ab_nx 26 (ab_ald 1)),
  (26, ab_icmp 29 54 (fun x y => decide (y ≤ x))),
  (29, ab_nx 30 (ab_iload 2)),
  (30, ab_nx 31 (ab_aload 0)),
  (31, ab_nx 32 (ab_iload 3)),
  (32, ab_nx 33 (ab_iload 1)),
  (33, ab_nx 36 (ab_callV 3 11 f_X11_lackOf 0 0 0 0)),
  (36, ab_if 39 45 (fun x => decide (x ≤ 0))),
  (39, ab_nx 40 (ab_lit (.int 1))),
  (40, ab_nx 41 (ab_iload 3)),
  (41, ab_nx 42 (ab_bin (fun x y => x <<< (y &&& 31)))),
  (42, ab_goto 46),
  (45, ab_nx 46 (ab_lit (.int 0))),
  (46, ab_nx 47 (ab_bin (fun x y => x ||| y))),
  (47, ab_nx 48 (ab_istore 2)),
  (48, ab_nx 51 (ab_iinc 3 1)),
  (51, ab_goto 19),
  (54, ab_nx 55 (ab_iload 2)),
  (55, ab_ret 0 0)]
set_option maxRecDepth 100000 in
set_option maxHeartbeats 4000000 in
theorem M_X11_lacks {l : Launch} {b : ab_B} {D : va_G} {cA : Nat → ClassId} {f_X11_isShore : List Value → ab_H → Option ab_O} (h_X11_isShore : ab_M l b D ab_cl cA (ab_E0 b) yX11_isShore (Cond.code yX11_isShore cX11_isShore 2 (some .boolean) :: ab_G) ({ frames := 2, cells := 0, slots := 0, locals := 200 } : Room) f_X11_isShore) {f_X11_lackOf : List Value → ab_H → Option ab_O} (h_X11_lackOf : ab_M l b D ab_cl cA (ab_E0 b) yX11_lackOf (Cond.code yX11_lackOf cX11_lackOf 4 (some .int) :: ab_G) ({ frames := 2, cells := 0, slots := 0, locals := 200 } : Room) f_X11_lackOf) : ab_M l b D ab_cl cA (ab_E0 b) yX11_lacks (Cond.code yX11_lacks cX11_lacks 4 (some .int) :: ab_G) ({ frames := 3, cells := 0, slots := 0, locals := 300 } : Room) (ab_X (ab_T (L_X11_lacks f_X11_isShore f_X11_lackOf)) 4) := by
  refine ab_meth (ret := (some .int)) (L_X11_lacks f_X11_isShore f_X11_lackOf) (by decide) rfl fun p e R s m args below meth c o C => ?_
  unfold L_X11_lacks
  refine List.forall_mem_cons.mpr ⟨ok_aload_n C (show decode cX11_lacks 0 = .ok (.aload_n 0, 1) by decide +kernel) rfl rfl, ?_⟩
  refine List.forall_mem_cons.mpr ⟨ok_iconst C (show decode cX11_lacks 1 = .ok (.iconst 0, 1) by decide +kernel) (by decide) rfl, ?_⟩
  refine List.forall_mem_cons.mpr ⟨ok_putf C (wi_X11) tyX11 tyX11_ok nmX11 rfl (by decide) kw_1180 (Or.inl rfl) (Or.inl ⟨rfl, rfl⟩) (show decode cX11_lacks 2 = .ok (.putfield 1, 3) by decide +kernel) rfl, ?_⟩
  refine List.forall_mem_cons.mpr ⟨ok_aload_n C (show decode cX11_lacks 5 = .ok (.aload_n 0, 1) by decide +kernel) rfl rfl, ?_⟩
  refine List.forall_mem_cons.mpr ⟨ok_iload_n C (show decode cX11_lacks 6 = .ok (.iload_n 1, 1) by decide +kernel) rfl rfl, ?_⟩
  refine List.forall_mem_cons.mpr ⟨ok_callV C h_X11_isShore ⟨rfl, rfl⟩ rfl kw_1410 kw_1407 kw_1409 kp_66 kw_11 rfl ds_X11_isShore ⟨by decide, by decide⟩ (show decode cX11_lacks 7 = .ok (.invokevirtual 242, 3) by decide +kernel) rfl, ?_⟩
  refine List.forall_mem_cons.mpr ⟨ok_ifne C (show decode cX11_lacks 10 = .ok (.ifCond .ne 5, 3) by decide +kernel) (tg := 15) (by decide) rfl rfl, ?_⟩
  refine List.forall_mem_cons.mpr ⟨ok_iconst C (show decode cX11_lacks 13 = .ok (.iconst (-1), 1) by decide +kernel) (by decide) rfl, ?_⟩
  refine List.forall_mem_cons.mpr ⟨ok_ret C rfl (show decode cX11_lacks 14 = .ok (.ireturn, 1) by decide +kernel), ?_⟩
  refine List.forall_mem_cons.mpr ⟨ok_iconst C (show decode cX11_lacks 15 = .ok (.iconst 0, 1) by decide +kernel) (by decide) rfl, ?_⟩
  refine List.forall_mem_cons.mpr ⟨ok_istore_n C (show decode cX11_lacks 16 = .ok (.istore_n 2, 1) by decide +kernel) rfl (by decide) rfl, ?_⟩
  refine List.forall_mem_cons.mpr ⟨ok_iconst C (show decode cX11_lacks 17 = .ok (.iconst 0, 1) by decide +kernel) (by decide) rfl, ?_⟩
  refine List.forall_mem_cons.mpr ⟨ok_istore_n C (show decode cX11_lacks 18 = .ok (.istore_n 3, 1) by decide +kernel) rfl (by decide) rfl, ?_⟩
  refine List.forall_mem_cons.mpr ⟨ok_iload_n C (show decode cX11_lacks 19 = .ok (.iload_n 3, 1) by decide +kernel) rfl rfl, ?_⟩
  refine List.forall_mem_cons.mpr ⟨ok_aload_n C (show decode cX11_lacks 20 = .ok (.aload_n 0, 1) by decide +kernel) rfl rfl, ?_⟩
  refine List.forall_mem_cons.mpr ⟨ok_getf C (wi_X11) rfl (by decide) kw_1186 (show decode cX11_lacks 21 = .ok (.getfield 33, 3) by decide +kernel) rfl, ?_⟩
  refine List.forall_mem_cons.mpr ⟨ok_iconst C (show decode cX11_lacks 24 = .ok (.iconst 0, 1) by decide +kernel) (by decide) rfl, ?_⟩
  refine List.forall_mem_cons.mpr ⟨ok_iaload C (show decode cX11_lacks 25 = .ok (.iaload, 1) by decide +kernel) rfl, ?_⟩
  refine List.forall_mem_cons.mpr ⟨ok_icmpge C (show decode cX11_lacks 26 = .ok (.if_icmp .ge 28, 3) by decide +kernel) (tg := 54) (by decide) rfl rfl, ?_⟩
  refine List.forall_mem_cons.mpr ⟨ok_iload_n C (show decode cX11_lacks 29 = .ok (.iload_n 2, 1) by decide +kernel) rfl rfl, ?_⟩
  refine List.forall_mem_cons.mpr ⟨ok_aload_n C (show decode cX11_lacks 30 = .ok (.aload_n 0, 1) by decide +kernel) rfl rfl, ?_⟩
  refine List.forall_mem_cons.mpr ⟨ok_iload_n C (show decode cX11_lacks 31 = .ok (.iload_n 3, 1) by decide +kernel) rfl rfl, ?_⟩
  refine List.forall_mem_cons.mpr ⟨ok_iload_n C (show decode cX11_lacks 32 = .ok (.iload_n 1, 1) by decide +kernel) rfl rfl, ?_⟩
  refine List.forall_mem_cons.mpr ⟨ok_callV C h_X11_lackOf ⟨rfl, rfl⟩ rfl kw_1417 kw_1414 kw_1416 kp_67 kw_11 rfl ds_X11_lackOf ⟨by decide, by decide⟩ (show decode cX11_lacks 33 = .ok (.invokevirtual 248, 3) by decide +kernel) rfl, ?_⟩
  refine List.forall_mem_cons.mpr ⟨ok_ifle C (show decode cX11_lacks 36 = .ok (.ifCond .le 9, 3) by decide +kernel) (tg := 45) (by decide) rfl rfl, ?_⟩
  refine List.forall_mem_cons.mpr ⟨ok_iconst C (show decode cX11_lacks 39 = .ok (.iconst 1, 1) by decide +kernel) (by decide) rfl, ?_⟩
  refine List.forall_mem_cons.mpr ⟨ok_iload_n C (show decode cX11_lacks 40 = .ok (.iload_n 3, 1) by decide +kernel) rfl rfl, ?_⟩
  refine List.forall_mem_cons.mpr ⟨ok_ishl C (show decode cX11_lacks 41 = .ok (.ishl, 1) by decide +kernel) rfl, ?_⟩
  refine List.forall_mem_cons.mpr ⟨ok_goto C (show decode cX11_lacks 42 = .ok (.goto 4, 3) by decide +kernel) (tg := 46) (by decide) rfl, ?_⟩
  refine List.forall_mem_cons.mpr ⟨ok_iconst C (show decode cX11_lacks 45 = .ok (.iconst 0, 1) by decide +kernel) (by decide) rfl, ?_⟩
  refine List.forall_mem_cons.mpr ⟨ok_ior C (show decode cX11_lacks 46 = .ok (.ior, 1) by decide +kernel) rfl, ?_⟩
  refine List.forall_mem_cons.mpr ⟨ok_istore_n C (show decode cX11_lacks 47 = .ok (.istore_n 2, 1) by decide +kernel) rfl (by decide) rfl, ?_⟩
  refine List.forall_mem_cons.mpr ⟨ok_iinc C (show decode cX11_lacks 48 = .ok (.iinc 3 1, 3) by decide +kernel) (by decide) (by decide) rfl, ?_⟩
  refine List.forall_mem_cons.mpr ⟨ok_goto C (show decode cX11_lacks 51 = .ok (.goto (-32), 3) by decide +kernel) (tg := 19) (by decide) rfl, ?_⟩
  refine List.forall_mem_cons.mpr ⟨ok_iload_n C (show decode cX11_lacks 54 = .ok (.iload_n 2, 1) by decide +kernel) rfl rfl, ?_⟩
  refine List.forall_mem_cons.mpr ⟨ok_ret C rfl (show decode cX11_lacks 55 = .ok (.ireturn, 1) by decide +kernel), ?_⟩
  exact fun _ h => absurd h List.not_mem_nil
def L_X11_falses (f_X11_isShore : List Value → ab_H → Option ab_O) (f_X11_isFalse : List Value → ab_H → Option ab_O) : List (Nat × ab_A) := [
  (0, ab_nx 1 (ab_aload 0)),
  (1, ab_nx 2 (ab_lit (.int 0))),
  (2, ab_nx 5 (ab_putf 11 0 0)),
  (5, ab_nx 6 (ab_aload 0)),
  (6, ab_nx 7 (ab_iload 1)),
  (7, ab_nx 10 (ab_callV 2 11 f_X11_isShore 0 0 0 0)),
  (10, ab_if 13 15 (fun x => !decide (x = 0))),
  (13, ab_nx 14 (ab_lit (.int (-1)))),
  (14, ab_ret 0 0),
  (15, ab_nx 16 (ab_lit (.int 0))),
  (16, ab_nx 17 (ab_istore 2)),
  (17, ab_nx 18 (ab_lit (.int 0))),
  (18, ab_nx 19 (ab_istore 3)),
  (19, ab_nx 20 (ab_iload 3)),
  (20, ab_nx 21 (ab_aload 0)),
  (21, ab_nx 24 (ab_getf 11 6)),
  (24, ab_nx 25 (ab_lit (.int 0))),
  (25, ab_nx 26 (ab_ald 1)),
  (26, ab_icmp 29 54 (fun x y => decide (y ≤ x))),
  (29, ab_nx 30 (ab_iload 2)),
  (30, ab_nx 31 (ab_aload 0)),
  (31, ab_nx 32 (ab_iload 3)),
  (32, ab_nx 33 (ab_iload 1)),
  (33, ab_nx 36 (ab_callV 3 11 f_X11_isFalse 0 0 0 0)),
  (36, ab_if 39 45 (fun x => decide (x = 0))),
  (39, ab_nx 40 (ab_lit (.int 1))),
  (40, ab_nx 41 (ab_iload 3)),
  (41, ab_nx 42 (ab_bin (fun x y => x <<< (y &&& 31)))),
  (42, ab_goto 46),
  (45, ab_nx 46 (ab_lit (.int 0))),
  (46, ab_nx 47 (ab_bin (fun x y => x ||| y))),
  (47, ab_nx 48 (ab_istore 2)),
  (48, ab_nx 51 (ab_iinc 3 1)),
  (51, ab_goto 19),
  (54, ab_nx 55 (ab_iload 2)),
  (55, ab_ret 0 0)]
set_option maxRecDepth 100000 in
set_option maxHeartbeats 4000000 in
theorem M_X11_falses {l : Launch} {b : ab_B} {D : va_G} {cA : Nat → ClassId} {f_X11_isShore : List Value → ab_H → Option ab_O} (h_X11_isShore : ab_M l b D ab_cl cA (ab_E0 b) yX11_isShore (Cond.code yX11_isShore cX11_isShore 2 (some .boolean) :: ab_G) ({ frames := 2, cells := 0, slots := 0, locals := 200 } : Room) f_X11_isShore) {f_X11_isFalse : List Value → ab_H → Option ab_O} (h_X11_isFalse : ab_M l b D ab_cl cA (ab_E0 b) yX11_isFalse (Cond.code yX11_isFalse cX11_isFalse 3 (some .boolean) :: ab_G) ({ frames := 3, cells := 0, slots := 0, locals := 300 } : Room) f_X11_isFalse) : ab_M l b D ab_cl cA (ab_E0 b) yX11_falses (Cond.code yX11_falses cX11_falses 4 (some .int) :: ab_G) ({ frames := 4, cells := 0, slots := 0, locals := 400 } : Room) (ab_X (ab_T (L_X11_falses f_X11_isShore f_X11_isFalse)) 4) := by
  refine ab_meth (ret := (some .int)) (L_X11_falses f_X11_isShore f_X11_isFalse) (by decide) rfl fun p e R s m args below meth c o C => ?_
  unfold L_X11_falses
  refine List.forall_mem_cons.mpr ⟨ok_aload_n C (show decode cX11_falses 0 = .ok (.aload_n 0, 1) by decide +kernel) rfl rfl, ?_⟩
  refine List.forall_mem_cons.mpr ⟨ok_iconst C (show decode cX11_falses 1 = .ok (.iconst 0, 1) by decide +kernel) (by decide) rfl, ?_⟩
  refine List.forall_mem_cons.mpr ⟨ok_putf C (wi_X11) tyX11 tyX11_ok nmX11 rfl (by decide) kw_1180 (Or.inl rfl) (Or.inl ⟨rfl, rfl⟩) (show decode cX11_falses 2 = .ok (.putfield 1, 3) by decide +kernel) rfl, ?_⟩
  refine List.forall_mem_cons.mpr ⟨ok_aload_n C (show decode cX11_falses 5 = .ok (.aload_n 0, 1) by decide +kernel) rfl rfl, ?_⟩
  refine List.forall_mem_cons.mpr ⟨ok_iload_n C (show decode cX11_falses 6 = .ok (.iload_n 1, 1) by decide +kernel) rfl rfl, ?_⟩
  refine List.forall_mem_cons.mpr ⟨ok_callV C h_X11_isShore ⟨rfl, rfl⟩ rfl kw_1410 kw_1407 kw_1409 kp_66 kw_11 rfl ds_X11_isShore ⟨by decide, by decide⟩ (show decode cX11_falses 7 = .ok (.invokevirtual 242, 3) by decide +kernel) rfl, ?_⟩
  refine List.forall_mem_cons.mpr ⟨ok_ifne C (show decode cX11_falses 10 = .ok (.ifCond .ne 5, 3) by decide +kernel) (tg := 15) (by decide) rfl rfl, ?_⟩
  refine List.forall_mem_cons.mpr ⟨ok_iconst C (show decode cX11_falses 13 = .ok (.iconst (-1), 1) by decide +kernel) (by decide) rfl, ?_⟩
  refine List.forall_mem_cons.mpr ⟨ok_ret C rfl (show decode cX11_falses 14 = .ok (.ireturn, 1) by decide +kernel), ?_⟩
  refine List.forall_mem_cons.mpr ⟨ok_iconst C (show decode cX11_falses 15 = .ok (.iconst 0, 1) by decide +kernel) (by decide) rfl, ?_⟩
  refine List.forall_mem_cons.mpr ⟨ok_istore_n C (show decode cX11_falses 16 = .ok (.istore_n 2, 1) by decide +kernel) rfl (by decide) rfl, ?_⟩
  refine List.forall_mem_cons.mpr ⟨ok_iconst C (show decode cX11_falses 17 = .ok (.iconst 0, 1) by decide +kernel) (by decide) rfl, ?_⟩
  refine List.forall_mem_cons.mpr ⟨ok_istore_n C (show decode cX11_falses 18 = .ok (.istore_n 3, 1) by decide +kernel) rfl (by decide) rfl, ?_⟩
  refine List.forall_mem_cons.mpr ⟨ok_iload_n C (show decode cX11_falses 19 = .ok (.iload_n 3, 1) by decide +kernel) rfl rfl, ?_⟩
  refine List.forall_mem_cons.mpr ⟨ok_aload_n C (show decode cX11_falses 20 = .ok (.aload_n 0, 1) by decide +kernel) rfl rfl, ?_⟩
  refine List.forall_mem_cons.mpr ⟨ok_getf C (wi_X11) rfl (by decide) kw_1186 (show decode cX11_falses 21 = .ok (.getfield 33, 3) by decide +kernel) rfl, ?_⟩
  refine List.forall_mem_cons.mpr ⟨ok_iconst C (show decode cX11_falses 24 = .ok (.iconst 0, 1) by decide +kernel) (by decide) rfl, ?_⟩
  refine List.forall_mem_cons.mpr ⟨ok_iaload C (show decode cX11_falses 25 = .ok (.iaload, 1) by decide +kernel) rfl, ?_⟩
  refine List.forall_mem_cons.mpr ⟨ok_icmpge C (show decode cX11_falses 26 = .ok (.if_icmp .ge 28, 3) by decide +kernel) (tg := 54) (by decide) rfl rfl, ?_⟩
  refine List.forall_mem_cons.mpr ⟨ok_iload_n C (show decode cX11_falses 29 = .ok (.iload_n 2, 1) by decide +kernel) rfl rfl, ?_⟩
  refine List.forall_mem_cons.mpr ⟨ok_aload_n C (show decode cX11_falses 30 = .ok (.aload_n 0, 1) by decide +kernel) rfl rfl, ?_⟩
  refine List.forall_mem_cons.mpr ⟨ok_iload_n C (show decode cX11_falses 31 = .ok (.iload_n 3, 1) by decide +kernel) rfl rfl, ?_⟩
  refine List.forall_mem_cons.mpr ⟨ok_iload_n C (show decode cX11_falses 32 = .ok (.iload_n 1, 1) by decide +kernel) rfl rfl, ?_⟩
  refine List.forall_mem_cons.mpr ⟨ok_callV C h_X11_isFalse ⟨rfl, rfl⟩ rfl kw_1421 kw_1418 kw_1420 kp_68 kw_11 rfl ds_X11_isFalse ⟨by decide, by decide⟩ (show decode cX11_falses 33 = .ok (.invokevirtual 254, 3) by decide +kernel) rfl, ?_⟩
  refine List.forall_mem_cons.mpr ⟨ok_ifeq C (show decode cX11_falses 36 = .ok (.ifCond .eq 9, 3) by decide +kernel) (tg := 45) (by decide) rfl rfl, ?_⟩
  refine List.forall_mem_cons.mpr ⟨ok_iconst C (show decode cX11_falses 39 = .ok (.iconst 1, 1) by decide +kernel) (by decide) rfl, ?_⟩
  refine List.forall_mem_cons.mpr ⟨ok_iload_n C (show decode cX11_falses 40 = .ok (.iload_n 3, 1) by decide +kernel) rfl rfl, ?_⟩
  refine List.forall_mem_cons.mpr ⟨ok_ishl C (show decode cX11_falses 41 = .ok (.ishl, 1) by decide +kernel) rfl, ?_⟩
  refine List.forall_mem_cons.mpr ⟨ok_goto C (show decode cX11_falses 42 = .ok (.goto 4, 3) by decide +kernel) (tg := 46) (by decide) rfl, ?_⟩
  refine List.forall_mem_cons.mpr ⟨ok_iconst C (show decode cX11_falses 45 = .ok (.iconst 0, 1) by decide +kernel) (by decide) rfl, ?_⟩
  refine List.forall_mem_cons.mpr ⟨ok_ior C (show decode cX11_falses 46 = .ok (.ior, 1) by decide +kernel) rfl, ?_⟩
  refine List.forall_mem_cons.mpr ⟨ok_istore_n C (show decode cX11_falses 47 = .ok (.istore_n 2, 1) by decide +kernel) rfl (by decide) rfl, ?_⟩
  refine List.forall_mem_cons.mpr ⟨ok_iinc C (show decode cX11_falses 48 = .ok (.iinc 3 1, 3) by decide +kernel) (by decide) (by decide) rfl, ?_⟩
  refine List.forall_mem_cons.mpr ⟨ok_goto C (show decode cX11_falses 51 = .ok (.goto (-32), 3) by decide +kernel) (tg := 19) (by decide) rfl, ?_⟩
  refine List.forall_mem_cons.mpr ⟨ok_iload_n C (show decode cX11_falses 54 = .ok (.iload_n 2, 1) by decide +kernel) rfl rfl, ?_⟩
  refine List.forall_mem_cons.mpr ⟨ok_ret C rfl (show decode cX11_falses 55 = .ok (.ireturn, 1) by decide +kernel), ?_⟩
  exact fun _ h => absurd h List.not_mem_nil
def L_X11_going (f_X11_goingSet : List Value → ab_H → Option ab_O) : List (Nat × ab_A) := [
  (0, ab_nx 1 (ab_aload 0)),
  (1, ab_nx 2 (ab_lit (.int 0))),
  (2, ab_nx 5 (ab_putf 11 0 0)),
  (5, ab_nx 6 (ab_aload 0)),
  (6, ab_nx 9 (ab_getf 11 6)),
  (9, ab_nx 11 (ab_lit (.int 120))),
  (11, ab_nx 12 (ab_ald 1)),
  (12, ab_nx 15 (ab_lit (.int 400))),
  (15, ab_icmp 18 22 (fun x y => !decide (x = y))),
  (18, ab_nx 19 (ab_lit (.int 0))),
  (19, ab_goto 26),
  (22, ab_nx 23 (ab_aload 0)),
  (23, ab_nx 26 (ab_callV 1 11 f_X11_goingSet 0 0 0 0)),
  (26, ab_ret 0 0)]
set_option maxRecDepth 100000 in
set_option maxHeartbeats 4000000 in
theorem M_X11_going {l : Launch} {b : ab_B} {D : va_G} {cA : Nat → ClassId} {f_X11_goingSet : List Value → ab_H → Option ab_O} (h_X11_goingSet : ab_M l b D ab_cl cA (ab_E0 b) yX11_goingSet (Cond.code yX11_goingSet cX11_goingSet 4 (some .int) :: ab_G) ({ frames := 6, cells := 0, slots := 0, locals := 600 } : Room) f_X11_goingSet) : ab_M l b D ab_cl cA (ab_E0 b) yX11_going (Cond.code yX11_going cX11_going 1 (some .int) :: ab_G) ({ frames := 7, cells := 0, slots := 0, locals := 700 } : Room) (ab_X (ab_T (L_X11_going f_X11_goingSet)) 1) := by
  refine ab_meth (ret := (some .int)) (L_X11_going f_X11_goingSet) (by decide) rfl fun p e R s m args below meth c o C => ?_
  unfold L_X11_going
  refine List.forall_mem_cons.mpr ⟨ok_aload_n C (show decode cX11_going 0 = .ok (.aload_n 0, 1) by decide +kernel) rfl rfl, ?_⟩
  refine List.forall_mem_cons.mpr ⟨ok_iconst C (show decode cX11_going 1 = .ok (.iconst 0, 1) by decide +kernel) (by decide) rfl, ?_⟩
  refine List.forall_mem_cons.mpr ⟨ok_putf C (wi_X11) tyX11 tyX11_ok nmX11 rfl (by decide) kw_1180 (Or.inl rfl) (Or.inl ⟨rfl, rfl⟩) (show decode cX11_going 2 = .ok (.putfield 1, 3) by decide +kernel) rfl, ?_⟩
  refine List.forall_mem_cons.mpr ⟨ok_aload_n C (show decode cX11_going 5 = .ok (.aload_n 0, 1) by decide +kernel) rfl rfl, ?_⟩
  refine List.forall_mem_cons.mpr ⟨ok_getf C (wi_X11) rfl (by decide) kw_1186 (show decode cX11_going 6 = .ok (.getfield 33, 3) by decide +kernel) rfl, ?_⟩
  refine List.forall_mem_cons.mpr ⟨ok_bipush C (show decode cX11_going 9 = .ok (.bipush 120, 2) by decide +kernel) (by decide) rfl, ?_⟩
  refine List.forall_mem_cons.mpr ⟨ok_iaload C (show decode cX11_going 11 = .ok (.iaload, 1) by decide +kernel) rfl, ?_⟩
  refine List.forall_mem_cons.mpr ⟨ok_sipush C (show decode cX11_going 12 = .ok (.sipush 400, 3) by decide +kernel) (by decide) rfl, ?_⟩
  refine List.forall_mem_cons.mpr ⟨ok_icmpne C (show decode cX11_going 15 = .ok (.if_icmp .ne 7, 3) by decide +kernel) (tg := 22) (by decide) rfl rfl, ?_⟩
  refine List.forall_mem_cons.mpr ⟨ok_iconst C (show decode cX11_going 18 = .ok (.iconst 0, 1) by decide +kernel) (by decide) rfl, ?_⟩
  refine List.forall_mem_cons.mpr ⟨ok_goto C (show decode cX11_going 19 = .ok (.goto 7, 3) by decide +kernel) (tg := 26) (by decide) rfl, ?_⟩
  refine List.forall_mem_cons.mpr ⟨ok_aload_n C (show decode cX11_going 22 = .ok (.aload_n 0, 1) by decide +kernel) rfl rfl, ?_⟩
  refine List.forall_mem_cons.mpr ⟨ok_callV C h_X11_goingSet ⟨rfl, rfl⟩ rfl kw_1517 kw_1514 kw_1516 kp_83 kw_11 rfl ds_X11_goingSet ⟨by decide, by decide⟩ (show decode cX11_going 23 = .ok (.invokevirtual 289, 3) by decide +kernel) rfl, ?_⟩
  refine List.forall_mem_cons.mpr ⟨ok_ret C rfl (show decode cX11_going 26 = .ok (.ireturn, 1) by decide +kernel), ?_⟩
  exact fun _ h => absurd h List.not_mem_nil
def L_X11_goes (f_X11_isGood : List Value → ab_H → Option ab_O) (f_X11_goingSet : List Value → ab_H → Option ab_O) (f_X11_goesOf : List Value → ab_H → Option ab_O) : List (Nat × ab_A) := [
  (0, ab_nx 1 (ab_aload 0)),
  (1, ab_nx 2 (ab_lit (.int 0))),
  (2, ab_nx 5 (ab_putf 11 0 0)),
  (5, ab_nx 6 (ab_aload 0)),
  (6, ab_nx 7 (ab_iload 1)),
  (7, ab_nx 10 (ab_callV 2 11 f_X11_isGood 0 0 0 0)),
  (10, ab_if 13 15 (fun x => !decide (x = 0))),
  (13, ab_nx 14 (ab_lit (.int (-1)))),
  (14, ab_ret 0 0),
  (15, ab_nx 16 (ab_aload 0)),
  (16, ab_nx 19 (ab_getf 11 6)),
  (19, ab_nx 21 (ab_lit (.int 120))),
  (21, ab_nx 22 (ab_ald 1)),
  (22, ab_nx 25 (ab_lit (.int 400))),
  (25, ab_icmp 28 30 (fun x y => !decide (x = y))),
  (28, ab_nx 29 (ab_lit (.int 0))),
  (29, ab_ret 0 0),
  (30, ab_nx 31 (ab_aload 0)),
  (31, ab_nx 34 (ab_callV 1 11 f_X11_goingSet 0 0 0 0)),
  (34, ab_nx 35 ab_pop),
  (35, ab_nx 36 (ab_lit (.int 0))),
  (36, ab_nx 37 (ab_istore 2)),
  (37, ab_nx 38 (ab_iload 2)),
  (38, ab_nx 39 (ab_iload 1)),
  (39, ab_icmp 42 62 (fun x y => decide (y ≤ x))),
  (42, ab_nx 43 (ab_aload 0)),
  (43, ab_nx 44 ab_dup),
  (44, ab_nx 47 (ab_getf 11 22)),
  (47, ab_nx 48 (ab_aload 0)),
  (48, ab_nx 49 (ab_iload 2)),
  (49, ab_nx 52 (ab_callV 2 11 f_X11_goesOf 0 0 0 0)),
  (52, ab_nx 53 (ab_bin (fun x y => x - y))),
  (53, ab_nx 56 (ab_putf 11 22 0)),
  (56, ab_nx 59 (ab_iinc 2 1)),
  (59, ab_goto 37),
  (62, ab_nx 63 (ab_aload 0)),
  (63, ab_nx 64 (ab_iload 1)),
  (64, ab_nx 67 (ab_callV 2 11 f_X11_goesOf 0 0 0 0)),
  (67, ab_ret 0 0)]
set_option maxRecDepth 100000 in
set_option maxHeartbeats 4000000 in
theorem M_X11_goes {l : Launch} {b : ab_B} {D : va_G} {cA : Nat → ClassId} {f_X11_isGood : List Value → ab_H → Option ab_O} (h_X11_isGood : ab_M l b D ab_cl cA (ab_E0 b) yX11_isGood (Cond.code yX11_isGood cX11_isGood 2 (some .boolean) :: ab_G) ({ frames := 2, cells := 0, slots := 0, locals := 200 } : Room) f_X11_isGood) {f_X11_goingSet : List Value → ab_H → Option ab_O} (h_X11_goingSet : ab_M l b D ab_cl cA (ab_E0 b) yX11_goingSet (Cond.code yX11_goingSet cX11_goingSet 4 (some .int) :: ab_G) ({ frames := 6, cells := 0, slots := 0, locals := 600 } : Room) f_X11_goingSet) {f_X11_goesOf : List Value → ab_H → Option ab_O} (h_X11_goesOf : ab_M l b D ab_cl cA (ab_E0 b) yX11_goesOf (Cond.code yX11_goesOf cX11_goesOf 3 (some .int) :: ab_G) ({ frames := 3, cells := 0, slots := 0, locals := 300 } : Room) f_X11_goesOf) : ab_M l b D ab_cl cA (ab_E0 b) yX11_goes (Cond.code yX11_goes cX11_goes 3 (some .int) :: ab_G) ({ frames := 7, cells := 0, slots := 0, locals := 700 } : Room) (ab_X (ab_T (L_X11_goes f_X11_isGood f_X11_goingSet f_X11_goesOf)) 3) := by
  refine ab_meth (ret := (some .int)) (L_X11_goes f_X11_isGood f_X11_goingSet f_X11_goesOf) (by decide) rfl fun p e R s m args below meth c o C => ?_
  unfold L_X11_goes
  refine List.forall_mem_cons.mpr ⟨ok_aload_n C (show decode cX11_goes 0 = .ok (.aload_n 0, 1) by decide +kernel) rfl rfl, ?_⟩
  refine List.forall_mem_cons.mpr ⟨ok_iconst C (show decode cX11_goes 1 = .ok (.iconst 0, 1) by decide +kernel) (by decide) rfl, ?_⟩
  refine List.forall_mem_cons.mpr ⟨ok_putf C (wi_X11) tyX11 tyX11_ok nmX11 rfl (by decide) kw_1180 (Or.inl rfl) (Or.inl ⟨rfl, rfl⟩) (show decode cX11_goes 2 = .ok (.putfield 1, 3) by decide +kernel) rfl, ?_⟩
  refine List.forall_mem_cons.mpr ⟨ok_aload_n C (show decode cX11_goes 5 = .ok (.aload_n 0, 1) by decide +kernel) rfl rfl, ?_⟩
  refine List.forall_mem_cons.mpr ⟨ok_iload_n C (show decode cX11_goes 6 = .ok (.iload_n 1, 1) by decide +kernel) rfl rfl, ?_⟩
  refine List.forall_mem_cons.mpr ⟨ok_callV C h_X11_isGood ⟨rfl, rfl⟩ rfl kw_1406 kw_1403 kw_1405 kp_65 kw_11 rfl ds_X11_isGood ⟨by decide, by decide⟩ (show decode cX11_goes 7 = .ok (.invokevirtual 239, 3) by decide +kernel) rfl, ?_⟩
  refine List.forall_mem_cons.mpr ⟨ok_ifne C (show decode cX11_goes 10 = .ok (.ifCond .ne 5, 3) by decide +kernel) (tg := 15) (by decide) rfl rfl, ?_⟩
  refine List.forall_mem_cons.mpr ⟨ok_iconst C (show decode cX11_goes 13 = .ok (.iconst (-1), 1) by decide +kernel) (by decide) rfl, ?_⟩
  refine List.forall_mem_cons.mpr ⟨ok_ret C rfl (show decode cX11_goes 14 = .ok (.ireturn, 1) by decide +kernel), ?_⟩
  refine List.forall_mem_cons.mpr ⟨ok_aload_n C (show decode cX11_goes 15 = .ok (.aload_n 0, 1) by decide +kernel) rfl rfl, ?_⟩
  refine List.forall_mem_cons.mpr ⟨ok_getf C (wi_X11) rfl (by decide) kw_1186 (show decode cX11_goes 16 = .ok (.getfield 33, 3) by decide +kernel) rfl, ?_⟩
  refine List.forall_mem_cons.mpr ⟨ok_bipush C (show decode cX11_goes 19 = .ok (.bipush 120, 2) by decide +kernel) (by decide) rfl, ?_⟩
  refine List.forall_mem_cons.mpr ⟨ok_iaload C (show decode cX11_goes 21 = .ok (.iaload, 1) by decide +kernel) rfl, ?_⟩
  refine List.forall_mem_cons.mpr ⟨ok_sipush C (show decode cX11_goes 22 = .ok (.sipush 400, 3) by decide +kernel) (by decide) rfl, ?_⟩
  refine List.forall_mem_cons.mpr ⟨ok_icmpne C (show decode cX11_goes 25 = .ok (.if_icmp .ne 5, 3) by decide +kernel) (tg := 30) (by decide) rfl rfl, ?_⟩
  refine List.forall_mem_cons.mpr ⟨ok_iconst C (show decode cX11_goes 28 = .ok (.iconst 0, 1) by decide +kernel) (by decide) rfl, ?_⟩
  refine List.forall_mem_cons.mpr ⟨ok_ret C rfl (show decode cX11_goes 29 = .ok (.ireturn, 1) by decide +kernel), ?_⟩
  refine List.forall_mem_cons.mpr ⟨ok_aload_n C (show decode cX11_goes 30 = .ok (.aload_n 0, 1) by decide +kernel) rfl rfl, ?_⟩
  refine List.forall_mem_cons.mpr ⟨ok_callV C h_X11_goingSet ⟨rfl, rfl⟩ rfl kw_1517 kw_1514 kw_1516 kp_83 kw_11 rfl ds_X11_goingSet ⟨by decide, by decide⟩ (show decode cX11_goes 31 = .ok (.invokevirtual 289, 3) by decide +kernel) rfl, ?_⟩
  refine List.forall_mem_cons.mpr ⟨ok_pop C (show decode cX11_goes 34 = .ok (.pop, 1) by decide +kernel) rfl, ?_⟩
  refine List.forall_mem_cons.mpr ⟨ok_iconst C (show decode cX11_goes 35 = .ok (.iconst 0, 1) by decide +kernel) (by decide) rfl, ?_⟩
  refine List.forall_mem_cons.mpr ⟨ok_istore_n C (show decode cX11_goes 36 = .ok (.istore_n 2, 1) by decide +kernel) rfl (by decide) rfl, ?_⟩
  refine List.forall_mem_cons.mpr ⟨ok_iload_n C (show decode cX11_goes 37 = .ok (.iload_n 2, 1) by decide +kernel) rfl rfl, ?_⟩
  refine List.forall_mem_cons.mpr ⟨ok_iload_n C (show decode cX11_goes 38 = .ok (.iload_n 1, 1) by decide +kernel) rfl rfl, ?_⟩
  refine List.forall_mem_cons.mpr ⟨ok_icmpge C (show decode cX11_goes 39 = .ok (.if_icmp .ge 23, 3) by decide +kernel) (tg := 62) (by decide) rfl rfl, ?_⟩
  refine List.forall_mem_cons.mpr ⟨ok_aload_n C (show decode cX11_goes 42 = .ok (.aload_n 0, 1) by decide +kernel) rfl rfl, ?_⟩
  refine List.forall_mem_cons.mpr ⟨ok_dup C (show decode cX11_goes 43 = .ok (.dup, 1) by decide +kernel) rfl, ?_⟩
  refine List.forall_mem_cons.mpr ⟨ok_getf C (wi_X11) rfl (by decide) kw_1202 (show decode cX11_goes 44 = .ok (.getfield 283, 3) by decide +kernel) rfl, ?_⟩
  refine List.forall_mem_cons.mpr ⟨ok_aload_n C (show decode cX11_goes 47 = .ok (.aload_n 0, 1) by decide +kernel) rfl rfl, ?_⟩
  refine List.forall_mem_cons.mpr ⟨ok_iload_n C (show decode cX11_goes 48 = .ok (.iload_n 2, 1) by decide +kernel) rfl rfl, ?_⟩
  refine List.forall_mem_cons.mpr ⟨ok_callV C h_X11_goesOf ⟨rfl, rfl⟩ rfl kw_1521 kw_1518 kw_1520 kp_84 kw_11 rfl ds_X11_goesOf ⟨by decide, by decide⟩ (show decode cX11_goes 49 = .ok (.invokevirtual 292, 3) by decide +kernel) rfl, ?_⟩
  refine List.forall_mem_cons.mpr ⟨ok_isub C (show decode cX11_goes 52 = .ok (.isub, 1) by decide +kernel) rfl, ?_⟩
  refine List.forall_mem_cons.mpr ⟨ok_putf C (wi_X11) tyX11 tyX11_ok nmX11 rfl (by decide) kw_1202 (Or.inl rfl) (Or.inl ⟨rfl, rfl⟩) (show decode cX11_goes 53 = .ok (.putfield 283, 3) by decide +kernel) rfl, ?_⟩
  refine List.forall_mem_cons.mpr ⟨ok_iinc C (show decode cX11_goes 56 = .ok (.iinc 2 1, 3) by decide +kernel) (by decide) (by decide) rfl, ?_⟩
  refine List.forall_mem_cons.mpr ⟨ok_goto C (show decode cX11_goes 59 = .ok (.goto (-22), 3) by decide +kernel) (tg := 37) (by decide) rfl, ?_⟩
  refine List.forall_mem_cons.mpr ⟨ok_aload_n C (show decode cX11_goes 62 = .ok (.aload_n 0, 1) by decide +kernel) rfl rfl, ?_⟩
  refine List.forall_mem_cons.mpr ⟨ok_iload_n C (show decode cX11_goes 63 = .ok (.iload_n 1, 1) by decide +kernel) rfl rfl, ?_⟩
  refine List.forall_mem_cons.mpr ⟨ok_callV C h_X11_goesOf ⟨rfl, rfl⟩ rfl kw_1521 kw_1518 kw_1520 kp_84 kw_11 rfl ds_X11_goesOf ⟨by decide, by decide⟩ (show decode cX11_goes 64 = .ok (.invokevirtual 292, 3) by decide +kernel) rfl, ?_⟩
  refine List.forall_mem_cons.mpr ⟨ok_ret C rfl (show decode cX11_goes 67 = .ok (.ireturn, 1) by decide +kernel), ?_⟩
  exact fun _ h => absurd h List.not_mem_nil
def L_X11_crosses (f_X11_isMan : List Value → ab_H → Option ab_O) (f_X11_isDead : List Value → ab_H → Option ab_O) (f_X11_tries : List Value → ab_H → Option ab_O) (f_X11_goesOn : List Value → ab_H → Option ab_O) (f_X11_back : List Value → ab_H → Option ab_O) : List (Nat × ab_A) := [
  (0, ab_nx 1 (ab_aload 0)),
  (1, ab_nx 2 (ab_lit (.int 0))),
  (2, ab_nx 5 (ab_putf 11 0 0)),
  (5, ab_nx 6 (ab_aload 0)),
  (6, ab_nx 7 (ab_iload 1)),
  (7, ab_nx 10 (ab_callV 2 11 f_X11_isMan 0 0 0 0)),
  (10, ab_if 13 21 (fun x => decide (x = 0))),
  (13, ab_nx 14 (ab_aload 0)),
  (14, ab_nx 15 (ab_iload 1)),
  (15, ab_nx 18 (ab_callV 2 11 f_X11_isDead 0 0 0 0)),
  (18, ab_if 21 23 (fun x => decide (x = 0))),
  (21, ab_nx 22 (ab_lit (.int (-1)))),
  (22, ab_ret 0 0),
  (23, ab_nx 24 (ab_aload 0)),
  (24, ab_nx 27 (ab_callV 1 11 f_X11_tries 0 0 0 0)),
  (27, ab_nx 28 (ab_aload 0)),
  (28, ab_nx 31 (ab_getf 11 6)),
  (31, ab_nx 34 (ab_lit (.int 181))),
  (34, ab_nx 35 (ab_iload 1)),
  (35, ab_nx 36 (ab_bin (fun x y => x + y))),
  (36, ab_nx 37 (ab_ald 1)),
  (37, ab_nx 38 (ab_istore 2)),
  (38, ab_nx 39 (ab_lit (.int (-1)))),
  (39, ab_nx 40 (ab_istore 3)),
  (40, ab_nx 41 (ab_lit (.int 0))),
  (41, ab_nx 43 (ab_istore 4)),
  (43, ab_nx 45 (ab_iload 4)),
  (45, ab_nx 47 (ab_lit (.int 100))),
  (47, ab_icmp 50 93 (fun x y => decide (y ≤ x))),
  (50, ab_nx 51 (ab_iload 3)),
  (51, ab_if 54 93 (fun x => decide (0 ≤ x))),
  (54, ab_nx 55 (ab_aload 0)),
  (55, ab_nx 56 (ab_lit (.int 1))),
  (56, ab_nx 59 (ab_callV 2 11 f_X11_goesOn 0 0 0 0)),
  (59, ab_nx 60 (ab_lit (.int 1))),
  (60, ab_icmp 63 93 (fun x y => !decide (x = y))),
  (63, ab_nx 64 (ab_aload 0)),
  (64, ab_nx 67 (ab_getf 11 6)),
  (67, ab_nx 70 (ab_lit (.int 181))),
  (70, ab_nx 71 (ab_iload 1)),
  (71, ab_nx 72 (ab_bin (fun x y => x + y))),
  (72, ab_nx 73 (ab_ald 1)),
  (73, ab_nx 74 (ab_iload 2)),
  (74, ab_icmp 77 87 (fun x y => decide (x ≤ y))),
  (77, ab_nx 78 (ab_aload 0)),
  (78, ab_nx 81 (ab_getf 11 6)),
  (81, ab_nx 83 (ab_lit (.int 120))),
  (83, ab_nx 84 (ab_ald 1)),
  (84, ab_nx 85 (ab_lit (.int 1))),
  (85, ab_nx 86 (ab_bin (fun x y => x - y))),
  (86, ab_nx 87 (ab_istore 3)),
  (87, ab_nx 90 (ab_iinc 4 1)),
  (90, ab_goto 43),
  (93, ab_nx 94 (ab_aload 0)),
  (94, ab_nx 97 (ab_callV 1 11 f_X11_back 0 0 0 0)),
  (97, ab_nx 98 (ab_iload 3)),
  (98, ab_ret 0 0)]
set_option maxRecDepth 100000 in
set_option maxHeartbeats 4000000 in
theorem M_X11_crosses {l : Launch} {b : ab_B} {D : va_G} {cA : Nat → ClassId} {f_X11_isMan : List Value → ab_H → Option ab_O} (h_X11_isMan : ab_M l b D ab_cl cA (ab_E0 b) yX11_isMan (Cond.code yX11_isMan cX11_isMan 2 (some .boolean) :: ab_G) ({ frames := 2, cells := 0, slots := 0, locals := 200 } : Room) f_X11_isMan) {f_X11_isDead : List Value → ab_H → Option ab_O} (h_X11_isDead : ab_M l b D ab_cl cA (ab_E0 b) yX11_isDead (Cond.code yX11_isDead cX11_isDead 2 (some .boolean) :: ab_G) ({ frames := 2, cells := 0, slots := 0, locals := 200 } : Room) f_X11_isDead) {f_X11_tries : List Value → ab_H → Option ab_O} (h_X11_tries : ab_M l b D ab_cl cA (ab_E0 b) yX11_tries (Cond.code yX11_tries cX11_tries 2 none :: ab_G) ({ frames := 1, cells := 0, slots := 0, locals := 100 } : Room) f_X11_tries) {f_X11_goesOn : List Value → ab_H → Option ab_O} (h_X11_goesOn : ab_M l b D ab_cl cA (ab_E0 b) yX11_goesOn (Cond.code yX11_goesOn cX11_goesOn 3 (some .int) :: ab_G) ({ frames := 8, cells := 0, slots := 0, locals := 800 } : Room) f_X11_goesOn) {f_X11_back : List Value → ab_H → Option ab_O} (h_X11_back : ab_M l b D ab_cl cA (ab_E0 b) yX11_back (Cond.code yX11_back cX11_back 2 none :: ab_G) ({ frames := 1, cells := 0, slots := 0, locals := 100 } : Room) f_X11_back) : ab_M l b D ab_cl cA (ab_E0 b) yX11_crosses (Cond.code yX11_crosses cX11_crosses 5 (some .int) :: ab_G) ({ frames := 9, cells := 0, slots := 0, locals := 900 } : Room) (ab_X (ab_T (L_X11_crosses f_X11_isMan f_X11_isDead f_X11_tries f_X11_goesOn f_X11_back)) 5) := by
  refine ab_meth (ret := (some .int)) (L_X11_crosses f_X11_isMan f_X11_isDead f_X11_tries f_X11_goesOn f_X11_back) (by decide) rfl fun p e R s m args below meth c o C => ?_
  unfold L_X11_crosses
  refine List.forall_mem_cons.mpr ⟨ok_aload_n C (show decode cX11_crosses 0 = .ok (.aload_n 0, 1) by decide +kernel) rfl rfl, ?_⟩
  refine List.forall_mem_cons.mpr ⟨ok_iconst C (show decode cX11_crosses 1 = .ok (.iconst 0, 1) by decide +kernel) (by decide) rfl, ?_⟩
  refine List.forall_mem_cons.mpr ⟨ok_putf C (wi_X11) tyX11 tyX11_ok nmX11 rfl (by decide) kw_1180 (Or.inl rfl) (Or.inl ⟨rfl, rfl⟩) (show decode cX11_crosses 2 = .ok (.putfield 1, 3) by decide +kernel) rfl, ?_⟩
  refine List.forall_mem_cons.mpr ⟨ok_aload_n C (show decode cX11_crosses 5 = .ok (.aload_n 0, 1) by decide +kernel) rfl rfl, ?_⟩
  refine List.forall_mem_cons.mpr ⟨ok_iload_n C (show decode cX11_crosses 6 = .ok (.iload_n 1, 1) by decide +kernel) rfl rfl, ?_⟩
  refine List.forall_mem_cons.mpr ⟨ok_callV C h_X11_isMan ⟨rfl, rfl⟩ rfl kw_1433 kw_1430 kw_1432 kp_69 kw_11 rfl ds_X11_isMan ⟨by decide, by decide⟩ (show decode cX11_crosses 7 = .ok (.invokevirtual 266, 3) by decide +kernel) rfl, ?_⟩
  refine List.forall_mem_cons.mpr ⟨ok_ifeq C (show decode cX11_crosses 10 = .ok (.ifCond .eq 11, 3) by decide +kernel) (tg := 21) (by decide) rfl rfl, ?_⟩
  refine List.forall_mem_cons.mpr ⟨ok_aload_n C (show decode cX11_crosses 13 = .ok (.aload_n 0, 1) by decide +kernel) rfl rfl, ?_⟩
  refine List.forall_mem_cons.mpr ⟨ok_iload_n C (show decode cX11_crosses 14 = .ok (.iload_n 1, 1) by decide +kernel) rfl rfl, ?_⟩
  refine List.forall_mem_cons.mpr ⟨ok_callV C h_X11_isDead ⟨rfl, rfl⟩ rfl kw_1441 kw_1438 kw_1440 kp_71 kw_11 rfl ds_X11_isDead ⟨by decide, by decide⟩ (show decode cX11_crosses 15 = .ok (.invokevirtual 257, 3) by decide +kernel) rfl, ?_⟩
  refine List.forall_mem_cons.mpr ⟨ok_ifeq C (show decode cX11_crosses 18 = .ok (.ifCond .eq 5, 3) by decide +kernel) (tg := 23) (by decide) rfl rfl, ?_⟩
  refine List.forall_mem_cons.mpr ⟨ok_iconst C (show decode cX11_crosses 21 = .ok (.iconst (-1), 1) by decide +kernel) (by decide) rfl, ?_⟩
  refine List.forall_mem_cons.mpr ⟨ok_ret C rfl (show decode cX11_crosses 22 = .ok (.ireturn, 1) by decide +kernel), ?_⟩
  refine List.forall_mem_cons.mpr ⟨ok_aload_n C (show decode cX11_crosses 23 = .ok (.aload_n 0, 1) by decide +kernel) rfl rfl, ?_⟩
  refine List.forall_mem_cons.mpr ⟨ok_callV C h_X11_tries ⟨rfl, rfl⟩ rfl kw_1556 kw_1553 kw_1555 kp_86 kw_11 rfl ds_X11_tries ⟨by decide, by decide⟩ (show decode cX11_crosses 24 = .ok (.invokevirtual 317, 3) by decide +kernel) rfl, ?_⟩
  refine List.forall_mem_cons.mpr ⟨ok_aload_n C (show decode cX11_crosses 27 = .ok (.aload_n 0, 1) by decide +kernel) rfl rfl, ?_⟩
  refine List.forall_mem_cons.mpr ⟨ok_getf C (wi_X11) rfl (by decide) kw_1186 (show decode cX11_crosses 28 = .ok (.getfield 33, 3) by decide +kernel) rfl, ?_⟩
  refine List.forall_mem_cons.mpr ⟨ok_sipush C (show decode cX11_crosses 31 = .ok (.sipush 181, 3) by decide +kernel) (by decide) rfl, ?_⟩
  refine List.forall_mem_cons.mpr ⟨ok_iload_n C (show decode cX11_crosses 34 = .ok (.iload_n 1, 1) by decide +kernel) rfl rfl, ?_⟩
  refine List.forall_mem_cons.mpr ⟨ok_iadd C (show decode cX11_crosses 35 = .ok (.iadd, 1) by decide +kernel) rfl, ?_⟩
  refine List.forall_mem_cons.mpr ⟨ok_iaload C (show decode cX11_crosses 36 = .ok (.iaload, 1) by decide +kernel) rfl, ?_⟩
  refine List.forall_mem_cons.mpr ⟨ok_istore_n C (show decode cX11_crosses 37 = .ok (.istore_n 2, 1) by decide +kernel) rfl (by decide) rfl, ?_⟩
  refine List.forall_mem_cons.mpr ⟨ok_iconst C (show decode cX11_crosses 38 = .ok (.iconst (-1), 1) by decide +kernel) (by decide) rfl, ?_⟩
  refine List.forall_mem_cons.mpr ⟨ok_istore_n C (show decode cX11_crosses 39 = .ok (.istore_n 3, 1) by decide +kernel) rfl (by decide) rfl, ?_⟩
  refine List.forall_mem_cons.mpr ⟨ok_iconst C (show decode cX11_crosses 40 = .ok (.iconst 0, 1) by decide +kernel) (by decide) rfl, ?_⟩
  refine List.forall_mem_cons.mpr ⟨ok_istore C (show decode cX11_crosses 41 = .ok (.istore 4, 2) by decide +kernel) (by decide) rfl, ?_⟩
  refine List.forall_mem_cons.mpr ⟨ok_iload C (show decode cX11_crosses 43 = .ok (.iload 4, 2) by decide +kernel) rfl, ?_⟩
  refine List.forall_mem_cons.mpr ⟨ok_bipush C (show decode cX11_crosses 45 = .ok (.bipush 100, 2) by decide +kernel) (by decide) rfl, ?_⟩
  refine List.forall_mem_cons.mpr ⟨ok_icmpge C (show decode cX11_crosses 47 = .ok (.if_icmp .ge 46, 3) by decide +kernel) (tg := 93) (by decide) rfl rfl, ?_⟩
  refine List.forall_mem_cons.mpr ⟨ok_iload_n C (show decode cX11_crosses 50 = .ok (.iload_n 3, 1) by decide +kernel) rfl rfl, ?_⟩
  refine List.forall_mem_cons.mpr ⟨ok_ifge C (show decode cX11_crosses 51 = .ok (.ifCond .ge 42, 3) by decide +kernel) (tg := 93) (by decide) rfl rfl, ?_⟩
  refine List.forall_mem_cons.mpr ⟨ok_aload_n C (show decode cX11_crosses 54 = .ok (.aload_n 0, 1) by decide +kernel) rfl rfl, ?_⟩
  refine List.forall_mem_cons.mpr ⟨ok_iconst C (show decode cX11_crosses 55 = .ok (.iconst 1, 1) by decide +kernel) (by decide) rfl, ?_⟩
  refine List.forall_mem_cons.mpr ⟨ok_callV C h_X11_goesOn ⟨rfl, rfl⟩ rfl kw_1509 kw_1506 kw_1508 kp_81 kw_11 rfl ds_X11_goesOn ⟨by decide, by decide⟩ (show decode cX11_crosses 56 = .ok (.invokevirtual 314, 3) by decide +kernel) rfl, ?_⟩
  refine List.forall_mem_cons.mpr ⟨ok_iconst C (show decode cX11_crosses 59 = .ok (.iconst 1, 1) by decide +kernel) (by decide) rfl, ?_⟩
  refine List.forall_mem_cons.mpr ⟨ok_icmpne C (show decode cX11_crosses 60 = .ok (.if_icmp .ne 33, 3) by decide +kernel) (tg := 93) (by decide) rfl rfl, ?_⟩
  refine List.forall_mem_cons.mpr ⟨ok_aload_n C (show decode cX11_crosses 63 = .ok (.aload_n 0, 1) by decide +kernel) rfl rfl, ?_⟩
  refine List.forall_mem_cons.mpr ⟨ok_getf C (wi_X11) rfl (by decide) kw_1186 (show decode cX11_crosses 64 = .ok (.getfield 33, 3) by decide +kernel) rfl, ?_⟩
  refine List.forall_mem_cons.mpr ⟨ok_sipush C (show decode cX11_crosses 67 = .ok (.sipush 181, 3) by decide +kernel) (by decide) rfl, ?_⟩
  refine List.forall_mem_cons.mpr ⟨ok_iload_n C (show decode cX11_crosses 70 = .ok (.iload_n 1, 1) by decide +kernel) rfl rfl, ?_⟩
  refine List.forall_mem_cons.mpr ⟨ok_iadd C (show decode cX11_crosses 71 = .ok (.iadd, 1) by decide +kernel) rfl, ?_⟩
  refine List.forall_mem_cons.mpr ⟨ok_iaload C (show decode cX11_crosses 72 = .ok (.iaload, 1) by decide +kernel) rfl, ?_⟩
  refine List.forall_mem_cons.mpr ⟨ok_iload_n C (show decode cX11_crosses 73 = .ok (.iload_n 2, 1) by decide +kernel) rfl rfl, ?_⟩
  refine List.forall_mem_cons.mpr ⟨ok_icmple C (show decode cX11_crosses 74 = .ok (.if_icmp .le 13, 3) by decide +kernel) (tg := 87) (by decide) rfl rfl, ?_⟩
  refine List.forall_mem_cons.mpr ⟨ok_aload_n C (show decode cX11_crosses 77 = .ok (.aload_n 0, 1) by decide +kernel) rfl rfl, ?_⟩
  refine List.forall_mem_cons.mpr ⟨ok_getf C (wi_X11) rfl (by decide) kw_1186 (show decode cX11_crosses 78 = .ok (.getfield 33, 3) by decide +kernel) rfl, ?_⟩
  refine List.forall_mem_cons.mpr ⟨ok_bipush C (show decode cX11_crosses 81 = .ok (.bipush 120, 2) by decide +kernel) (by decide) rfl, ?_⟩
  refine List.forall_mem_cons.mpr ⟨ok_iaload C (show decode cX11_crosses 83 = .ok (.iaload, 1) by decide +kernel) rfl, ?_⟩
  refine List.forall_mem_cons.mpr ⟨ok_iconst C (show decode cX11_crosses 84 = .ok (.iconst 1, 1) by decide +kernel) (by decide) rfl, ?_⟩
  refine List.forall_mem_cons.mpr ⟨ok_isub C (show decode cX11_crosses 85 = .ok (.isub, 1) by decide +kernel) rfl, ?_⟩
  refine List.forall_mem_cons.mpr ⟨ok_istore_n C (show decode cX11_crosses 86 = .ok (.istore_n 3, 1) by decide +kernel) rfl (by decide) rfl, ?_⟩
  refine List.forall_mem_cons.mpr ⟨ok_iinc C (show decode cX11_crosses 87 = .ok (.iinc 4 1, 3) by decide +kernel) (by decide) (by decide) rfl, ?_⟩
  refine List.forall_mem_cons.mpr ⟨ok_goto C (show decode cX11_crosses 90 = .ok (.goto (-47), 3) by decide +kernel) (tg := 43) (by decide) rfl, ?_⟩
  refine List.forall_mem_cons.mpr ⟨ok_aload_n C (show decode cX11_crosses 93 = .ok (.aload_n 0, 1) by decide +kernel) rfl rfl, ?_⟩
  refine List.forall_mem_cons.mpr ⟨ok_callV C h_X11_back ⟨rfl, rfl⟩ rfl kw_1560 kw_1557 kw_1559 kp_87 kw_11 rfl ds_X11_back ⟨by decide, by decide⟩ (show decode cX11_crosses 94 = .ok (.invokevirtual 320, 3) by decide +kernel) rfl, ?_⟩
  refine List.forall_mem_cons.mpr ⟨ok_iload_n C (show decode cX11_crosses 97 = .ok (.iload_n 3, 1) by decide +kernel) rfl rfl, ?_⟩
  refine List.forall_mem_cons.mpr ⟨ok_ret C rfl (show decode cX11_crosses 98 = .ok (.ireturn, 1) by decide +kernel), ?_⟩
  exact fun _ h => absurd h List.not_mem_nil
def L_X11_comes (f_X11_isPlace : List Value → ab_H → Option ab_O) (f_X11_tries : List Value → ab_H → Option ab_O) (f_X11_cell : List Value → ab_H → Option ab_O) (f_X11_goesOn : List Value → ab_H → Option ab_O) (f_X11_back : List Value → ab_H → Option ab_O) : List (Nat × ab_A) := [
  (0, ab_nx 1 (ab_aload 0)),
  (1, ab_nx 2 (ab_lit (.int 0))),
  (2, ab_nx 5 (ab_putf 11 0 0)),
  (5, ab_nx 6 (ab_aload 0)),
  (6, ab_nx 7 (ab_iload 1)),
  (7, ab_nx 8 (ab_iload 2)),
  (8, ab_nx 11 (ab_callV 3 11 f_X11_isPlace 0 0 0 0)),
  (11, ab_if 14 16 (fun x => !decide (x = 0))),
  (14, ab_nx 15 (ab_lit (.int (-1)))),
  (15, ab_ret 0 0),
  (16, ab_nx 17 (ab_aload 0)),
  (17, ab_nx 20 (ab_callV 1 11 f_X11_tries 0 0 0 0)),
  (20, ab_nx 21 (ab_aload 0)),
  (21, ab_nx 24 (ab_getf 11 6)),
  (24, ab_nx 27 (ab_lit (.int 160))),
  (27, ab_nx 28 (ab_iload 1)),
  (28, ab_nx 29 (ab_iload 2)),
  (29, ab_nx 32 (ab_call 2 f_X11_cell 0 0 0 0)),
  (32, ab_nx 33 (ab_bin (fun x y => x + y))),
  (33, ab_nx 34 (ab_ald 1)),
  (34, ab_nx 35 (ab_istore 3)),
  (35, ab_nx 36 (ab_lit (.int (-1)))),
  (36, ab_nx 38 (ab_istore 4)),
  (38, ab_nx 39 (ab_lit (.int 0))),
  (39, ab_nx 41 (ab_istore 5)),
  (41, ab_nx 43 (ab_iload 5)),
  (43, ab_nx 45 (ab_lit (.int 100))),
  (45, ab_icmp 48 97 (fun x y => decide (y ≤ x))),
  (48, ab_nx 50 (ab_iload 4)),
  (50, ab_if 53 97 (fun x => decide (0 ≤ x))),
  (53, ab_nx 54 (ab_aload 0)),
  (54, ab_nx 55 (ab_lit (.int 1))),
  (55, ab_nx 58 (ab_callV 2 11 f_X11_goesOn 0 0 0 0)),
  (58, ab_nx 59 (ab_lit (.int 1))),
  (59, ab_icmp 62 97 (fun x y => !decide (x = y))),
  (62, ab_nx 63 (ab_aload 0)),
  (63, ab_nx 66 (ab_getf 11 6)),
  (66, ab_nx 69 (ab_lit (.int 160))),
  (69, ab_nx 70 (ab_iload 1)),
  (70, ab_nx 71 (ab_iload 2)),
  (71, ab_nx 74 (ab_call 2 f_X11_cell 0 0 0 0)),
  (74, ab_nx 75 (ab_bin (fun x y => x + y))),
  (75, ab_nx 76 (ab_ald 1)),
  (76, ab_nx 77 (ab_iload 3)),
  (77, ab_icmp 80 91 (fun x y => decide (x ≤ y))),
  (80, ab_nx 81 (ab_aload 0)),
  (81, ab_nx 84 (ab_getf 11 6)),
  (84, ab_nx 86 (ab_lit (.int 120))),
  (86, ab_nx 87 (ab_ald 1)),
  (87, ab_nx 88 (ab_lit (.int 1))),
  (88, ab_nx 89 (ab_bin (fun x y => x - y))),
  (89, ab_nx 91 (ab_istore 4)),
  (91, ab_nx 94 (ab_iinc 5 1)),
  (94, ab_goto 41),
  (97, ab_nx 98 (ab_aload 0)),
  (98, ab_nx 101 (ab_callV 1 11 f_X11_back 0 0 0 0)),
  (101, ab_nx 103 (ab_iload 4)),
  (103, ab_ret 0 0)]
set_option maxRecDepth 100000 in
set_option maxHeartbeats 4000000 in
theorem M_X11_comes {l : Launch} {b : ab_B} {D : va_G} {cA : Nat → ClassId} {f_X11_isPlace : List Value → ab_H → Option ab_O} (h_X11_isPlace : ab_M l b D ab_cl cA (ab_E0 b) yX11_isPlace (Cond.code yX11_isPlace cX11_isPlace 3 (some .boolean) :: ab_G) ({ frames := 3, cells := 0, slots := 0, locals := 300 } : Room) f_X11_isPlace) {f_X11_tries : List Value → ab_H → Option ab_O} (h_X11_tries : ab_M l b D ab_cl cA (ab_E0 b) yX11_tries (Cond.code yX11_tries cX11_tries 2 none :: ab_G) ({ frames := 1, cells := 0, slots := 0, locals := 100 } : Room) f_X11_tries) {f_X11_cell : List Value → ab_H → Option ab_O} (h_X11_cell : ab_M l b D ab_cl cA (ab_E0 b) yX11_cell (Cond.code yX11_cell cX11_cell 2 (some .int) :: ab_G) ({ frames := 1, cells := 0, slots := 0, locals := 100 } : Room) f_X11_cell) {f_X11_goesOn : List Value → ab_H → Option ab_O} (h_X11_goesOn : ab_M l b D ab_cl cA (ab_E0 b) yX11_goesOn (Cond.code yX11_goesOn cX11_goesOn 3 (some .int) :: ab_G) ({ frames := 8, cells := 0, slots := 0, locals := 800 } : Room) f_X11_goesOn) {f_X11_back : List Value → ab_H → Option ab_O} (h_X11_back : ab_M l b D ab_cl cA (ab_E0 b) yX11_back (Cond.code yX11_back cX11_back 2 none :: ab_G) ({ frames := 1, cells := 0, slots := 0, locals := 100 } : Room) f_X11_back) : ab_M l b D ab_cl cA (ab_E0 b) yX11_comes (Cond.code yX11_comes cX11_comes 6 (some .int) :: ab_G) ({ frames := 9, cells := 0, slots := 0, locals := 900 } : Room) (ab_X (ab_T (L_X11_comes f_X11_isPlace f_X11_tries f_X11_cell f_X11_goesOn f_X11_back)) 6) := by
  refine ab_meth (ret := (some .int)) (L_X11_comes f_X11_isPlace f_X11_tries f_X11_cell f_X11_goesOn f_X11_back) (by decide) rfl fun p e R s m args below meth c o C => ?_
  unfold L_X11_comes
  refine List.forall_mem_cons.mpr ⟨ok_aload_n C (show decode cX11_comes 0 = .ok (.aload_n 0, 1) by decide +kernel) rfl rfl, ?_⟩
  refine List.forall_mem_cons.mpr ⟨ok_iconst C (show decode cX11_comes 1 = .ok (.iconst 0, 1) by decide +kernel) (by decide) rfl, ?_⟩
  refine List.forall_mem_cons.mpr ⟨ok_putf C (wi_X11) tyX11 tyX11_ok nmX11 rfl (by decide) kw_1180 (Or.inl rfl) (Or.inl ⟨rfl, rfl⟩) (show decode cX11_comes 2 = .ok (.putfield 1, 3) by decide +kernel) rfl, ?_⟩
  refine List.forall_mem_cons.mpr ⟨ok_aload_n C (show decode cX11_comes 5 = .ok (.aload_n 0, 1) by decide +kernel) rfl rfl, ?_⟩
  refine List.forall_mem_cons.mpr ⟨ok_iload_n C (show decode cX11_comes 6 = .ok (.iload_n 1, 1) by decide +kernel) rfl rfl, ?_⟩
  refine List.forall_mem_cons.mpr ⟨ok_iload_n C (show decode cX11_comes 7 = .ok (.iload_n 2, 1) by decide +kernel) rfl rfl, ?_⟩
  refine List.forall_mem_cons.mpr ⟨ok_callV C h_X11_isPlace ⟨rfl, rfl⟩ rfl kw_1402 kw_1399 kw_1401 kp_64 kw_11 rfl ds_X11_isPlace ⟨by decide, by decide⟩ (show decode cX11_comes 8 = .ok (.invokevirtual 251, 3) by decide +kernel) rfl, ?_⟩
  refine List.forall_mem_cons.mpr ⟨ok_ifne C (show decode cX11_comes 11 = .ok (.ifCond .ne 5, 3) by decide +kernel) (tg := 16) (by decide) rfl rfl, ?_⟩
  refine List.forall_mem_cons.mpr ⟨ok_iconst C (show decode cX11_comes 14 = .ok (.iconst (-1), 1) by decide +kernel) (by decide) rfl, ?_⟩
  refine List.forall_mem_cons.mpr ⟨ok_ret C rfl (show decode cX11_comes 15 = .ok (.ireturn, 1) by decide +kernel), ?_⟩
  refine List.forall_mem_cons.mpr ⟨ok_aload_n C (show decode cX11_comes 16 = .ok (.aload_n 0, 1) by decide +kernel) rfl rfl, ?_⟩
  refine List.forall_mem_cons.mpr ⟨ok_callV C h_X11_tries ⟨rfl, rfl⟩ rfl kw_1556 kw_1553 kw_1555 kp_86 kw_11 rfl ds_X11_tries ⟨by decide, by decide⟩ (show decode cX11_comes 17 = .ok (.invokevirtual 317, 3) by decide +kernel) rfl, ?_⟩
  refine List.forall_mem_cons.mpr ⟨ok_aload_n C (show decode cX11_comes 20 = .ok (.aload_n 0, 1) by decide +kernel) rfl rfl, ?_⟩
  refine List.forall_mem_cons.mpr ⟨ok_getf C (wi_X11) rfl (by decide) kw_1186 (show decode cX11_comes 21 = .ok (.getfield 33, 3) by decide +kernel) rfl, ?_⟩
  refine List.forall_mem_cons.mpr ⟨ok_sipush C (show decode cX11_comes 24 = .ok (.sipush 160, 3) by decide +kernel) (by decide) rfl, ?_⟩
  refine List.forall_mem_cons.mpr ⟨ok_iload_n C (show decode cX11_comes 27 = .ok (.iload_n 1, 1) by decide +kernel) rfl rfl, ?_⟩
  refine List.forall_mem_cons.mpr ⟨ok_iload_n C (show decode cX11_comes 28 = .ok (.iload_n 2, 1) by decide +kernel) rfl rfl, ?_⟩
  refine List.forall_mem_cons.mpr ⟨ok_callS C h_X11_cell ⟨rfl, rfl⟩ kw_1413 kw_1411 kw_1412 kw_11 ds_X11_cell ⟨by decide, by decide⟩ (show decode cX11_comes 29 = .ok (.invokestatic 245, 3) by decide +kernel) rfl, ?_⟩
  refine List.forall_mem_cons.mpr ⟨ok_iadd C (show decode cX11_comes 32 = .ok (.iadd, 1) by decide +kernel) rfl, ?_⟩
  refine List.forall_mem_cons.mpr ⟨ok_iaload C (show decode cX11_comes 33 = .ok (.iaload, 1) by decide +kernel) rfl, ?_⟩
  refine List.forall_mem_cons.mpr ⟨ok_istore_n C (show decode cX11_comes 34 = .ok (.istore_n 3, 1) by decide +kernel) rfl (by decide) rfl, ?_⟩
  refine List.forall_mem_cons.mpr ⟨ok_iconst C (show decode cX11_comes 35 = .ok (.iconst (-1), 1) by decide +kernel) (by decide) rfl, ?_⟩
  refine List.forall_mem_cons.mpr ⟨ok_istore C (show decode cX11_comes 36 = .ok (.istore 4, 2) by decide +kernel) (by decide) rfl, ?_⟩
  refine List.forall_mem_cons.mpr ⟨ok_iconst C (show decode cX11_comes 38 = .ok (.iconst 0, 1) by decide +kernel) (by decide) rfl, ?_⟩
  refine List.forall_mem_cons.mpr ⟨ok_istore C (show decode cX11_comes 39 = .ok (.istore 5, 2) by decide +kernel) (by decide) rfl, ?_⟩
  refine List.forall_mem_cons.mpr ⟨ok_iload C (show decode cX11_comes 41 = .ok (.iload 5, 2) by decide +kernel) rfl, ?_⟩
  refine List.forall_mem_cons.mpr ⟨ok_bipush C (show decode cX11_comes 43 = .ok (.bipush 100, 2) by decide +kernel) (by decide) rfl, ?_⟩
  refine List.forall_mem_cons.mpr ⟨ok_icmpge C (show decode cX11_comes 45 = .ok (.if_icmp .ge 52, 3) by decide +kernel) (tg := 97) (by decide) rfl rfl, ?_⟩
  refine List.forall_mem_cons.mpr ⟨ok_iload C (show decode cX11_comes 48 = .ok (.iload 4, 2) by decide +kernel) rfl, ?_⟩
  refine List.forall_mem_cons.mpr ⟨ok_ifge C (show decode cX11_comes 50 = .ok (.ifCond .ge 47, 3) by decide +kernel) (tg := 97) (by decide) rfl rfl, ?_⟩
  refine List.forall_mem_cons.mpr ⟨ok_aload_n C (show decode cX11_comes 53 = .ok (.aload_n 0, 1) by decide +kernel) rfl rfl, ?_⟩
  refine List.forall_mem_cons.mpr ⟨ok_iconst C (show decode cX11_comes 54 = .ok (.iconst 1, 1) by decide +kernel) (by decide) rfl, ?_⟩
  refine List.forall_mem_cons.mpr ⟨ok_callV C h_X11_goesOn ⟨rfl, rfl⟩ rfl kw_1509 kw_1506 kw_1508 kp_81 kw_11 rfl ds_X11_goesOn ⟨by decide, by decide⟩ (show decode cX11_comes 55 = .ok (.invokevirtual 314, 3) by decide +kernel) rfl, ?_⟩
  refine List.forall_mem_cons.mpr ⟨ok_iconst C (show decode cX11_comes 58 = .ok (.iconst 1, 1) by decide +kernel) (by decide) rfl, ?_⟩
  refine List.forall_mem_cons.mpr ⟨ok_icmpne C (show decode cX11_comes 59 = .ok (.if_icmp .ne 38, 3) by decide +kernel) (tg := 97) (by decide) rfl rfl, ?_⟩
  refine List.forall_mem_cons.mpr ⟨ok_aload_n C (show decode cX11_comes 62 = .ok (.aload_n 0, 1) by decide +kernel) rfl rfl, ?_⟩
  refine List.forall_mem_cons.mpr ⟨ok_getf C (wi_X11) rfl (by decide) kw_1186 (show decode cX11_comes 63 = .ok (.getfield 33, 3) by decide +kernel) rfl, ?_⟩
  refine List.forall_mem_cons.mpr ⟨ok_sipush C (show decode cX11_comes 66 = .ok (.sipush 160, 3) by decide +kernel) (by decide) rfl, ?_⟩
  refine List.forall_mem_cons.mpr ⟨ok_iload_n C (show decode cX11_comes 69 = .ok (.iload_n 1, 1) by decide +kernel) rfl rfl, ?_⟩
  refine List.forall_mem_cons.mpr ⟨ok_iload_n C (show decode cX11_comes 70 = .ok (.iload_n 2, 1) by decide +kernel) rfl rfl, ?_⟩
  refine List.forall_mem_cons.mpr ⟨ok_callS C h_X11_cell ⟨rfl, rfl⟩ kw_1413 kw_1411 kw_1412 kw_11 ds_X11_cell ⟨by decide, by decide⟩ (show decode cX11_comes 71 = .ok (.invokestatic 245, 3) by decide +kernel) rfl, ?_⟩
  refine List.forall_mem_cons.mpr ⟨ok_iadd C (show decode cX11_comes 74 = .ok (.iadd, 1) by decide +kernel) rfl, ?_⟩
  refine List.forall_mem_cons.mpr ⟨ok_iaload C (show decode cX11_comes 75 = .ok (.iaload, 1) by decide +kernel) rfl, ?_⟩
  refine List.forall_mem_cons.mpr ⟨ok_iload_n C (show decode cX11_comes 76 = .ok (.iload_n 3, 1) by decide +kernel) rfl rfl, ?_⟩
  refine List.forall_mem_cons.mpr ⟨ok_icmple C (show decode cX11_comes 77 = .ok (.if_icmp .le 14, 3) by decide +kernel) (tg := 91) (by decide) rfl rfl, ?_⟩
  refine List.forall_mem_cons.mpr ⟨ok_aload_n C (show decode cX11_comes 80 = .ok (.aload_n 0, 1) by decide +kernel) rfl rfl, ?_⟩
  refine List.forall_mem_cons.mpr ⟨ok_getf C (wi_X11) rfl (by decide) kw_1186 (show decode cX11_comes 81 = .ok (.getfield 33, 3) by decide +kernel) rfl, ?_⟩
  refine List.forall_mem_cons.mpr ⟨ok_bipush C (show decode cX11_comes 84 = .ok (.bipush 120, 2) by decide +kernel) (by decide) rfl, ?_⟩
  refine List.forall_mem_cons.mpr ⟨ok_iaload C (show decode cX11_comes 86 = .ok (.iaload, 1) by decide +kernel) rfl, ?_⟩
  refine List.forall_mem_cons.mpr ⟨ok_iconst C (show decode cX11_comes 87 = .ok (.iconst 1, 1) by decide +kernel) (by decide) rfl, ?_⟩
  refine List.forall_mem_cons.mpr ⟨ok_isub C (show decode cX11_comes 88 = .ok (.isub, 1) by decide +kernel) rfl, ?_⟩
  refine List.forall_mem_cons.mpr ⟨ok_istore C (show decode cX11_comes 89 = .ok (.istore 4, 2) by decide +kernel) (by decide) rfl, ?_⟩
  refine List.forall_mem_cons.mpr ⟨ok_iinc C (show decode cX11_comes 91 = .ok (.iinc 5 1, 3) by decide +kernel) (by decide) (by decide) rfl, ?_⟩
  refine List.forall_mem_cons.mpr ⟨ok_goto C (show decode cX11_comes 94 = .ok (.goto (-53), 3) by decide +kernel) (tg := 41) (by decide) rfl, ?_⟩
  refine List.forall_mem_cons.mpr ⟨ok_aload_n C (show decode cX11_comes 97 = .ok (.aload_n 0, 1) by decide +kernel) rfl rfl, ?_⟩
  refine List.forall_mem_cons.mpr ⟨ok_callV C h_X11_back ⟨rfl, rfl⟩ rfl kw_1560 kw_1557 kw_1559 kp_87 kw_11 rfl ds_X11_back ⟨by decide, by decide⟩ (show decode cX11_comes 98 = .ok (.invokevirtual 320, 3) by decide +kernel) rfl, ?_⟩
  refine List.forall_mem_cons.mpr ⟨ok_iload C (show decode cX11_comes 101 = .ok (.iload 4, 2) by decide +kernel) rfl, ?_⟩
  refine List.forall_mem_cons.mpr ⟨ok_ret C rfl (show decode cX11_comes 103 = .ok (.ireturn, 1) by decide +kernel), ?_⟩
  exact fun _ h => absurd h List.not_mem_nil
def L_X11_without (f_X11_isPlace : List Value → ab_H → Option ab_O) (f_X11_isIn : List Value → ab_H → Option ab_O) (f_X11_tries : List Value → ab_H → Option ab_O) (f_X11_cell : List Value → ab_H → Option ab_O) (f_X11_goesOn : List Value → ab_H → Option ab_O) (f_X11_back : List Value → ab_H → Option ab_O) : List (Nat × ab_A) := [
  (0, ab_nx 1 (ab_aload 0)),
  (1, ab_nx 2 (ab_lit (.int 0))),
  (2, ab_nx 5 (ab_putf 11 0 0)),
  (5, ab_nx 6 (ab_aload 0)),
  (6, ab_nx 7 (ab_iload 1)),
  (7, ab_nx 8 (ab_iload 2)),
  (8, ab_nx 11 (ab_callV 3 11 f_X11_isPlace 0 0 0 0)),
  (11, ab_if 14 36 (fun x => decide (x = 0))),
  (14, ab_nx 15 (ab_iload 3)),
  (15, ab_nx 16 (ab_lit (.int 1))),
  (16, ab_nx 19 (ab_lit (.int 250))),
  (19, ab_nx 22 (ab_call 3 f_X11_isIn 0 0 0 0)),
  (22, ab_if 25 36 (fun x => decide (x = 0))),
  (25, ab_nx 27 (ab_iload 4)),
  (27, ab_nx 28 (ab_lit (.int 1))),
  (28, ab_nx 30 (ab_lit (.int 60))),
  (30, ab_nx 33 (ab_call 3 f_X11_isIn 0 0 0 0)),
  (33, ab_if 36 38 (fun x => !decide (x = 0))),
  (36, ab_nx 37 (ab_lit (.int (-1)))),
  (37, ab_ret 0 0),
  (38, ab_nx 39 (ab_aload 0)),
  (39, ab_nx 42 (ab_callV 1 11 f_X11_tries 0 0 0 0)),
  (42, ab_nx 43 (ab_iload 1)),
  (43, ab_nx 44 (ab_iload 2)),
  (44, ab_nx 47 (ab_call 2 f_X11_cell 0 0 0 0)),
  (47, ab_nx 49 (ab_istore 5)),
  (49, ab_nx 50 (ab_aload 0)),
  (50, ab_nx 53 (ab_getf 11 6)),
  (53, ab_nx 56 (ab_lit (.int 160))),
  (56, ab_nx 58 (ab_iload 5)),
  (58, ab_nx 59 (ab_bin (fun x y => x + y))),
  (59, ab_nx 60 (ab_ald 1)),
  (60, ab_nx 62 (ab_istore 6)),
  (62, ab_nx 63 (ab_aload 0)),
  (63, ab_nx 66 (ab_getf 11 6)),
  (66, ab_nx 68 (ab_lit (.int 124))),
  (68, ab_nx 70 (ab_iload 5)),
  (70, ab_nx 71 (ab_bin (fun x y => x + y))),
  (71, ab_nx 72 (ab_ald 1)),
  (72, ab_nx 74 (ab_istore 7)),
  (74, ab_nx 75 (ab_lit (.int (-1)))),
  (75, ab_nx 77 (ab_istore 8)),
  (77, ab_nx 78 (ab_lit (.int 0))),
  (78, ab_nx 80 (ab_istore 9)),
  (80, ab_nx 82 (ab_iload 9)),
  (82, ab_nx 84 (ab_iload 7)),
  (84, ab_icmp 87 146 (fun x y => decide (y < x))),
  (87, ab_nx 89 (ab_iload 8)),
  (89, ab_if 92 146 (fun x => decide (0 ≤ x))),
  (92, ab_nx 93 (ab_aload 0)),
  (93, ab_nx 96 (ab_getf 11 6)),
  (96, ab_nx 98 (ab_lit (.int 124))),
  (98, ab_nx 100 (ab_iload 5)),
  (100, ab_nx 101 (ab_bin (fun x y => x + y))),
  (101, ab_nx 102 ab_dup2),
  (102, ab_nx 103 (ab_ald 1)),
  (103, ab_nx 105 (ab_iload 9)),
  (105, ab_nx 106 (ab_bin (fun x y => x - y))),
  (106, ab_nx 107 (ab_ast 1)),
  (107, ab_nx 108 (ab_aload 0)),
  (108, ab_nx 110 (ab_iload 4)),
  (110, ab_nx 113 (ab_callV 2 11 f_X11_goesOn 0 0 0 0)),
  (113, ab_nx 114 ab_pop),
  (114, ab_nx 115 (ab_aload 0)),
  (115, ab_nx 118 (ab_getf 11 6)),
  (118, ab_nx 121 (ab_lit (.int 160))),
  (121, ab_nx 123 (ab_iload 5)),
  (123, ab_nx 124 (ab_bin (fun x y => x + y))),
  (124, ab_nx 125 (ab_ald 1)),
  (125, ab_nx 127 (ab_iload 6)),
  (127, ab_nx 128 (ab_bin (fun x y => x - y))),
  (128, ab_nx 129 (ab_iload 3)),
  (129, ab_icmp 132 136 (fun x y => decide (x < y))),
  (132, ab_nx 134 (ab_iload 9)),
  (134, ab_nx 136 (ab_istore 8)),
  (136, ab_nx 137 (ab_aload 0)),
  (137, ab_nx 140 (ab_callV 1 11 f_X11_back 0 0 0 0)),
  (140, ab_nx 143 (ab_iinc 9 1)),
  (143, ab_goto 80),
  (146, ab_nx 148 (ab_iload 8)),
  (148, ab_ret 0 0)]
set_option maxRecDepth 100000 in
set_option maxHeartbeats 4000000 in
theorem M_X11_without {l : Launch} {b : ab_B} {D : va_G} {cA : Nat → ClassId} {f_X11_isPlace : List Value → ab_H → Option ab_O} (h_X11_isPlace : ab_M l b D ab_cl cA (ab_E0 b) yX11_isPlace (Cond.code yX11_isPlace cX11_isPlace 3 (some .boolean) :: ab_G) ({ frames := 3, cells := 0, slots := 0, locals := 300 } : Room) f_X11_isPlace) {f_X11_isIn : List Value → ab_H → Option ab_O} (h_X11_isIn : ab_M l b D ab_cl cA (ab_E0 b) yX11_isIn (Cond.code yX11_isIn cX11_isIn 3 (some .boolean) :: ab_G) ({ frames := 1, cells := 0, slots := 0, locals := 100 } : Room) f_X11_isIn) {f_X11_tries : List Value → ab_H → Option ab_O} (h_X11_tries : ab_M l b D ab_cl cA (ab_E0 b) yX11_tries (Cond.code yX11_tries cX11_tries 2 none :: ab_G) ({ frames := 1, cells := 0, slots := 0, locals := 100 } : Room) f_X11_tries) {f_X11_cell : List Value → ab_H → Option ab_O} (h_X11_cell : ab_M l b D ab_cl cA (ab_E0 b) yX11_cell (Cond.code yX11_cell cX11_cell 2 (some .int) :: ab_G) ({ frames := 1, cells := 0, slots := 0, locals := 100 } : Room) f_X11_cell) {f_X11_goesOn : List Value → ab_H → Option ab_O} (h_X11_goesOn : ab_M l b D ab_cl cA (ab_E0 b) yX11_goesOn (Cond.code yX11_goesOn cX11_goesOn 3 (some .int) :: ab_G) ({ frames := 8, cells := 0, slots := 0, locals := 800 } : Room) f_X11_goesOn) {f_X11_back : List Value → ab_H → Option ab_O} (h_X11_back : ab_M l b D ab_cl cA (ab_E0 b) yX11_back (Cond.code yX11_back cX11_back 2 none :: ab_G) ({ frames := 1, cells := 0, slots := 0, locals := 100 } : Room) f_X11_back) : ab_M l b D ab_cl cA (ab_E0 b) yX11_without (Cond.code yX11_without cX11_without 10 (some .int) :: ab_G) ({ frames := 9, cells := 0, slots := 0, locals := 900 } : Room) (ab_X (ab_T (L_X11_without f_X11_isPlace f_X11_isIn f_X11_tries f_X11_cell f_X11_goesOn f_X11_back)) 10) := by
  refine ab_meth (ret := (some .int)) (L_X11_without f_X11_isPlace f_X11_isIn f_X11_tries f_X11_cell f_X11_goesOn f_X11_back) (by decide) rfl fun p e R s m args below meth c o C => ?_
  unfold L_X11_without
  refine List.forall_mem_cons.mpr ⟨ok_aload_n C (show decode cX11_without 0 = .ok (.aload_n 0, 1) by decide +kernel) rfl rfl, ?_⟩
  refine List.forall_mem_cons.mpr ⟨ok_iconst C (show decode cX11_without 1 = .ok (.iconst 0, 1) by decide +kernel) (by decide) rfl, ?_⟩
  refine List.forall_mem_cons.mpr ⟨ok_putf C (wi_X11) tyX11 tyX11_ok nmX11 rfl (by decide) kw_1180 (Or.inl rfl) (Or.inl ⟨rfl, rfl⟩) (show decode cX11_without 2 = .ok (.putfield 1, 3) by decide +kernel) rfl, ?_⟩
  refine List.forall_mem_cons.mpr ⟨ok_aload_n C (show decode cX11_without 5 = .ok (.aload_n 0, 1) by decide +kernel) rfl rfl, ?_⟩
  refine List.forall_mem_cons.mpr ⟨ok_iload_n C (show decode cX11_without 6 = .ok (.iload_n 1, 1) by decide +kernel) rfl rfl, ?_⟩
  refine List.forall_mem_cons.mpr ⟨ok_iload_n C (show decode cX11_without 7 = .ok (.iload_n 2, 1) by decide +kernel) rfl rfl, ?_⟩
  refine List.forall_mem_cons.mpr ⟨ok_callV C h_X11_isPlace ⟨rfl, rfl⟩ rfl kw_1402 kw_1399 kw_1401 kp_64 kw_11 rfl ds_X11_isPlace ⟨by decide, by decide⟩ (show decode cX11_without 8 = .ok (.invokevirtual 251, 3) by decide +kernel) rfl, ?_⟩
  refine List.forall_mem_cons.mpr ⟨ok_ifeq C (show decode cX11_without 11 = .ok (.ifCond .eq 25, 3) by decide +kernel) (tg := 36) (by decide) rfl rfl, ?_⟩
  refine List.forall_mem_cons.mpr ⟨ok_iload_n C (show decode cX11_without 14 = .ok (.iload_n 3, 1) by decide +kernel) rfl rfl, ?_⟩
  refine List.forall_mem_cons.mpr ⟨ok_iconst C (show decode cX11_without 15 = .ok (.iconst 1, 1) by decide +kernel) (by decide) rfl, ?_⟩
  refine List.forall_mem_cons.mpr ⟨ok_sipush C (show decode cX11_without 16 = .ok (.sipush 250, 3) by decide +kernel) (by decide) rfl, ?_⟩
  refine List.forall_mem_cons.mpr ⟨ok_callS C h_X11_isIn ⟨rfl, rfl⟩ kw_1355 kw_1353 kw_1354 kw_11 ds_X11_isIn ⟨by decide, by decide⟩ (show decode cX11_without 19 = .ok (.invokestatic 179, 3) by decide +kernel) rfl, ?_⟩
  refine List.forall_mem_cons.mpr ⟨ok_ifeq C (show decode cX11_without 22 = .ok (.ifCond .eq 14, 3) by decide +kernel) (tg := 36) (by decide) rfl rfl, ?_⟩
  refine List.forall_mem_cons.mpr ⟨ok_iload C (show decode cX11_without 25 = .ok (.iload 4, 2) by decide +kernel) rfl, ?_⟩
  refine List.forall_mem_cons.mpr ⟨ok_iconst C (show decode cX11_without 27 = .ok (.iconst 1, 1) by decide +kernel) (by decide) rfl, ?_⟩
  refine List.forall_mem_cons.mpr ⟨ok_bipush C (show decode cX11_without 28 = .ok (.bipush 60, 2) by decide +kernel) (by decide) rfl, ?_⟩
  refine List.forall_mem_cons.mpr ⟨ok_callS C h_X11_isIn ⟨rfl, rfl⟩ kw_1355 kw_1353 kw_1354 kw_11 ds_X11_isIn ⟨by decide, by decide⟩ (show decode cX11_without 30 = .ok (.invokestatic 179, 3) by decide +kernel) rfl, ?_⟩
  refine List.forall_mem_cons.mpr ⟨ok_ifne C (show decode cX11_without 33 = .ok (.ifCond .ne 5, 3) by decide +kernel) (tg := 38) (by decide) rfl rfl, ?_⟩
  refine List.forall_mem_cons.mpr ⟨ok_iconst C (show decode cX11_without 36 = .ok (.iconst (-1), 1) by decide +kernel) (by decide) rfl, ?_⟩
  refine List.forall_mem_cons.mpr ⟨ok_ret C rfl (show decode cX11_without 37 = .ok (.ireturn, 1) by decide +kernel), ?_⟩
  refine List.forall_mem_cons.mpr ⟨ok_aload_n C (show decode cX11_without 38 = .ok (.aload_n 0, 1) by decide +kernel) rfl rfl, ?_⟩
  refine List.forall_mem_cons.mpr ⟨ok_callV C h_X11_tries ⟨rfl, rfl⟩ rfl kw_1556 kw_1553 kw_1555 kp_86 kw_11 rfl ds_X11_tries ⟨by decide, by decide⟩ (show decode cX11_without 39 = .ok (.invokevirtual 317, 3) by decide +kernel) rfl, ?_⟩
  refine List.forall_mem_cons.mpr ⟨ok_iload_n C (show decode cX11_without 42 = .ok (.iload_n 1, 1) by decide +kernel) rfl rfl, ?_⟩
  refine List.forall_mem_cons.mpr ⟨ok_iload_n C (show decode cX11_without 43 = .ok (.iload_n 2, 1) by decide +kernel) rfl rfl, ?_⟩
  refine List.forall_mem_cons.mpr ⟨ok_callS C h_X11_cell ⟨rfl, rfl⟩ kw_1413 kw_1411 kw_1412 kw_11 ds_X11_cell ⟨by decide, by decide⟩ (show decode cX11_without 44 = .ok (.invokestatic 245, 3) by decide +kernel) rfl, ?_⟩
  refine List.forall_mem_cons.mpr ⟨ok_istore C (show decode cX11_without 47 = .ok (.istore 5, 2) by decide +kernel) (by decide) rfl, ?_⟩
  refine List.forall_mem_cons.mpr ⟨ok_aload_n C (show decode cX11_without 49 = .ok (.aload_n 0, 1) by decide +kernel) rfl rfl, ?_⟩
  refine List.forall_mem_cons.mpr ⟨ok_getf C (wi_X11) rfl (by decide) kw_1186 (show decode cX11_without 50 = .ok (.getfield 33, 3) by decide +kernel) rfl, ?_⟩
  refine List.forall_mem_cons.mpr ⟨ok_sipush C (show decode cX11_without 53 = .ok (.sipush 160, 3) by decide +kernel) (by decide) rfl, ?_⟩
  refine List.forall_mem_cons.mpr ⟨ok_iload C (show decode cX11_without 56 = .ok (.iload 5, 2) by decide +kernel) rfl, ?_⟩
  refine List.forall_mem_cons.mpr ⟨ok_iadd C (show decode cX11_without 58 = .ok (.iadd, 1) by decide +kernel) rfl, ?_⟩
  refine List.forall_mem_cons.mpr ⟨ok_iaload C (show decode cX11_without 59 = .ok (.iaload, 1) by decide +kernel) rfl, ?_⟩
  refine List.forall_mem_cons.mpr ⟨ok_istore C (show decode cX11_without 60 = .ok (.istore 6, 2) by decide +kernel) (by decide) rfl, ?_⟩
  refine List.forall_mem_cons.mpr ⟨ok_aload_n C (show decode cX11_without 62 = .ok (.aload_n 0, 1) by decide +kernel) rfl rfl, ?_⟩
  refine List.forall_mem_cons.mpr ⟨ok_getf C (wi_X11) rfl (by decide) kw_1186 (show decode cX11_without 63 = .ok (.getfield 33, 3) by decide +kernel) rfl, ?_⟩
  refine List.forall_mem_cons.mpr ⟨ok_bipush C (show decode cX11_without 66 = .ok (.bipush 124, 2) by decide +kernel) (by decide) rfl, ?_⟩
  refine List.forall_mem_cons.mpr ⟨ok_iload C (show decode cX11_without 68 = .ok (.iload 5, 2) by decide +kernel) rfl, ?_⟩
  refine List.forall_mem_cons.mpr ⟨ok_iadd C (show decode cX11_without 70 = .ok (.iadd, 1) by decide +kernel) rfl, ?_⟩
  refine List.forall_mem_cons.mpr ⟨ok_iaload C (show decode cX11_without 71 = .ok (.iaload, 1) by decide +kernel) rfl, ?_⟩
  refine List.forall_mem_cons.mpr ⟨ok_istore C (show decode cX11_without 72 = .ok (.istore 7, 2) by decide +kernel) (by decide) rfl, ?_⟩
  refine List.forall_mem_cons.mpr ⟨ok_iconst C (show decode cX11_without 74 = .ok (.iconst (-1), 1) by decide +kernel) (by decide) rfl, ?_⟩
  refine List.forall_mem_cons.mpr ⟨ok_istore C (show decode cX11_without 75 = .ok (.istore 8, 2) by decide +kernel) (by decide) rfl, ?_⟩
  refine List.forall_mem_cons.mpr ⟨ok_iconst C (show decode cX11_without 77 = .ok (.iconst 0, 1) by decide +kernel) (by decide) rfl, ?_⟩
  refine List.forall_mem_cons.mpr ⟨ok_istore C (show decode cX11_without 78 = .ok (.istore 9, 2) by decide +kernel) (by decide) rfl, ?_⟩
  refine List.forall_mem_cons.mpr ⟨ok_iload C (show decode cX11_without 80 = .ok (.iload 9, 2) by decide +kernel) rfl, ?_⟩
  refine List.forall_mem_cons.mpr ⟨ok_iload C (show decode cX11_without 82 = .ok (.iload 7, 2) by decide +kernel) rfl, ?_⟩
  refine List.forall_mem_cons.mpr ⟨ok_icmpgt C (show decode cX11_without 84 = .ok (.if_icmp .gt 62, 3) by decide +kernel) (tg := 146) (by decide) rfl rfl, ?_⟩
  refine List.forall_mem_cons.mpr ⟨ok_iload C (show decode cX11_without 87 = .ok (.iload 8, 2) by decide +kernel) rfl, ?_⟩
  refine List.forall_mem_cons.mpr ⟨ok_ifge C (show decode cX11_without 89 = .ok (.ifCond .ge 57, 3) by decide +kernel) (tg := 146) (by decide) rfl rfl, ?_⟩
  refine List.forall_mem_cons.mpr ⟨ok_aload_n C (show decode cX11_without 92 = .ok (.aload_n 0, 1) by decide +kernel) rfl rfl, ?_⟩
  refine List.forall_mem_cons.mpr ⟨ok_getf C (wi_X11) rfl (by decide) kw_1186 (show decode cX11_without 93 = .ok (.getfield 33, 3) by decide +kernel) rfl, ?_⟩
  refine List.forall_mem_cons.mpr ⟨ok_bipush C (show decode cX11_without 96 = .ok (.bipush 124, 2) by decide +kernel) (by decide) rfl, ?_⟩
  refine List.forall_mem_cons.mpr ⟨ok_iload C (show decode cX11_without 98 = .ok (.iload 5, 2) by decide +kernel) rfl, ?_⟩
  refine List.forall_mem_cons.mpr ⟨ok_iadd C (show decode cX11_without 100 = .ok (.iadd, 1) by decide +kernel) rfl, ?_⟩
  refine List.forall_mem_cons.mpr ⟨ok_dup2 C (show decode cX11_without 101 = .ok (.dup2, 1) by decide +kernel) rfl, ?_⟩
  refine List.forall_mem_cons.mpr ⟨ok_iaload C (show decode cX11_without 102 = .ok (.iaload, 1) by decide +kernel) rfl, ?_⟩
  refine List.forall_mem_cons.mpr ⟨ok_iload C (show decode cX11_without 103 = .ok (.iload 9, 2) by decide +kernel) rfl, ?_⟩
  refine List.forall_mem_cons.mpr ⟨ok_isub C (show decode cX11_without 105 = .ok (.isub, 1) by decide +kernel) rfl, ?_⟩
  refine List.forall_mem_cons.mpr ⟨ok_iastore C (show decode cX11_without 106 = .ok (.iastore, 1) by decide +kernel) rfl, ?_⟩
  refine List.forall_mem_cons.mpr ⟨ok_aload_n C (show decode cX11_without 107 = .ok (.aload_n 0, 1) by decide +kernel) rfl rfl, ?_⟩
  refine List.forall_mem_cons.mpr ⟨ok_iload C (show decode cX11_without 108 = .ok (.iload 4, 2) by decide +kernel) rfl, ?_⟩
  refine List.forall_mem_cons.mpr ⟨ok_callV C h_X11_goesOn ⟨rfl, rfl⟩ rfl kw_1509 kw_1506 kw_1508 kp_81 kw_11 rfl ds_X11_goesOn ⟨by decide, by decide⟩ (show decode cX11_without 110 = .ok (.invokevirtual 314, 3) by decide +kernel) rfl, ?_⟩
  refine List.forall_mem_cons.mpr ⟨ok_pop C (show decode cX11_without 113 = .ok (.pop, 1) by decide +kernel) rfl, ?_⟩
  refine List.forall_mem_cons.mpr ⟨ok_aload_n C (show decode cX11_without 114 = .ok (.aload_n 0, 1) by decide +kernel) rfl rfl, ?_⟩
  refine List.forall_mem_cons.mpr ⟨ok_getf C (wi_X11) rfl (by decide) kw_1186 (show decode cX11_without 115 = .ok (.getfield 33, 3) by decide +kernel) rfl, ?_⟩
  refine List.forall_mem_cons.mpr ⟨ok_sipush C (show decode cX11_without 118 = .ok (.sipush 160, 3) by decide +kernel) (by decide) rfl, ?_⟩
  refine List.forall_mem_cons.mpr ⟨ok_iload C (show decode cX11_without 121 = .ok (.iload 5, 2) by decide +kernel) rfl, ?_⟩
  refine List.forall_mem_cons.mpr ⟨ok_iadd C (show decode cX11_without 123 = .ok (.iadd, 1) by decide +kernel) rfl, ?_⟩
  refine List.forall_mem_cons.mpr ⟨ok_iaload C (show decode cX11_without 124 = .ok (.iaload, 1) by decide +kernel) rfl, ?_⟩
  refine List.forall_mem_cons.mpr ⟨ok_iload C (show decode cX11_without 125 = .ok (.iload 6, 2) by decide +kernel) rfl, ?_⟩
  refine List.forall_mem_cons.mpr ⟨ok_isub C (show decode cX11_without 127 = .ok (.isub, 1) by decide +kernel) rfl, ?_⟩
  refine List.forall_mem_cons.mpr ⟨ok_iload_n C (show decode cX11_without 128 = .ok (.iload_n 3, 1) by decide +kernel) rfl rfl, ?_⟩
  refine List.forall_mem_cons.mpr ⟨ok_icmplt C (show decode cX11_without 129 = .ok (.if_icmp .lt 7, 3) by decide +kernel) (tg := 136) (by decide) rfl rfl, ?_⟩
  refine List.forall_mem_cons.mpr ⟨ok_iload C (show decode cX11_without 132 = .ok (.iload 9, 2) by decide +kernel) rfl, ?_⟩
  refine List.forall_mem_cons.mpr ⟨ok_istore C (show decode cX11_without 134 = .ok (.istore 8, 2) by decide +kernel) (by decide) rfl, ?_⟩
  refine List.forall_mem_cons.mpr ⟨ok_aload_n C (show decode cX11_without 136 = .ok (.aload_n 0, 1) by decide +kernel) rfl rfl, ?_⟩
  refine List.forall_mem_cons.mpr ⟨ok_callV C h_X11_back ⟨rfl, rfl⟩ rfl kw_1560 kw_1557 kw_1559 kp_87 kw_11 rfl ds_X11_back ⟨by decide, by decide⟩ (show decode cX11_without 137 = .ok (.invokevirtual 320, 3) by decide +kernel) rfl, ?_⟩
  refine List.forall_mem_cons.mpr ⟨ok_iinc C (show decode cX11_without 140 = .ok (.iinc 9 1, 3) by decide +kernel) (by decide) (by decide) rfl, ?_⟩
  refine List.forall_mem_cons.mpr ⟨ok_goto C (show decode cX11_without 143 = .ok (.goto (-63), 3) by decide +kernel) (tg := 80) (by decide) rfl, ?_⟩
  refine List.forall_mem_cons.mpr ⟨ok_iload C (show decode cX11_without 146 = .ok (.iload 8, 2) by decide +kernel) rfl, ?_⟩
  refine List.forall_mem_cons.mpr ⟨ok_ret C rfl (show decode cX11_without 148 = .ok (.ireturn, 1) by decide +kernel), ?_⟩
  exact fun _ h => absurd h List.not_mem_nil
