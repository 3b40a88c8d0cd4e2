def L_X11_missedBy (f_X11_doesMiss : List Value → ab_H → Option ab_O) : List (Nat × ab_A) := [
  (0, ab_nx 1 (ab_lit (.int 0))),
  (1, ab_nx 2 (ab_istore 2)),
  (2, ab_nx 3 (ab_lit (.int 0))),
  (3, ab_nx 4 (ab_istore 3)),
  (4, ab_nx 5 (ab_iload 3)),
  (5, ab_nx 6 (ab_aload 0)),
  (6, ab_nx 9 (ab_getf 11 6)),
  (9, ab_nx 10 (ab_lit (.int 1))),
  (10, ab_nx 11 (ab_ald 1)),
  (11, ab_icmp 14 39 (fun x y => decide (y ≤ x))),
  (14, ab_nx 15 (ab_iload 2)),
  (15, ab_nx 16 (ab_aload 0)),
  (16, ab_nx 17 (ab_iload 3)),
  (17, ab_nx 18 (ab_iload 1)),
  (18, ab_nx 21 (ab_callV 3 11 f_X11_doesMiss 0 0 0 0)),
  (21, ab_if 24 30 (fun x => decide (x = 0))),
  (24, ab_nx 25 (ab_lit (.int 1))),
  (25, ab_nx 26 (ab_iload 3)),
  (26, ab_nx 27 (ab_bin (fun x y => x <<< (y &&& 31)))),
  (27, ab_goto 31),
  (30, ab_nx 31 (ab_lit (.int 0))),
  (31, ab_nx 32 (ab_bin (fun x y => x ||| y))),
  (32, ab_nx 33 (ab_istore 2)),
  (33, ab_nx 36 (ab_iinc 3 1)),
  (36, ab_goto 4),
  (39, ab_nx 40 (ab_iload 2)),
  (40, ab_ret 0 0)]
set_option maxRecDepth 100000 in
set_option maxHeartbeats 4000000 in
theorem M_X11_missedBy {l : Launch} {b : ab_B} {D : va_G} {cA : Nat → ClassId} {f_X11_doesMiss : List Value → ab_H → Option ab_O} (h_X11_doesMiss : ab_M l b D ab_cl cA (ab_E0 b) yX11_doesMiss (Cond.code yX11_doesMiss cX11_doesMiss 4 (some .boolean) :: ab_G) ({ frames := 4, cells := 0, slots := 0, locals := 400 } : Room) f_X11_doesMiss) : ab_M l b D ab_cl cA (ab_E0 b) yX11_missedBy (Cond.code yX11_missedBy cX11_missedBy 4 (some .int) :: ab_G) ({ frames := 5, cells := 0, slots := 0, locals := 500 } : Room) (ab_X (ab_T (L_X11_missedBy f_X11_doesMiss)) 4) := by
  refine ab_meth (ret := (some .int)) (L_X11_missedBy f_X11_doesMiss) (by decide) rfl fun p e R s m args below meth c o C => ?_
  unfold L_X11_missedBy
  refine List.forall_mem_cons.mpr ⟨ok_iconst C (show decode cX11_missedBy 0 = .ok (.iconst 0, 1) by decide +kernel) (by decide) rfl, ?_⟩
  refine List.forall_mem_cons.mpr ⟨ok_istore_n C (show decode cX11_missedBy 1 = .ok (.istore_n 2, 1) by decide +kernel) rfl (by decide) rfl, ?_⟩
  refine List.forall_mem_cons.mpr ⟨ok_iconst C (show decode cX11_missedBy 2 = .ok (.iconst 0, 1) by decide +kernel) (by decide) rfl, ?_⟩
  refine List.forall_mem_cons.mpr ⟨ok_istore_n C (show decode cX11_missedBy 3 = .ok (.istore_n 3, 1) by decide +kernel) rfl (by decide) rfl, ?_⟩
  refine List.forall_mem_cons.mpr ⟨ok_iload_n C (show decode cX11_missedBy 4 = .ok (.iload_n 3, 1) by decide +kernel) rfl rfl, ?_⟩
  refine List.forall_mem_cons.mpr ⟨ok_aload_n C (show decode cX11_missedBy 5 = .ok (.aload_n 0, 1) by decide +kernel) rfl rfl, ?_⟩
  refine List.forall_mem_cons.mpr ⟨ok_getf C (wi_X11) rfl (by decide) kw_1186 (show decode cX11_missedBy 6 = .ok (.getfield 33, 3) by decide +kernel) rfl, ?_⟩
  refine List.forall_mem_cons.mpr ⟨ok_iconst C (show decode cX11_missedBy 9 = .ok (.iconst 1, 1) by decide +kernel) (by decide) rfl, ?_⟩
  refine List.forall_mem_cons.mpr ⟨ok_iaload C (show decode cX11_missedBy 10 = .ok (.iaload, 1) by decide +kernel) rfl, ?_⟩
  refine List.forall_mem_cons.mpr ⟨ok_icmpge C (show decode cX11_missedBy 11 = .ok (.if_icmp .ge 28, 3) by decide +kernel) (tg := 39) (by decide) rfl rfl, ?_⟩
  refine List.forall_mem_cons.mpr ⟨ok_iload_n C (show decode cX11_missedBy 14 = .ok (.iload_n 2, 1) by decide +kernel) rfl rfl, ?_⟩
  refine List.forall_mem_cons.mpr ⟨ok_aload_n C (show decode cX11_missedBy 15 = .ok (.aload_n 0, 1) by decide +kernel) rfl rfl, ?_⟩
  refine List.forall_mem_cons.mpr ⟨ok_iload_n C (show decode cX11_missedBy 16 = .ok (.iload_n 3, 1) by decide +kernel) rfl rfl, ?_⟩
  refine List.forall_mem_cons.mpr ⟨ok_iload_n C (show decode cX11_missedBy 17 = .ok (.iload_n 1, 1) by decide +kernel) rfl rfl, ?_⟩
  refine List.forall_mem_cons.mpr ⟨ok_callV C h_X11_doesMiss ⟨rfl, rfl⟩ rfl kw_1449 kw_1446 kw_1448 kp_73 kw_11 rfl ds_X11_doesMiss ⟨by decide, by decide⟩ (show decode cX11_missedBy 18 = .ok (.invokevirtual 263, 3) by decide +kernel) rfl, ?_⟩
  refine List.forall_mem_cons.mpr ⟨ok_ifeq C (show decode cX11_missedBy 21 = .ok (.ifCond .eq 9, 3) by decide +kernel) (tg := 30) (by decide) rfl rfl, ?_⟩
  refine List.forall_mem_cons.mpr ⟨ok_iconst C (show decode cX11_missedBy 24 = .ok (.iconst 1, 1) by decide +kernel) (by decide) rfl, ?_⟩
  refine List.forall_mem_cons.mpr ⟨ok_iload_n C (show decode cX11_missedBy 25 = .ok (.iload_n 3, 1) by decide +kernel) rfl rfl, ?_⟩
  refine List.forall_mem_cons.mpr ⟨ok_ishl C (show decode cX11_missedBy 26 = .ok (.ishl, 1) by decide +kernel) rfl, ?_⟩
  refine List.forall_mem_cons.mpr ⟨ok_goto C (show decode cX11_missedBy 27 = .ok (.goto 4, 3) by decide +kernel) (tg := 31) (by decide) rfl, ?_⟩
  refine List.forall_mem_cons.mpr ⟨ok_iconst C (show decode cX11_missedBy 30 = .ok (.iconst 0, 1) by decide +kernel) (by decide) rfl, ?_⟩
  refine List.forall_mem_cons.mpr ⟨ok_ior C (show decode cX11_missedBy 31 = .ok (.ior, 1) by decide +kernel) rfl, ?_⟩
  refine List.forall_mem_cons.mpr ⟨ok_istore_n C (show decode cX11_missedBy 32 = .ok (.istore_n 2, 1) by decide +kernel) rfl (by decide) rfl, ?_⟩
  refine List.forall_mem_cons.mpr ⟨ok_iinc C (show decode cX11_missedBy 33 = .ok (.iinc 3 1, 3) by decide +kernel) (by decide) (by decide) rfl, ?_⟩
  refine List.forall_mem_cons.mpr ⟨ok_goto C (show decode cX11_missedBy 36 = .ok (.goto (-32), 3) by decide +kernel) (tg := 4) (by decide) rfl, ?_⟩
  refine List.forall_mem_cons.mpr ⟨ok_iload_n C (show decode cX11_missedBy 39 = .ok (.iload_n 2, 1) by decide +kernel) rfl rfl, ?_⟩
  refine List.forall_mem_cons.mpr ⟨ok_ret C rfl (show decode cX11_missedBy 40 = .ok (.ireturn, 1) by decide +kernel), ?_⟩
  exact fun _ h => absurd h List.not_mem_nil
def L_X11_missesOf (f_X11_doesMiss : List Value → ab_H → Option ab_O) : List (Nat × ab_A) := [
  (0, ab_nx 1 (ab_lit (.int 0))),
  (1, ab_nx 2 (ab_istore 2)),
  (2, ab_nx 3 (ab_lit (.int 0))),
  (3, ab_nx 4 (ab_istore 3)),
  (4, ab_nx 5 (ab_iload 3)),
  (5, ab_nx 6 (ab_aload 0)),
  (6, ab_nx 9 (ab_getf 11 6)),
  (9, ab_nx 10 (ab_lit (.int 1))),
  (10, ab_nx 11 (ab_ald 1)),
  (11, ab_icmp 14 39 (fun x y => decide (y ≤ x))),
  (14, ab_nx 15 (ab_iload 2)),
  (15, ab_nx 16 (ab_aload 0)),
  (16, ab_nx 17 (ab_iload 1)),
  (17, ab_nx 18 (ab_iload 3)),
  (18, ab_nx 21 (ab_callV 3 11 f_X11_doesMiss 0 0 0 0)),
  (21, ab_if 24 30 (fun x => decide (x = 0))),
  (24, ab_nx 25 (ab_lit (.int 1))),
  (25, ab_nx 26 (ab_iload 3)),
  (26, ab_nx 27 (ab_bin (fun x y => x <<< (y &&& 31)))),
  (27, ab_goto 31),
  (30, ab_nx 31 (ab_lit (.int 0))),
  (31, ab_nx 32 (ab_bin (fun x y => x ||| y))),
  (32, ab_nx 33 (ab_istore 2)),
  (33, ab_nx 36 (ab_iinc 3 1)),
  (36, ab_goto 4),
  (39, ab_nx 40 (ab_iload 2)),
  (40, ab_ret 0 0)]
set_option maxRecDepth 100000 in
set_option maxHeartbeats 4000000 in
theorem M_X11_missesOf {l : Launch} {b : ab_B} {D : va_G} {cA : Nat → ClassId} {f_X11_doesMiss : List Value → ab_H → Option ab_O} (h_X11_doesMiss : ab_M l b D ab_cl cA (ab_E0 b) yX11_doesMiss (Cond.code yX11_doesMiss cX11_doesMiss 4 (some .boolean) :: ab_G) ({ frames := 4, cells := 0, slots := 0, locals := 400 } : Room) f_X11_doesMiss) : ab_M l b D ab_cl cA (ab_E0 b) yX11_missesOf (Cond.code yX11_missesOf cX11_missesOf 4 (some .int) :: ab_G) ({ frames := 5, cells := 0, slots := 0, locals := 500 } : Room) (ab_X (ab_T (L_X11_missesOf f_X11_doesMiss)) 4) := by
  refine ab_meth (ret := (some .int)) (L_X11_missesOf f_X11_doesMiss) (by decide) rfl fun p e R s m args below meth c o C => ?_
  unfold L_X11_missesOf
  refine List.forall_mem_cons.mpr ⟨ok_iconst C (show decode cX11_missesOf 0 = .ok (.iconst 0, 1) by decide +kernel) (by decide) rfl, ?_⟩
  refine List.forall_mem_cons.mpr ⟨ok_istore_n C (show decode cX11_missesOf 1 = .ok (.istore_n 2, 1) by decide +kernel) rfl (by decide) rfl, ?_⟩
  refine List.forall_mem_cons.mpr ⟨ok_iconst C (show decode cX11_missesOf 2 = .ok (.iconst 0, 1) by decide +kernel) (by decide) rfl, ?_⟩
  refine List.forall_mem_cons.mpr ⟨ok_istore_n C (show decode cX11_missesOf 3 = .ok (.istore_n 3, 1) by decide +kernel) rfl (by decide) rfl, ?_⟩
  refine List.forall_mem_cons.mpr ⟨ok_iload_n C (show decode cX11_missesOf 4 = .ok (.iload_n 3, 1) by decide +kernel) rfl rfl, ?_⟩
  refine List.forall_mem_cons.mpr ⟨ok_aload_n C (show decode cX11_missesOf 5 = .ok (.aload_n 0, 1) by decide +kernel) rfl rfl, ?_⟩
  refine List.forall_mem_cons.mpr ⟨ok_getf C (wi_X11) rfl (by decide) kw_1186 (show decode cX11_missesOf 6 = .ok (.getfield 33, 3) by decide +kernel) rfl, ?_⟩
  refine List.forall_mem_cons.mpr ⟨ok_iconst C (show decode cX11_missesOf 9 = .ok (.iconst 1, 1) by decide +kernel) (by decide) rfl, ?_⟩
  refine List.forall_mem_cons.mpr ⟨ok_iaload C (show decode cX11_missesOf 10 = .ok (.iaload, 1) by decide +kernel) rfl, ?_⟩
  refine List.forall_mem_cons.mpr ⟨ok_icmpge C (show decode cX11_missesOf 11 = .ok (.if_icmp .ge 28, 3) by decide +kernel) (tg := 39) (by decide) rfl rfl, ?_⟩
  refine List.forall_mem_cons.mpr ⟨ok_iload_n C (show decode cX11_missesOf 14 = .ok (.iload_n 2, 1) by decide +kernel) rfl rfl, ?_⟩
  refine List.forall_mem_cons.mpr ⟨ok_aload_n C (show decode cX11_missesOf 15 = .ok (.aload_n 0, 1) by decide +kernel) rfl rfl, ?_⟩
  refine List.forall_mem_cons.mpr ⟨ok_iload_n C (show decode cX11_missesOf 16 = .ok (.iload_n 1, 1) by decide +kernel) rfl rfl, ?_⟩
  refine List.forall_mem_cons.mpr ⟨ok_iload_n C (show decode cX11_missesOf 17 = .ok (.iload_n 3, 1) by decide +kernel) rfl rfl, ?_⟩
  refine List.forall_mem_cons.mpr ⟨ok_callV C h_X11_doesMiss ⟨rfl, rfl⟩ rfl kw_1449 kw_1446 kw_1448 kp_73 kw_11 rfl ds_X11_doesMiss ⟨by decide, by decide⟩ (show decode cX11_missesOf 18 = .ok (.invokevirtual 263, 3) by decide +kernel) rfl, ?_⟩
  refine List.forall_mem_cons.mpr ⟨ok_ifeq C (show decode cX11_missesOf 21 = .ok (.ifCond .eq 9, 3) by decide +kernel) (tg := 30) (by decide) rfl rfl, ?_⟩
  refine List.forall_mem_cons.mpr ⟨ok_iconst C (show decode cX11_missesOf 24 = .ok (.iconst 1, 1) by decide +kernel) (by decide) rfl, ?_⟩
  refine List.forall_mem_cons.mpr ⟨ok_iload_n C (show decode cX11_missesOf 25 = .ok (.iload_n 3, 1) by decide +kernel) rfl rfl, ?_⟩
  refine List.forall_mem_cons.mpr ⟨ok_ishl C (show decode cX11_missesOf 26 = .ok (.ishl, 1) by decide +kernel) rfl, ?_⟩
  refine List.forall_mem_cons.mpr ⟨ok_goto C (show decode cX11_missesOf 27 = .ok (.goto 4, 3) by decide +kernel) (tg := 31) (by decide) rfl, ?_⟩
  refine List.forall_mem_cons.mpr ⟨ok_iconst C (show decode cX11_missesOf 30 = .ok (.iconst 0, 1) by decide +kernel) (by decide) rfl, ?_⟩
  refine List.forall_mem_cons.mpr ⟨ok_ior C (show decode cX11_missesOf 31 = .ok (.ior, 1) by decide +kernel) rfl, ?_⟩
  refine List.forall_mem_cons.mpr ⟨ok_istore_n C (show decode cX11_missesOf 32 = .ok (.istore_n 2, 1) by decide +kernel) rfl (by decide) rfl, ?_⟩
  refine List.forall_mem_cons.mpr ⟨ok_iinc C (show decode cX11_missesOf 33 = .ok (.iinc 3 1, 3) by decide +kernel) (by decide) (by decide) rfl, ?_⟩
  refine List.forall_mem_cons.mpr ⟨ok_goto C (show decode cX11_missesOf 36 = .ok (.goto (-32), 3) by decide +kernel) (tg := 4) (by decide) rfl, ?_⟩
  refine List.forall_mem_cons.mpr ⟨ok_iload_n C (show decode cX11_missesOf 39 = .ok (.iload_n 2, 1) by decide +kernel) rfl rfl, ?_⟩
  refine List.forall_mem_cons.mpr ⟨ok_ret C rfl (show decode cX11_missesOf 40 = .ok (.ireturn, 1) by decide +kernel), ?_⟩
  exact fun _ h => absurd h List.not_mem_nil
def L_X11_man (f_X11_isMan : List Value → ab_H → Option ab_O) (f_X11_isIn : List Value → ab_H → Option ab_O) (f_X11_throwsIf : List Value → ab_H → Option ab_O) (f_X11_isDead : List Value → ab_H → Option ab_O) (f_X11_missedBy : List Value → ab_H → Option ab_O) (f_X11_missesOf : List Value → ab_H → Option ab_O) : List (Nat × ab_A) := [
  (0, ab_nx 1 (ab_aload 0)),
  (1, ab_nx 2 (ab_aload 0)),
  (2, ab_nx 3 (ab_iload 1)),
  (3, ab_nx 6 (ab_callV 2 11 f_X11_isMan 0 0 0 0)),
  (6, ab_if 9 18 (fun x => decide (x = 0))),
  (9, ab_nx 10 (ab_iload 2)),
  (10, ab_nx 11 (ab_lit (.int 0))),
  (11, ab_nx 12 (ab_lit (.int 4))),
  (12, ab_nx 15 (ab_call 3 f_X11_isIn 0 0 0 0)),
  (15, ab_if 18 22 (fun x => !decide (x = 0))),
  (18, ab_nx 19 (ab_lit (.int 1))),
  (19, ab_goto 23),
  (22, ab_nx 23 (ab_lit (.int 0))),
  (23, ab_nx 26 (ab_callV 2 11 f_X11_throwsIf 0 0 0 0)),
  (26, ab_if 29 31 (fun x => decide (x = 0))),
  (29, ab_nx 30 (ab_lit (.int 0))),
  (30, ab_ret 0 0),
  (31, ab_nx 32 (ab_iload 2)),
  (32, ab_tab 0 [64, 87, 93, 99] 110),
  (64, ab_nx 65 (ab_aload 0)),
  (65, ab_nx 66 (ab_iload 1)),
  (66, ab_nx 69 (ab_callV 2 11 f_X11_isDead 0 0 0 0)),
  (69, ab_if 72 76 (fun x => decide (x = 0))),
  (72, ab_nx 73 (ab_lit (.int (-1)))),
  (73, ab_goto 86),
  (76, ab_nx 77 (ab_aload 0)),
  (77, ab_nx 80 (ab_getf 11 6)),
  (80, ab_nx 83 (ab_lit (.int 172))),
  (83, ab_nx 84 (ab_iload 1)),
  (84, ab_nx 85 (ab_bin (fun x y => x + y))),
  (85, ab_nx 86 (ab_ald 1)),
  (86, ab_ret 0 0),
  (87, ab_nx 88 (ab_aload 0)),
  (88, ab_nx 89 (ab_iload 1)),
  (89, ab_nx 92 (ab_callV 2 11 f_X11_missedBy 0 0 0 0)),
  (92, ab_ret 0 0),
  (93, ab_nx 94 (ab_aload 0)),
  (94, ab_nx 95 (ab_iload 1)),
  (95, ab_nx 98 (ab_callV 2 11 f_X11_missesOf 0 0 0 0)),
  (98, ab_ret 0 0),
  (99, ab_nx 100 (ab_aload 0)),
  (100, ab_nx 103 (ab_getf 11 6)),
  (103, ab_nx 106 (ab_lit (.int 181))),
  (106, ab_nx 107 (ab_iload 1)),
  (107, ab_nx 108 (ab_bin (fun x y => x + y))),
  (108, ab_nx 109 (ab_ald 1)),
  (109, ab_ret 0 0),
  (110, ab_nx 111 (ab_aload 0)),
  (111, ab_nx 112 (ab_iload 1)),
  (112, ab_nx 115 (ab_callV 2 11 f_X11_isDead 0 0 0 0)),
  (115, ab_if 118 122 (fun x => decide (x = 0))),
  (118, ab_nx 119 (ab_lit (.int 0))),
  (119, ab_goto 123),
  (122, ab_nx 123 (ab_lit (.int 1))),
  (123, ab_ret 0 0)]
set_option maxRecDepth 100000 in
set_option maxHeartbeats 4000000 in
theorem M_X11_man {l : Launch} {b : ab_B} {D : va_G} {cA : Nat → ClassId} {f_X11_isMan : List Value → ab_H → Option ab_O} (h_X11_isMan : ab_M l b D ab_cl cA (ab_E0 b) yX11_isMan (Cond.code yX11_isMan cX11_isMan 2 (some .boolean) :: ab_G) ({ frames := 2, cells := 0, slots := 0, locals := 200 } : Room) f_X11_isMan) {f_X11_isIn : List Value → ab_H → Option ab_O} (h_X11_isIn : ab_M l b D ab_cl cA (ab_E0 b) yX11_isIn (Cond.code yX11_isIn cX11_isIn 3 (some .boolean) :: ab_G) ({ frames := 1, cells := 0, slots := 0, locals := 100 } : Room) f_X11_isIn) {f_X11_throwsIf : List Value → ab_H → Option ab_O} (h_X11_throwsIf : ab_M l b D ab_cl cA (ab_E0 b) yX11_throwsIf (Cond.code yX11_throwsIf cX11_throwsIf 2 (some .boolean) :: ab_G) ({ frames := 1, cells := 0, slots := 0, locals := 100 } : Room) f_X11_throwsIf) {f_X11_isDead : List Value → ab_H → Option ab_O} (h_X11_isDead : ab_M l b D ab_cl cA (ab_E0 b) yX11_isDead (Cond.code yX11_isDead cX11_isDead 2 (some .boolean) :: ab_G) ({ frames := 2, cells := 0, slots := 0, locals := 200 } : Room) f_X11_isDead) {f_X11_missedBy : List Value → ab_H → Option ab_O} (h_X11_missedBy : ab_M l b D ab_cl cA (ab_E0 b) yX11_missedBy (Cond.code yX11_missedBy cX11_missedBy 4 (some .int) :: ab_G) ({ frames := 5, cells := 0, slots := 0, locals := 500 } : Room) f_X11_missedBy) {f_X11_missesOf : List Value → ab_H → Option ab_O} (h_X11_missesOf : ab_M l b D ab_cl cA (ab_E0 b) yX11_missesOf (Cond.code yX11_missesOf cX11_missesOf 4 (some .int) :: ab_G) ({ frames := 5, cells := 0, slots := 0, locals := 500 } : Room) f_X11_missesOf) : ab_M l b D ab_cl cA (ab_E0 b) yX11_man (Cond.code yX11_man cX11_man 3 (some .int) :: ab_G) ({ frames := 6, cells := 0, slots := 0, locals := 600 } : Room) (ab_X (ab_T (L_X11_man f_X11_isMan f_X11_isIn f_X11_throwsIf f_X11_isDead f_X11_missedBy f_X11_missesOf)) 3) := by
  refine ab_meth (ret := (some .int)) (L_X11_man f_X11_isMan f_X11_isIn f_X11_throwsIf f_X11_isDead f_X11_missedBy f_X11_missesOf) (by decide) rfl fun p e R s m args below meth c o C => ?_
  unfold L_X11_man
  refine List.forall_mem_cons.mpr ⟨ok_aload_n C (show decode cX11_man 0 = .ok (.aload_n 0, 1) by decide +kernel) rfl rfl, ?_⟩
  refine List.forall_mem_cons.mpr ⟨ok_aload_n C (show decode cX11_man 1 = .ok (.aload_n 0, 1) by decide +kernel) rfl rfl, ?_⟩
  refine List.forall_mem_cons.mpr ⟨ok_iload_n C (show decode cX11_man 2 = .ok (.iload_n 1, 1) by decide +kernel) rfl rfl, ?_⟩
  refine List.forall_mem_cons.mpr ⟨ok_callV C h_X11_isMan ⟨rfl, rfl⟩ rfl kw_1433 kw_1430 kw_1432 kp_69 kw_11 rfl ds_X11_isMan ⟨by decide, by decide⟩ (show decode cX11_man 3 = .ok (.invokevirtual 266, 3) by decide +kernel) rfl, ?_⟩
  refine List.forall_mem_cons.mpr ⟨ok_ifeq C (show decode cX11_man 6 = .ok (.ifCond .eq 12, 3) by decide +kernel) (tg := 18) (by decide) rfl rfl, ?_⟩
  refine List.forall_mem_cons.mpr ⟨ok_iload_n C (show decode cX11_man 9 = .ok (.iload_n 2, 1) by decide +kernel) rfl rfl, ?_⟩
  refine List.forall_mem_cons.mpr ⟨ok_iconst C (show decode cX11_man 10 = .ok (.iconst 0, 1) by decide +kernel) (by decide) rfl, ?_⟩
  refine List.forall_mem_cons.mpr ⟨ok_iconst C (show decode cX11_man 11 = .ok (.iconst 4, 1) by decide +kernel) (by decide) rfl, ?_⟩
  refine List.forall_mem_cons.mpr ⟨ok_callS C h_X11_isIn ⟨rfl, rfl⟩ kw_1355 kw_1353 kw_1354 kw_11 ds_X11_isIn ⟨by decide, by decide⟩ (show decode cX11_man 12 = .ok (.invokestatic 179, 3) by decide +kernel) rfl, ?_⟩
  refine List.forall_mem_cons.mpr ⟨ok_ifne C (show decode cX11_man 15 = .ok (.ifCond .ne 7, 3) by decide +kernel) (tg := 22) (by decide) rfl rfl, ?_⟩
  refine List.forall_mem_cons.mpr ⟨ok_iconst C (show decode cX11_man 18 = .ok (.iconst 1, 1) by decide +kernel) (by decide) rfl, ?_⟩
  refine List.forall_mem_cons.mpr ⟨ok_goto C (show decode cX11_man 19 = .ok (.goto 4, 3) by decide +kernel) (tg := 23) (by decide) rfl, ?_⟩
  refine List.forall_mem_cons.mpr ⟨ok_iconst C (show decode cX11_man 22 = .ok (.iconst 0, 1) by decide +kernel) (by decide) rfl, ?_⟩
  refine List.forall_mem_cons.mpr ⟨ok_callV C h_X11_throwsIf ⟨rfl, rfl⟩ rfl kw_1437 kw_1434 kw_1436 kp_70 kw_11 rfl ds_X11_throwsIf ⟨by decide, by decide⟩ (show decode cX11_man 23 = .ok (.invokevirtual 269, 3) by decide +kernel) rfl, ?_⟩
  refine List.forall_mem_cons.mpr ⟨ok_ifeq C (show decode cX11_man 26 = .ok (.ifCond .eq 5, 3) by decide +kernel) (tg := 31) (by decide) rfl rfl, ?_⟩
  refine List.forall_mem_cons.mpr ⟨ok_iconst C (show decode cX11_man 29 = .ok (.iconst 0, 1) by decide +kernel) (by decide) rfl, ?_⟩
  refine List.forall_mem_cons.mpr ⟨ok_ret C rfl (show decode cX11_man 30 = .ok (.ireturn, 1) by decide +kernel), ?_⟩
  refine List.forall_mem_cons.mpr ⟨ok_iload_n C (show decode cX11_man 31 = .ok (.iload_n 2, 1) by decide +kernel) rfl rfl, ?_⟩
  refine List.forall_mem_cons.mpr ⟨ok_tab C (show decode cX11_man 32 = .ok (.tableswitch 78 0 3 #[32, 55, 61, 67], 32) by decide +kernel) (by decide) (by decide) (by decide), ?_⟩
  refine List.forall_mem_cons.mpr ⟨ok_aload_n C (show decode cX11_man 64 = .ok (.aload_n 0, 1) by decide +kernel) rfl rfl, ?_⟩
  refine List.forall_mem_cons.mpr ⟨ok_iload_n C (show decode cX11_man 65 = .ok (.iload_n 1, 1) by decide +kernel) rfl rfl, ?_⟩
  refine List.forall_mem_cons.mpr ⟨ok_callV C h_X11_isDead ⟨rfl, rfl⟩ rfl kw_1441 kw_1438 kw_1440 kp_71 kw_11 rfl ds_X11_isDead ⟨by decide, by decide⟩ (show decode cX11_man 66 = .ok (.invokevirtual 257, 3) by decide +kernel) rfl, ?_⟩
  refine List.forall_mem_cons.mpr ⟨ok_ifeq C (show decode cX11_man 69 = .ok (.ifCond .eq 7, 3) by decide +kernel) (tg := 76) (by decide) rfl rfl, ?_⟩
  refine List.forall_mem_cons.mpr ⟨ok_iconst C (show decode cX11_man 72 = .ok (.iconst (-1), 1) by decide +kernel) (by decide) rfl, ?_⟩
  refine List.forall_mem_cons.mpr ⟨ok_goto C (show decode cX11_man 73 = .ok (.goto 13, 3) by decide +kernel) (tg := 86) (by decide) rfl, ?_⟩
  refine List.forall_mem_cons.mpr ⟨ok_aload_n C (show decode cX11_man 76 = .ok (.aload_n 0, 1) by decide +kernel) rfl rfl, ?_⟩
  refine List.forall_mem_cons.mpr ⟨ok_getf C (wi_X11) rfl (by decide) kw_1186 (show decode cX11_man 77 = .ok (.getfield 33, 3) by decide +kernel) rfl, ?_⟩
  refine List.forall_mem_cons.mpr ⟨ok_sipush C (show decode cX11_man 80 = .ok (.sipush 172, 3) by decide +kernel) (by decide) rfl, ?_⟩
  refine List.forall_mem_cons.mpr ⟨ok_iload_n C (show decode cX11_man 83 = .ok (.iload_n 1, 1) by decide +kernel) rfl rfl, ?_⟩
  refine List.forall_mem_cons.mpr ⟨ok_iadd C (show decode cX11_man 84 = .ok (.iadd, 1) by decide +kernel) rfl, ?_⟩
  refine List.forall_mem_cons.mpr ⟨ok_iaload C (show decode cX11_man 85 = .ok (.iaload, 1) by decide +kernel) rfl, ?_⟩
  refine List.forall_mem_cons.mpr ⟨ok_ret C rfl (show decode cX11_man 86 = .ok (.ireturn, 1) by decide +kernel), ?_⟩
  refine List.forall_mem_cons.mpr ⟨ok_aload_n C (show decode cX11_man 87 = .ok (.aload_n 0, 1) by decide +kernel) rfl rfl, ?_⟩
  refine List.forall_mem_cons.mpr ⟨ok_iload_n C (show decode cX11_man 88 = .ok (.iload_n 1, 1) by decide +kernel) rfl rfl, ?_⟩
  refine List.forall_mem_cons.mpr ⟨ok_callV C h_X11_missedBy ⟨rfl, rfl⟩ rfl kw_1445 kw_1442 kw_1444 kp_72 kw_11 rfl ds_X11_missedBy ⟨by decide, by decide⟩ (show decode cX11_man 89 = .ok (.invokevirtual 273, 3) by decide +kernel) rfl, ?_⟩
  refine List.forall_mem_cons.mpr ⟨ok_ret C rfl (show decode cX11_man 92 = .ok (.ireturn, 1) by decide +kernel), ?_⟩
  refine List.forall_mem_cons.mpr ⟨ok_aload_n C (show decode cX11_man 93 = .ok (.aload_n 0, 1) by decide +kernel) rfl rfl, ?_⟩
  refine List.forall_mem_cons.mpr ⟨ok_iload_n C (show decode cX11_man 94 = .ok (.iload_n 1, 1) by decide +kernel) rfl rfl, ?_⟩
  refine List.forall_mem_cons.mpr ⟨ok_callV C h_X11_missesOf ⟨rfl, rfl⟩ rfl kw_1457 kw_1454 kw_1456 kp_75 kw_11 rfl ds_X11_missesOf ⟨by decide, by decide⟩ (show decode cX11_man 95 = .ok (.invokevirtual 277, 3) by decide +kernel) rfl, ?_⟩
  refine List.forall_mem_cons.mpr ⟨ok_ret C rfl (show decode cX11_man 98 = .ok (.ireturn, 1) by decide +kernel), ?_⟩
  refine List.forall_mem_cons.mpr ⟨ok_aload_n C (show decode cX11_man 99 = .ok (.aload_n 0, 1) by decide +kernel) rfl rfl, ?_⟩
  refine List.forall_mem_cons.mpr ⟨ok_getf C (wi_X11) rfl (by decide) kw_1186 (show decode cX11_man 100 = .ok (.getfield 33, 3) by decide +kernel) rfl, ?_⟩
  refine List.forall_mem_cons.mpr ⟨ok_sipush C (show decode cX11_man 103 = .ok (.sipush 181, 3) by decide +kernel) (by decide) rfl, ?_⟩
  refine List.forall_mem_cons.mpr ⟨ok_iload_n C (show decode cX11_man 106 = .ok (.iload_n 1, 1) by decide +kernel) rfl rfl, ?_⟩
  refine List.forall_mem_cons.mpr ⟨ok_iadd C (show decode cX11_man 107 = .ok (.iadd, 1) by decide +kernel) rfl, ?_⟩
  refine List.forall_mem_cons.mpr ⟨ok_iaload C (show decode cX11_man 108 = .ok (.iaload, 1) by decide +kernel) rfl, ?_⟩
  refine List.forall_mem_cons.mpr ⟨ok_ret C rfl (show decode cX11_man 109 = .ok (.ireturn, 1) by decide +kernel), ?_⟩
  refine List.forall_mem_cons.mpr ⟨ok_aload_n C (show decode cX11_man 110 = .ok (.aload_n 0, 1) by decide +kernel) rfl rfl, ?_⟩
  refine List.forall_mem_cons.mpr ⟨ok_iload_n C (show decode cX11_man 111 = .ok (.iload_n 1, 1) by decide +kernel) rfl rfl, ?_⟩
  refine List.forall_mem_cons.mpr ⟨ok_callV C h_X11_isDead ⟨rfl, rfl⟩ rfl kw_1441 kw_1438 kw_1440 kp_71 kw_11 rfl ds_X11_isDead ⟨by decide, by decide⟩ (show decode cX11_man 112 = .ok (.invokevirtual 257, 3) by decide +kernel) rfl, ?_⟩
  refine List.forall_mem_cons.mpr ⟨ok_ifeq C (show decode cX11_man 115 = .ok (.ifCond .eq 7, 3) by decide +kernel) (tg := 122) (by decide) rfl rfl, ?_⟩
  refine List.forall_mem_cons.mpr ⟨ok_iconst C (show decode cX11_man 118 = .ok (.iconst 0, 1) by decide +kernel) (by decide) rfl, ?_⟩
  refine List.forall_mem_cons.mpr ⟨ok_goto C (show decode cX11_man 119 = .ok (.goto 4, 3) by decide +kernel) (tg := 123) (by decide) rfl, ?_⟩
  refine List.forall_mem_cons.mpr ⟨ok_iconst C (show decode cX11_man 122 = .ok (.iconst 1, 1) by decide +kernel) (by decide) rfl, ?_⟩
  refine List.forall_mem_cons.mpr ⟨ok_ret C rfl (show decode cX11_man 123 = .ok (.ireturn, 1) by decide +kernel), ?_⟩
  exact fun _ h => absurd h List.not_mem_nil
def L_X11_apart (f_X11_isMan : List Value → ab_H → Option ab_O) (f_X11_isDead : List Value → ab_H → Option ab_O) : List (Nat × ab_A) := [
  (0, ab_nx 1 (ab_aload 0)),
  (1, ab_nx 2 (ab_lit (.int 0))),
  (2, ab_nx 5 (ab_putf 11 0 0)),
  (5, ab_nx 6 (ab_aload 0)),
  (6, ab_nx 7 (ab_iload 1)),
  (7, ab_nx 10 (ab_callV 2 11 f_X11_isMan 0 0 0 0)),
  (10, ab_if 13 60 (fun x => decide (x = 0))),
  (13, ab_nx 14 (ab_aload 0)),
  (14, ab_nx 15 (ab_iload 2)),
  (15, ab_nx 18 (ab_callV 2 11 f_X11_isMan 0 0 0 0)),
  (18, ab_if 21 60 (fun x => decide (x = 0))),
  (21, ab_nx 22 (ab_iload 1)),
  (22, ab_nx 23 (ab_iload 2)),
  (23, ab_icmp 26 60 (fun x y => decide (x = y))),
  (26, ab_nx 27 (ab_aload 0)),
  (27, ab_nx 28 (ab_iload 1)),
  (28, ab_nx 31 (ab_callV 2 11 f_X11_isDead 0 0 0 0)),
  (31, ab_if 34 60 (fun x => !decide (x = 0))),
  (34, ab_nx 35 (ab_aload 0)),
  (35, ab_nx 36 (ab_iload 2)),
  (36, ab_nx 39 (ab_callV 2 11 f_X11_isDead 0 0 0 0)),
  (39, ab_if 42 60 (fun x => !decide (x = 0))),
  (42, ab_nx 43 (ab_aload 0)),
  (43, ab_nx 46 (ab_getf 11 6)),
  (46, ab_nx 49 (ab_lit (.int 189))),
  (49, ab_nx 51 (ab_lit (.int 8))),
  (51, ab_nx 52 (ab_iload 1)),
  (52, ab_nx 53 (ab_bin (fun x y => x * y))),
  (53, ab_nx 54 (ab_bin (fun x y => x + y))),
  (54, ab_nx 55 (ab_iload 2)),
  (55, ab_nx 56 (ab_bin (fun x y => x + y))),
  (56, ab_nx 57 (ab_ald 1)),
  (57, ab_goto 61),
  (60, ab_nx 61 (ab_lit (.int (-1)))),
  (61, ab_ret 0 0)]
set_option maxRecDepth 100000 in
set_option maxHeartbeats 4000000 in
theorem M_X11_apart {l : Launch} {b : ab_B} {D : va_G} {cA : Nat → ClassId} {f_X11_isMan : List Value → ab_H → Option ab_O} (h_X11_isMan : ab_M l b D ab_cl cA (ab_E0 b) yX11_isMan (Cond.code yX11_isMan cX11_isMan 2 (some .boolean) :: ab_G) ({ frames := 2, cells := 0, slots := 0, locals := 200 } : Room) f_X11_isMan) {f_X11_isDead : List Value → ab_H → Option ab_O} (h_X11_isDead : ab_M l b D ab_cl cA (ab_E0 b) yX11_isDead (Cond.code yX11_isDead cX11_isDead 2 (some .boolean) :: ab_G) ({ frames := 2, cells := 0, slots := 0, locals := 200 } : Room) f_X11_isDead) : ab_M l b D ab_cl cA (ab_E0 b) yX11_apart (Cond.code yX11_apart cX11_apart 3 (some .int) :: ab_G) ({ frames := 3, cells := 0, slots := 0, locals := 300 } : Room) (ab_X (ab_T (L_X11_apart f_X11_isMan f_X11_isDead)) 3) := by
  refine ab_meth (ret := (some .int)) (L_X11_apart f_X11_isMan f_X11_isDead) (by decide) rfl fun p e R s m args below meth c o C => ?_
  unfold L_X11_apart
  refine List.forall_mem_cons.mpr ⟨ok_aload_n C (show decode cX11_apart 0 = .ok (.aload_n 0, 1) by decide +kernel) rfl rfl, ?_⟩
  refine List.forall_mem_cons.mpr ⟨ok_iconst C (show decode cX11_apart 1 = .ok (.iconst 0, 1) by decide +kernel) (by decide) rfl, ?_⟩
  refine List.forall_mem_cons.mpr ⟨ok_putf C (wi_X11) tyX11 tyX11_ok nmX11 rfl (by decide) kw_1180 (Or.inl rfl) (Or.inl ⟨rfl, rfl⟩) (show decode cX11_apart 2 = .ok (.putfield 1, 3) by decide +kernel) rfl, ?_⟩
  refine List.forall_mem_cons.mpr ⟨ok_aload_n C (show decode cX11_apart 5 = .ok (.aload_n 0, 1) by decide +kernel) rfl rfl, ?_⟩
  refine List.forall_mem_cons.mpr ⟨ok_iload_n C (show decode cX11_apart 6 = .ok (.iload_n 1, 1) by decide +kernel) rfl rfl, ?_⟩
  refine List.forall_mem_cons.mpr ⟨ok_callV C h_X11_isMan ⟨rfl, rfl⟩ rfl kw_1433 kw_1430 kw_1432 kp_69 kw_11 rfl ds_X11_isMan ⟨by decide, by decide⟩ (show decode cX11_apart 7 = .ok (.invokevirtual 266, 3) by decide +kernel) rfl, ?_⟩
  refine List.forall_mem_cons.mpr ⟨ok_ifeq C (show decode cX11_apart 10 = .ok (.ifCond .eq 50, 3) by decide +kernel) (tg := 60) (by decide) rfl rfl, ?_⟩
  refine List.forall_mem_cons.mpr ⟨ok_aload_n C (show decode cX11_apart 13 = .ok (.aload_n 0, 1) by decide +kernel) rfl rfl, ?_⟩
  refine List.forall_mem_cons.mpr ⟨ok_iload_n C (show decode cX11_apart 14 = .ok (.iload_n 2, 1) by decide +kernel) rfl rfl, ?_⟩
  refine List.forall_mem_cons.mpr ⟨ok_callV C h_X11_isMan ⟨rfl, rfl⟩ rfl kw_1433 kw_1430 kw_1432 kp_69 kw_11 rfl ds_X11_isMan ⟨by decide, by decide⟩ (show decode cX11_apart 15 = .ok (.invokevirtual 266, 3) by decide +kernel) rfl, ?_⟩
  refine List.forall_mem_cons.mpr ⟨ok_ifeq C (show decode cX11_apart 18 = .ok (.ifCond .eq 42, 3) by decide +kernel) (tg := 60) (by decide) rfl rfl, ?_⟩
  refine List.forall_mem_cons.mpr ⟨ok_iload_n C (show decode cX11_apart 21 = .ok (.iload_n 1, 1) by decide +kernel) rfl rfl, ?_⟩
  refine List.forall_mem_cons.mpr ⟨ok_iload_n C (show decode cX11_apart 22 = .ok (.iload_n 2, 1) by decide +kernel) rfl rfl, ?_⟩
  refine List.forall_mem_cons.mpr ⟨ok_icmpeq C (show decode cX11_apart 23 = .ok (.if_icmp .eq 37, 3) by decide +kernel) (tg := 60) (by decide) rfl rfl, ?_⟩
  refine List.forall_mem_cons.mpr ⟨ok_aload_n C (show decode cX11_apart 26 = .ok (.aload_n 0, 1) by decide +kernel) rfl rfl, ?_⟩
  refine List.forall_mem_cons.mpr ⟨ok_iload_n C (show decode cX11_apart 27 = .ok (.iload_n 1, 1) by decide +kernel) rfl rfl, ?_⟩
  refine List.forall_mem_cons.mpr ⟨ok_callV C h_X11_isDead ⟨rfl, rfl⟩ rfl kw_1441 kw_1438 kw_1440 kp_71 kw_11 rfl ds_X11_isDead ⟨by decide, by decide⟩ (show decode cX11_apart 28 = .ok (.invokevirtual 257, 3) by decide +kernel) rfl, ?_⟩
  refine List.forall_mem_cons.mpr ⟨ok_ifne C (show decode cX11_apart 31 = .ok (.ifCond .ne 29, 3) by decide +kernel) (tg := 60) (by decide) rfl rfl, ?_⟩
  refine List.forall_mem_cons.mpr ⟨ok_aload_n C (show decode cX11_apart 34 = .ok (.aload_n 0, 1) by decide +kernel) rfl rfl, ?_⟩
  refine List.forall_mem_cons.mpr ⟨ok_iload_n C (show decode cX11_apart 35 = .ok (.iload_n 2, 1) by decide +kernel) rfl rfl, ?_⟩
  refine List.forall_mem_cons.mpr ⟨ok_callV C h_X11_isDead ⟨rfl, rfl⟩ rfl kw_1441 kw_1438 kw_1440 kp_71 kw_11 rfl ds_X11_isDead ⟨by decide, by decide⟩ (show decode cX11_apart 36 = .ok (.invokevirtual 257, 3) by decide +kernel) rfl, ?_⟩
  refine List.forall_mem_cons.mpr ⟨ok_ifne C (show decode cX11_apart 39 = .ok (.ifCond .ne 21, 3) by decide +kernel) (tg := 60) (by decide) rfl rfl, ?_⟩
  refine List.forall_mem_cons.mpr ⟨ok_aload_n C (show decode cX11_apart 42 = .ok (.aload_n 0, 1) by decide +kernel) rfl rfl, ?_⟩
  refine List.forall_mem_cons.mpr ⟨ok_getf C (wi_X11) rfl (by decide) kw_1186 (show decode cX11_apart 43 = .ok (.getfield 33, 3) by decide +kernel) rfl, ?_⟩
  refine List.forall_mem_cons.mpr ⟨ok_sipush C (show decode cX11_apart 46 = .ok (.sipush 189, 3) by decide +kernel) (by decide) rfl, ?_⟩
  refine List.forall_mem_cons.mpr ⟨ok_bipush C (show decode cX11_apart 49 = .ok (.bipush 8, 2) by decide +kernel) (by decide) rfl, ?_⟩
  refine List.forall_mem_cons.mpr ⟨ok_iload_n C (show decode cX11_apart 51 = .ok (.iload_n 1, 1) by decide +kernel) rfl rfl, ?_⟩
  refine List.forall_mem_cons.mpr ⟨ok_imul C (show decode cX11_apart 52 = .ok (.imul, 1) by decide +kernel) rfl, ?_⟩
  refine List.forall_mem_cons.mpr ⟨ok_iadd C (show decode cX11_apart 53 = .ok (.iadd, 1) by decide +kernel) rfl, ?_⟩
  refine List.forall_mem_cons.mpr ⟨ok_iload_n C (show decode cX11_apart 54 = .ok (.iload_n 2, 1) by decide +kernel) rfl rfl, ?_⟩
  refine List.forall_mem_cons.mpr ⟨ok_iadd C (show decode cX11_apart 55 = .ok (.iadd, 1) by decide +kernel) rfl, ?_⟩
  refine List.forall_mem_cons.mpr ⟨ok_iaload C (show decode cX11_apart 56 = .ok (.iaload, 1) by decide +kernel) rfl, ?_⟩
  refine List.forall_mem_cons.mpr ⟨ok_goto C (show decode cX11_apart 57 = .ok (.goto 4, 3) by decide +kernel) (tg := 61) (by decide) rfl, ?_⟩
  refine List.forall_mem_cons.mpr ⟨ok_iconst C (show decode cX11_apart 60 = .ok (.iconst (-1), 1) by decide +kernel) (by decide) rfl, ?_⟩
  refine List.forall_mem_cons.mpr ⟨ok_ret C rfl (show decode cX11_apart 61 = .ok (.ireturn, 1) by decide +kernel), ?_⟩
  exact fun _ h => absurd h List.not_mem_nil
def L_X11_menOn (f_X11_isDead : List Value → ab_H → Option ab_O) : List (Nat × ab_A) := [
  (0, ab_nx 1 (ab_lit (.int 0))),
  (1, ab_nx 2 (ab_istore 2)),
  (2, ab_nx 3 (ab_lit (.int 0))),
  (3, ab_nx 4 (ab_istore 3)),
  (4, ab_nx 5 (ab_iload 3)),
  (5, ab_nx 6 (ab_aload 0)),
  (6, ab_nx 9 (ab_getf 11 6)),
  (9, ab_nx 10 (ab_lit (.int 1))),
  (10, ab_nx 11 (ab_ald 1)),
  (11, ab_icmp 14 52 (fun x y => decide (y ≤ x))),
  (14, ab_nx 15 (ab_iload 2)),
  (15, ab_nx 16 (ab_aload 0)),
  (16, ab_nx 17 (ab_iload 3)),
  (17, ab_nx 20 (ab_callV 2 11 f_X11_isDead 0 0 0 0)),
  (20, ab_if 23 43 (fun x => !decide (x = 0))),
  (23, ab_nx 24 (ab_aload 0)),
  (24, ab_nx 27 (ab_getf 11 6)),
  (27, ab_nx 30 (ab_lit (.int 172))),
  (30, ab_nx 31 (ab_iload 3)),
  (31, ab_nx 32 (ab_bin (fun x y => x + y))),
  (32, ab_nx 33 (ab_ald 1)),
  (33, ab_nx 34 (ab_iload 1)),
  (34, ab_icmp 37 43 (fun x y => !decide (x = y))),
  (37, ab_nx 38 (ab_lit (.int 1))),
  (38, ab_nx 39 (ab_iload 3)),
  (39, ab_nx 40 (ab_bin (fun x y => x <<< (y &&& 31)))),
  (40, ab_goto 44),
  (43, ab_nx 44 (ab_lit (.int 0))),
  (44, ab_nx 45 (ab_bin (fun x y => x ||| y))),
  (45, ab_nx 46 (ab_istore 2)),
  (46, ab_nx 49 (ab_iinc 3 1)),
  (49, ab_goto 4),
  (52, ab_nx 53 (ab_iload 2)),
  (53, ab_ret 0 0)]
set_option maxRecDepth 100000 in
set_option maxHeartbeats 4000000 in
theorem M_X11_menOn {l : Launch} {b : ab_B} {D : va_G} {cA : Nat → ClassId} {f_X11_isDead : List Value → ab_H → Option ab_O} (h_X11_isDead : ab_M l b D ab_cl cA (ab_E0 b) yX11_isDead (Cond.code yX11_isDead cX11_isDead 2 (some .boolean) :: ab_G) ({ frames := 2, cells := 0, slots := 0, locals := 200 } : Room) f_X11_isDead) : ab_M l b D ab_cl cA (ab_E0 b) yX11_menOn (Cond.code yX11_menOn cX11_menOn 4 (some .int) :: ab_G) ({ frames := 3, cells := 0, slots := 0, locals := 300 } : Room) (ab_X (ab_T (L_X11_menOn f_X11_isDead)) 4) := by
  refine ab_meth (ret := (some .int)) (L_X11_menOn f_X11_isDead) (by decide) rfl fun p e R s m args below meth c o C => ?_
  unfold L_X11_menOn
  refine List.forall_mem_cons.mpr ⟨ok_iconst C (show decode cX11_menOn 0 = .ok (.iconst 0, 1) by decide +kernel) (by decide) rfl, ?_⟩
  refine List.forall_mem_cons.mpr ⟨ok_istore_n C (show decode cX11_menOn 1 = .ok (.istore_n 2, 1) by decide +kernel) rfl (by decide) rfl, ?_⟩
  refine List.forall_mem_cons.mpr ⟨ok_iconst C (show decode cX11_menOn 2 = .ok (.iconst 0, 1) by decide +kernel) (by decide) rfl, ?_⟩
  refine List.forall_mem_cons.mpr ⟨ok_istore_n C (show decode cX11_menOn 3 = .ok (.istore_n 3, 1) by decide +kernel) rfl (by decide) rfl, ?_⟩
  refine List.forall_mem_cons.mpr ⟨ok_iload_n C (show decode cX11_menOn 4 = .ok (.iload_n 3, 1) by decide +kernel) rfl rfl, ?_⟩
  refine List.forall_mem_cons.mpr ⟨ok_aload_n C (show decode cX11_menOn 5 = .ok (.aload_n 0, 1) by decide +kernel) rfl rfl, ?_⟩
  refine List.forall_mem_cons.mpr ⟨ok_getf C (wi_X11) rfl (by decide) kw_1186 (show decode cX11_menOn 6 = .ok (.getfield 33, 3) by decide +kernel) rfl, ?_⟩
  refine List.forall_mem_cons.mpr ⟨ok_iconst C (show decode cX11_menOn 9 = .ok (.iconst 1, 1) by decide +kernel) (by decide) rfl, ?_⟩
  refine List.forall_mem_cons.mpr ⟨ok_iaload C (show decode cX11_menOn 10 = .ok (.iaload, 1) by decide +kernel) rfl, ?_⟩
  refine List.forall_mem_cons.mpr ⟨ok_icmpge C (show decode cX11_menOn 11 = .ok (.if_icmp .ge 41, 3) by decide +kernel) (tg := 52) (by decide) rfl rfl, ?_⟩
  refine List.forall_mem_cons.mpr ⟨ok_iload_n C (show decode cX11_menOn 14 = .ok (.iload_n 2, 1) by decide +kernel) rfl rfl, ?_⟩
  refine List.forall_mem_cons.mpr ⟨ok_aload_n C (show decode cX11_menOn 15 = .ok (.aload_n 0, 1) by decide +kernel) rfl rfl, ?_⟩
  refine List.forall_mem_cons.mpr ⟨ok_iload_n C (show decode cX11_menOn 16 = .ok (.iload_n 3, 1) by decide +kernel) rfl rfl, ?_⟩
  refine List.forall_mem_cons.mpr ⟨ok_callV C h_X11_isDead ⟨rfl, rfl⟩ rfl kw_1441 kw_1438 kw_1440 kp_71 kw_11 rfl ds_X11_isDead ⟨by decide, by decide⟩ (show decode cX11_menOn 17 = .ok (.invokevirtual 257, 3) by decide +kernel) rfl, ?_⟩
  refine List.forall_mem_cons.mpr ⟨ok_ifne C (show decode cX11_menOn 20 = .ok (.ifCond .ne 23, 3) by decide +kernel) (tg := 43) (by decide) rfl rfl, ?_⟩
  refine List.forall_mem_cons.mpr ⟨ok_aload_n C (show decode cX11_menOn 23 = .ok (.aload_n 0, 1) by decide +kernel) rfl rfl, ?_⟩
  refine List.forall_mem_cons.mpr ⟨ok_getf C (wi_X11) rfl (by decide) kw_1186 (show decode cX11_menOn 24 = .ok (.getfield 33, 3) by decide +kernel) rfl, ?_⟩
  refine List.forall_mem_cons.mpr ⟨ok_sipush C (show decode cX11_menOn 27 = .ok (.sipush 172, 3) by decide +kernel) (by decide) rfl, ?_⟩
  refine List.forall_mem_cons.mpr ⟨ok_iload_n C (show decode cX11_menOn 30 = .ok (.iload_n 3, 1) by decide +kernel) rfl rfl, ?_⟩
  refine List.forall_mem_cons.mpr ⟨ok_iadd C (show decode cX11_menOn 31 = .ok (.iadd, 1) by decide +kernel) rfl, ?_⟩
  refine List.forall_mem_cons.mpr ⟨ok_iaload C (show decode cX11_menOn 32 = .ok (.iaload, 1) by decide +kernel) rfl, ?_⟩
  refine List.forall_mem_cons.mpr ⟨ok_iload_n C (show decode cX11_menOn 33 = .ok (.iload_n 1, 1) by decide +kernel) rfl rfl, ?_⟩
  refine List.forall_mem_cons.mpr ⟨ok_icmpne C (show decode cX11_menOn 34 = .ok (.if_icmp .ne 9, 3) by decide +kernel) (tg := 43) (by decide) rfl rfl, ?_⟩
  refine List.forall_mem_cons.mpr ⟨ok_iconst C (show decode cX11_menOn 37 = .ok (.iconst 1, 1) by decide +kernel) (by decide) rfl, ?_⟩
  refine List.forall_mem_cons.mpr ⟨ok_iload_n C (show decode cX11_menOn 38 = .ok (.iload_n 3, 1) by decide +kernel) rfl rfl, ?_⟩
  refine List.forall_mem_cons.mpr ⟨ok_ishl C (show decode cX11_menOn 39 = .ok (.ishl, 1) by decide +kernel) rfl, ?_⟩
  refine List.forall_mem_cons.mpr ⟨ok_goto C (show decode cX11_menOn 40 = .ok (.goto 4, 3) by decide +kernel) (tg := 44) (by decide) rfl, ?_⟩
  refine List.forall_mem_cons.mpr ⟨ok_iconst C (show decode cX11_menOn 43 = .ok (.iconst 0, 1) by decide +kernel) (by decide) rfl, ?_⟩
  refine List.forall_mem_cons.mpr ⟨ok_ior C (show decode cX11_menOn 44 = .ok (.ior, 1) by decide +kernel) rfl, ?_⟩
  refine List.forall_mem_cons.mpr ⟨ok_istore_n C (show decode cX11_menOn 45 = .ok (.istore_n 2, 1) by decide +kernel) rfl (by decide) rfl, ?_⟩
  refine List.forall_mem_cons.mpr ⟨ok_iinc C (show decode cX11_menOn 46 = .ok (.iinc 3 1, 3) by decide +kernel) (by decide) (by decide) rfl, ?_⟩
  refine List.forall_mem_cons.mpr ⟨ok_goto C (show decode cX11_menOn 49 = .ok (.goto (-45), 3) by decide +kernel) (tg := 4) (by decide) rfl, ?_⟩
  refine List.forall_mem_cons.mpr ⟨ok_iload_n C (show decode cX11_menOn 52 = .ok (.iload_n 2, 1) by decide +kernel) rfl rfl, ?_⟩
  refine List.forall_mem_cons.mpr ⟨ok_ret C rfl (show decode cX11_menOn 53 = .ok (.ireturn, 1) by decide +kernel), ?_⟩
  exact fun _ h => absurd h List.not_mem_nil
def L_X11_now (f_X11_menOn : List Value → ab_H → Option ab_O) : List (Nat × ab_A) := [
  (0, ab_nx 1 (ab_aload 0)),
  (1, ab_nx 2 (ab_lit (.int 0))),
  (2, ab_nx 5 (ab_putf 11 0 0)),
  (5, ab_nx 6 (ab_iload 1)),
  (6, ab_tab 0 [48, 56, 66, 72, 78, 86, 94] 102),
  (48, ab_nx 49 (ab_aload 0)),
  (49, ab_nx 52 (ab_getf 11 6)),
  (52, ab_nx 54 (ab_lit (.int 120))),
  (54, ab_nx 55 (ab_ald 1)),
  (55, ab_ret 0 0),
  (56, ab_nx 57 (ab_aload 0)),
  (57, ab_nx 60 (ab_getf 11 6)),
  (60, ab_nx 62 (ab_lit (.int 120))),
  (62, ab_nx 63 (ab_ald 1)),
  (63, ab_nx 64 (ab_lit (.int 2))),
  (64, ab_nx 65 ab_irem),
  (65, ab_ret 0 0),
  (66, ab_nx 67 (ab_aload 0)),
  (67, ab_nx 68 (ab_lit (.int 0))),
  (68, ab_nx 71 (ab_callV 2 11 f_X11_menOn 0 0 0 0)),
  (71, ab_ret 0 0),
  (72, ab_nx 73 (ab_aload 0)),
  (73, ab_nx 74 (ab_lit (.int 1))),
  (74, ab_nx 77 (ab_callV 2 11 f_X11_menOn 0 0 0 0)),
  (77, ab_ret 0 0),
  (78, ab_nx 79 (ab_aload 0)),
  (79, ab_nx 82 (ab_getf 11 6)),
  (82, ab_nx 84 (ab_lit (.int 121))),
  (84, ab_nx 85 (ab_ald 1)),
  (85, ab_ret 0 0),
  (86, ab_nx 87 (ab_aload 0)),
  (87, ab_nx 90 (ab_getf 11 6)),
  (90, ab_nx 92 (ab_lit (.int 122))),
  (92, ab_nx 93 (ab_ald 1)),
  (93, ab_ret 0 0),
  (94, ab_nx 95 (ab_aload 0)),
  (95, ab_nx 98 (ab_getf 11 6)),
  (98, ab_nx 100 (ab_lit (.int 123))),
  (100, ab_nx 101 (ab_ald 1)),
  (101, ab_ret 0 0),
  (102, ab_nx 103 (ab_lit (.int (-1)))),
  (103, ab_ret 0 0)]
set_option maxRecDepth 100000 in
set_option maxHeartbeats 4000000 in
theorem M_X11_now {l : Launch} {b : ab_B} {D : va_G} {cA : Nat → ClassId} {f_X11_menOn : List Value → ab_H → Option ab_O} (h_X11_menOn : ab_M l b D ab_cl cA (ab_E0 b) yX11_menOn (Cond.code yX11_menOn cX11_menOn 4 (some .int) :: ab_G) ({ frames := 3, cells := 0, slots := 0, locals := 300 } : Room) f_X11_menOn) : ab_M l b D ab_cl cA (ab_E0 b) yX11_now (Cond.code yX11_now cX11_now 2 (some .int) :: ab_G) ({ frames := 4, cells := 0, slots := 0, locals := 400 } : Room) (ab_X (ab_T (L_X11_now f_X11_menOn)) 2) := by
  refine ab_meth (ret := (some .int)) (L_X11_now f_X11_menOn) (by decide) rfl fun p e R s m args below meth c o C => ?_
  unfold L_X11_now
  refine List.forall_mem_cons.mpr ⟨ok_aload_n C (show decode cX11_now 0 = .ok (.aload_n 0, 1) by decide +kernel) rfl rfl, ?_⟩
  refine List.forall_mem_cons.mpr ⟨ok_iconst C (show decode cX11_now 1 = .ok (.iconst 0, 1) by decide +kernel) (by decide) rfl, ?_⟩
  refine List.forall_mem_cons.mpr ⟨ok_putf C (wi_X11) tyX11 tyX11_ok nmX11 rfl (by decide) kw_1180 (Or.inl rfl) (Or.inl ⟨rfl, rfl⟩) (show decode cX11_now 2 = .ok (.putfield 1, 3) by decide +kernel) rfl, ?_⟩
  refine List.forall_mem_cons.mpr ⟨ok_iload_n C (show decode cX11_now 5 = .ok (.iload_n 1, 1) by decide +kernel) rfl rfl, ?_⟩
  refine List.forall_mem_cons.mpr ⟨ok_tab C (show decode cX11_now 6 = .ok (.tableswitch 96 0 6 #[42, 50, 60, 66, 72, 80, 88], 42) by decide +kernel) (by decide) (by decide) (by decide), ?_⟩
  refine List.forall_mem_cons.mpr ⟨ok_aload_n C (show decode cX11_now 48 = .ok (.aload_n 0, 1) by decide +kernel) rfl rfl, ?_⟩
  refine List.forall_mem_cons.mpr ⟨ok_getf C (wi_X11) rfl (by decide) kw_1186 (show decode cX11_now 49 = .ok (.getfield 33, 3) by decide +kernel) rfl, ?_⟩
  refine List.forall_mem_cons.mpr ⟨ok_bipush C (show decode cX11_now 52 = .ok (.bipush 120, 2) by decide +kernel) (by decide) rfl, ?_⟩
  refine List.forall_mem_cons.mpr ⟨ok_iaload C (show decode cX11_now 54 = .ok (.iaload, 1) by decide +kernel) rfl, ?_⟩
  refine List.forall_mem_cons.mpr ⟨ok_ret C rfl (show decode cX11_now 55 = .ok (.ireturn, 1) by decide +kernel), ?_⟩
  refine List.forall_mem_cons.mpr ⟨ok_aload_n C (show decode cX11_now 56 = .ok (.aload_n 0, 1) by decide +kernel) rfl rfl, ?_⟩
  refine List.forall_mem_cons.mpr ⟨ok_getf C (wi_X11) rfl (by decide) kw_1186 (show decode cX11_now 57 = .ok (.getfield 33, 3) by decide +kernel) rfl, ?_⟩
  refine List.forall_mem_cons.mpr ⟨ok_bipush C (show decode cX11_now 60 = .ok (.bipush 120, 2) by decide +kernel) (by decide) rfl, ?_⟩
  refine List.forall_mem_cons.mpr ⟨ok_iaload C (show decode cX11_now 62 = .ok (.iaload, 1) by decide +kernel) rfl, ?_⟩
  refine List.forall_mem_cons.mpr ⟨ok_iconst C (show decode cX11_now 63 = .ok (.iconst 2, 1) by decide +kernel) (by decide) rfl, ?_⟩
  refine List.forall_mem_cons.mpr ⟨ok_irem C (show decode cX11_now 64 = .ok (.irem, 1) by decide +kernel) rfl, ?_⟩
  refine List.forall_mem_cons.mpr ⟨ok_ret C rfl (show decode cX11_now 65 = .ok (.ireturn, 1) by decide +kernel), ?_⟩
  refine List.forall_mem_cons.mpr ⟨ok_aload_n C (show decode cX11_now 66 = .ok (.aload_n 0, 1) by decide +kernel) rfl rfl, ?_⟩
  refine List.forall_mem_cons.mpr ⟨ok_iconst C (show decode cX11_now 67 = .ok (.iconst 0, 1) by decide +kernel) (by decide) rfl, ?_⟩
  refine List.forall_mem_cons.mpr ⟨ok_callV C h_X11_menOn ⟨rfl, rfl⟩ rfl kw_1469 kw_1466 kw_1468 kp_76 kw_11 rfl ds_X11_menOn ⟨by decide, by decide⟩ (show decode cX11_now 68 = .ok (.invokevirtual 280, 3) by decide +kernel) rfl, ?_⟩
  refine List.forall_mem_cons.mpr ⟨ok_ret C rfl (show decode cX11_now 71 = .ok (.ireturn, 1) by decide +kernel), ?_⟩
  refine List.forall_mem_cons.mpr ⟨ok_aload_n C (show decode cX11_now 72 = .ok (.aload_n 0, 1) by decide +kernel) rfl rfl, ?_⟩
  refine List.forall_mem_cons.mpr ⟨ok_iconst C (show decode cX11_now 73 = .ok (.iconst 1, 1) by decide +kernel) (by decide) rfl, ?_⟩
  refine List.forall_mem_cons.mpr ⟨ok_callV C h_X11_menOn ⟨rfl, rfl⟩ rfl kw_1469 kw_1466 kw_1468 kp_76 kw_11 rfl ds_X11_menOn ⟨by decide, by decide⟩ (show decode cX11_now 74 = .ok (.invokevirtual 280, 3) by decide +kernel) rfl, ?_⟩
  refine List.forall_mem_cons.mpr ⟨ok_ret C rfl (show decode cX11_now 77 = .ok (.ireturn, 1) by decide +kernel), ?_⟩
  refine List.forall_mem_cons.mpr ⟨ok_aload_n C (show decode cX11_now 78 = .ok (.aload_n 0, 1) by decide +kernel) rfl rfl, ?_⟩
  refine List.forall_mem_cons.mpr ⟨ok_getf C (wi_X11) rfl (by decide) kw_1186 (show decode cX11_now 79 = .ok (.getfield 33, 3) by decide +kernel) rfl, ?_⟩
  refine List.forall_mem_cons.mpr ⟨ok_bipush C (show decode cX11_now 82 = .ok (.bipush 121, 2) by decide +kernel) (by decide) rfl, ?_⟩
  refine List.forall_mem_cons.mpr ⟨ok_iaload C (show decode cX11_now 84 = .ok (.iaload, 1) by decide +kernel) rfl, ?_⟩
  refine List.forall_mem_cons.mpr ⟨ok_ret C rfl (show decode cX11_now 85 = .ok (.ireturn, 1) by decide +kernel), ?_⟩
  refine List.forall_mem_cons.mpr ⟨ok_aload_n C (show decode cX11_now 86 = .ok (.aload_n 0, 1) by decide +kernel) rfl rfl, ?_⟩
  refine List.forall_mem_cons.mpr ⟨ok_getf C (wi_X11) rfl (by decide) kw_1186 (show decode cX11_now 87 = .ok (.getfield 33, 3) by decide +kernel) rfl, ?_⟩
  refine List.forall_mem_cons.mpr ⟨ok_bipush C (show decode cX11_now 90 = .ok (.bipush 122, 2) by decide +kernel) (by decide) rfl, ?_⟩
  refine List.forall_mem_cons.mpr ⟨ok_iaload C (show decode cX11_now 92 = .ok (.iaload, 1) by decide +kernel) rfl, ?_⟩
  refine List.forall_mem_cons.mpr ⟨ok_ret C rfl (show decode cX11_now 93 = .ok (.ireturn, 1) by decide +kernel), ?_⟩
  refine List.forall_mem_cons.mpr ⟨ok_aload_n C (show decode cX11_now 94 = .ok (.aload_n 0, 1) by decide +kernel) rfl rfl, ?_⟩
  refine List.forall_mem_cons.mpr ⟨ok_getf C (wi_X11) rfl (by decide) kw_1186 (show decode cX11_now 95 = .ok (.getfield 33, 3) by decide +kernel) rfl, ?_⟩
  refine List.forall_mem_cons.mpr ⟨ok_bipush C (show decode cX11_now 98 = .ok (.bipush 123, 2) by decide +kernel) (by decide) rfl, ?_⟩
  refine List.forall_mem_cons.mpr ⟨ok_iaload C (show decode cX11_now 100 = .ok (.iaload, 1) by decide +kernel) rfl, ?_⟩
  refine List.forall_mem_cons.mpr ⟨ok_ret C rfl (show decode cX11_now 101 = .ok (.ireturn, 1) by decide +kernel), ?_⟩
  refine List.forall_mem_cons.mpr ⟨ok_iconst C (show decode cX11_now 102 = .ok (.iconst (-1), 1) by decide +kernel) (by decide) rfl, ?_⟩
  refine List.forall_mem_cons.mpr ⟨ok_ret C rfl (show decode cX11_now 103 = .ok (.ireturn, 1) by decide +kernel), ?_⟩
  exact fun _ h => absurd h List.not_mem_nil
def L_X11_goingSet (f_X11_isDead : List Value → ab_H → Option ab_O) (f_X11_missedBy : List Value → ab_H → Option ab_O) : List (Nat × ab_A) := [
  (0, ab_nx 1 (ab_aload 0)),
  (1, ab_nx 4 (ab_getf 11 6)),
  (4, ab_nx 6 (ab_lit (.int 120))),
  (6, ab_nx 7 (ab_ald 1)),
  (7, ab_nx 8 (ab_lit (.int 2))),
  (8, ab_nx 9 ab_irem),
  (9, ab_nx 10 (ab_istore 1)),
  (10, ab_nx 11 (ab_lit (.int 0))),
  (11, ab_nx 12 (ab_istore 2)),
  (12, ab_nx 13 (ab_aload 0)),
  (13, ab_nx 14 (ab_aload 0)),
  (14, ab_nx 17 (ab_getf 11 6)),
  (17, ab_nx 18 (ab_lit (.int 2))),
  (18, ab_nx 19 (ab_ald 1)),
  (19, ab_nx 22 (ab_putf 11 22 0)),
  (22, ab_nx 23 (ab_lit (.int 0))),
  (23, ab_nx 24 (ab_istore 3)),
  (24, ab_nx 25 (ab_iload 3)),
  (25, ab_nx 26 (ab_aload 0)),
  (26, ab_nx 29 (ab_getf 11 6)),
  (29, ab_nx 30 (ab_lit (.int 1))),
  (30, ab_nx 31 (ab_ald 1)),
  (31, ab_icmp 34 97 (fun x y => decide (y ≤ x))),
  (34, ab_nx 35 (ab_aload 0)),
  (35, ab_nx 36 (ab_iload 3)),
  (36, ab_nx 39 (ab_callV 2 11 f_X11_isDead 0 0 0 0)),
  (39, ab_if 42 91 (fun x => !decide (x = 0))),
  (42, ab_nx 43 (ab_aload 0)),
  (43, ab_nx 46 (ab_getf 11 6)),
  (46, ab_nx 49 (ab_lit (.int 172))),
  (49, ab_nx 50 (ab_iload 3)),
  (50, ab_nx 51 (ab_bin (fun x y => x + y))),
  (51, ab_nx 52 (ab_ald 1)),
  (52, ab_nx 53 (ab_iload 1)),
  (53, ab_icmp 56 91 (fun x y => !decide (x = y))),
  (56, ab_nx 57 (ab_aload 0)),
  (57, ab_nx 60 (ab_getf 11 22)),
  (60, ab_nx 61 (ab_lit (.int 2))),
  (61, ab_icmp 64 91 (fun x y => decide (x < y))),
  (64, ab_nx 65 (ab_aload 0)),
  (65, ab_nx 66 (ab_iload 3)),
  (66, ab_nx 69 (ab_callV 2 11 f_X11_missedBy 0 0 0 0)),
  (69, ab_if 72 75 (fun x => !decide (x = 0))),
  (72, ab_goto 91),
  (75, ab_nx 76 (ab_iload 2)),
  (76, ab_nx 77 (ab_lit (.int 1))),
  (77, ab_nx 78 (ab_iload 3)),
  (78, ab_nx 79 (ab_bin (fun x y => x <<< (y &&& 31)))),
  (79, ab_nx 80 (ab_bin (fun x y => x ||| y))),
  (80, ab_nx 81 (ab_istore 2)),
  (81, ab_nx 82 (ab_aload 0)),
  (82, ab_nx 83 ab_dup),
  (83, ab_nx 86 (ab_getf 11 22)),
  (86, ab_nx 87 (ab_lit (.int 2))),
  (87, ab_nx 88 (ab_bin (fun x y => x - y))),
  (88, ab_nx 91 (ab_putf 11 22 0)),
  (91, ab_nx 94 (ab_iinc 3 1)),
  (94, ab_goto 24),
  (97, ab_nx 98 (ab_iload 2)),
  (98, ab_ret 0 0)]
set_option maxRecDepth 100000 in
set_option maxHeartbeats 4000000 in
theorem M_X11_goingSet {l : Launch} {b : ab_B} {D : va_G} {cA : Nat → ClassId} {f_X11_isDead : List Value → ab_H → Option ab_O} (h_X11_isDead : ab_M l b D ab_cl cA (ab_E0 b) yX11_isDead (Cond.code yX11_isDead cX11_isDead 2 (some .boolean) :: ab_G) ({ frames := 2, cells := 0, slots := 0, locals := 200 } : Room) f_X11_isDead) {f_X11_missedBy : List Value → ab_H → Option ab_O} (h_X11_missedBy : ab_M l b D ab_cl cA (ab_E0 b) yX11_missedBy (Cond.code yX11_missedBy cX11_missedBy 4 (some .int) :: ab_G) ({ frames := 5, cells := 0, slots := 0, locals := 500 } : Room) f_X11_missedBy) : ab_M l b D ab_cl cA (ab_E0 b) yX11_goingSet (Cond.code yX11_goingSet cX11_goingSet 4 (some .int) :: ab_G) ({ frames := 6, cells := 0, slots := 0, locals := 600 } : Room) (ab_X (ab_T (L_X11_goingSet f_X11_isDead f_X11_missedBy)) 4) := by
  refine ab_meth (ret := (some .int)) (L_X11_goingSet f_X11_isDead f_X11_missedBy) (by decide) rfl fun p e R s m args below meth c o C => ?_
  unfold L_X11_goingSet
  refine List.forall_mem_cons.mpr ⟨ok_aload_n C (show decode cX11_goingSet 0 = .ok (.aload_n 0, 1) by decide +kernel) rfl rfl, ?_⟩
  refine List.forall_mem_cons.mpr ⟨ok_getf C (wi_X11) rfl (by decide) kw_1186 (show decode cX11_goingSet 1 = .ok (.getfield 33, 3) by decide +kernel) rfl, ?_⟩
  refine List.forall_mem_cons.mpr ⟨ok_bipush C (show decode cX11_goingSet 4 = .ok (.bipush 120, 2) by decide +kernel) (by decide) rfl, ?_⟩
  refine List.forall_mem_cons.mpr ⟨ok_iaload C (show decode cX11_goingSet 6 = .ok (.iaload, 1) by decide +kernel) rfl, ?_⟩
  refine List.forall_mem_cons.mpr ⟨ok_iconst C (show decode cX11_goingSet 7 = .ok (.iconst 2, 1) by decide +kernel) (by decide) rfl, ?_⟩
  refine List.forall_mem_cons.mpr ⟨ok_irem C (show decode cX11_goingSet 8 = .ok (.irem, 1) by decide +kernel) rfl, ?_⟩
  refine List.forall_mem_cons.mpr ⟨ok_istore_n C (show decode cX11_goingSet 9 = .ok (.istore_n 1, 1) by decide +kernel) rfl (by decide) rfl, ?_⟩
  refine List.forall_mem_cons.mpr ⟨ok_iconst C (show decode cX11_goingSet 10 = .ok (.iconst 0, 1) by decide +kernel) (by decide) rfl, ?_⟩
  refine List.forall_mem_cons.mpr ⟨ok_istore_n C (show decode cX11_goingSet 11 = .ok (.istore_n 2, 1) by decide +kernel) rfl (by decide) rfl, ?_⟩
  refine List.forall_mem_cons.mpr ⟨ok_aload_n C (show decode cX11_goingSet 12 = .ok (.aload_n 0, 1) by decide +kernel) rfl rfl, ?_⟩
  refine List.forall_mem_cons.mpr ⟨ok_aload_n C (show decode cX11_goingSet 13 = .ok (.aload_n 0, 1) by decide +kernel) rfl rfl, ?_⟩
  refine List.forall_mem_cons.mpr ⟨ok_getf C (wi_X11) rfl (by decide) kw_1186 (show decode cX11_goingSet 14 = .ok (.getfield 33, 3) by decide +kernel) rfl, ?_⟩
  refine List.forall_mem_cons.mpr ⟨ok_iconst C (show decode cX11_goingSet 17 = .ok (.iconst 2, 1) by decide +kernel) (by decide) rfl, ?_⟩
  refine List.forall_mem_cons.mpr ⟨ok_iaload C (show decode cX11_goingSet 18 = .ok (.iaload, 1) by decide +kernel) rfl, ?_⟩
  refine List.forall_mem_cons.mpr ⟨ok_putf C (wi_X11) tyX11 tyX11_ok nmX11 rfl (by decide) kw_1202 (Or.inl rfl) (Or.inl ⟨rfl, rfl⟩) (show decode cX11_goingSet 19 = .ok (.putfield 283, 3) by decide +kernel) rfl, ?_⟩
  refine List.forall_mem_cons.mpr ⟨ok_iconst C (show decode cX11_goingSet 22 = .ok (.iconst 0, 1) by decide +kernel) (by decide) rfl, ?_⟩
  refine List.forall_mem_cons.mpr ⟨ok_istore_n C (show decode cX11_goingSet 23 = .ok (.istore_n 3, 1) by decide +kernel) rfl (by decide) rfl, ?_⟩
  refine List.forall_mem_cons.mpr ⟨ok_iload_n C (show decode cX11_goingSet 24 = .ok (.iload_n 3, 1) by decide +kernel) rfl rfl, ?_⟩
  refine List.forall_mem_cons.mpr ⟨ok_aload_n C (show decode cX11_goingSet 25 = .ok (.aload_n 0, 1) by decide +kernel) rfl rfl, ?_⟩
  refine List.forall_mem_cons.mpr ⟨ok_getf C (wi_X11) rfl (by decide) kw_1186 (show decode cX11_goingSet 26 = .ok (.getfield 33, 3) by decide +kernel) rfl, ?_⟩
  refine List.forall_mem_cons.mpr ⟨ok_iconst C (show decode cX11_goingSet 29 = .ok (.iconst 1, 1) by decide +kernel) (by decide) rfl, ?_⟩
  refine List.forall_mem_cons.mpr ⟨ok_iaload C (show decode cX11_goingSet 30 = .ok (.iaload, 1) by decide +kernel) rfl, ?_⟩
  refine List.forall_mem_cons.mpr ⟨ok_icmpge C (show decode cX11_goingSet 31 = .ok (.if_icmp .ge 66, 3) by decide +kernel) (tg := 97) (by decide) rfl rfl, ?_⟩
  refine List.forall_mem_cons.mpr ⟨ok_aload_n C (show decode cX11_goingSet 34 = .ok (.aload_n 0, 1) by decide +kernel) rfl rfl, ?_⟩
  refine List.forall_mem_cons.mpr ⟨ok_iload_n C (show decode cX11_goingSet 35 = .ok (.iload_n 3, 1) by decide +kernel) rfl rfl, ?_⟩
  refine List.forall_mem_cons.mpr ⟨ok_callV C h_X11_isDead ⟨rfl, rfl⟩ rfl kw_1441 kw_1438 kw_1440 kp_71 kw_11 rfl ds_X11_isDead ⟨by decide, by decide⟩ (show decode cX11_goingSet 36 = .ok (.invokevirtual 257, 3) by decide +kernel) rfl, ?_⟩
  refine List.forall_mem_cons.mpr ⟨ok_ifne C (show decode cX11_goingSet 39 = .ok (.ifCond .ne 52, 3) by decide +kernel) (tg := 91) (by decide) rfl rfl, ?_⟩
  refine List.forall_mem_cons.mpr ⟨ok_aload_n C (show decode cX11_goingSet 42 = .ok (.aload_n 0, 1) by decide +kernel) rfl rfl, ?_⟩
  refine List.forall_mem_cons.mpr ⟨ok_getf C (wi_X11) rfl (by decide) kw_1186 (show decode cX11_goingSet 43 = .ok (.getfield 33, 3) by decide +kernel) rfl, ?_⟩
  refine List.forall_mem_cons.mpr ⟨ok_sipush C (show decode cX11_goingSet 46 = .ok (.sipush 172, 3) by decide +kernel) (by decide) rfl, ?_⟩
  refine List.forall_mem_cons.mpr ⟨ok_iload_n C (show decode cX11_goingSet 49 = .ok (.iload_n 3, 1) by decide +kernel) rfl rfl, ?_⟩
  refine List.forall_mem_cons.mpr ⟨ok_iadd C (show decode cX11_goingSet 50 = .ok (.iadd, 1) by decide +kernel) rfl, ?_⟩
  refine List.forall_mem_cons.mpr ⟨ok_iaload C (show decode cX11_goingSet 51 = .ok (.iaload, 1) by decide +kernel) rfl, ?_⟩
  refine List.forall_mem_cons.mpr ⟨ok_iload_n C (show decode cX11_goingSet 52 = .ok (.iload_n 1, 1) by decide +kernel) rfl rfl, ?_⟩
  refine List.forall_mem_cons.mpr ⟨ok_icmpne C (show decode cX11_goingSet 53 = .ok (.if_icmp .ne 38, 3) by decide +kernel) (tg := 91) (by decide) rfl rfl, ?_⟩
  refine List.forall_mem_cons.mpr ⟨ok_aload_n C (show decode cX11_goingSet 56 = .ok (.aload_n 0, 1) by decide +kernel) rfl rfl, ?_⟩
  refine List.forall_mem_cons.mpr ⟨ok_getf C (wi_X11) rfl (by decide) kw_1202 (show decode cX11_goingSet 57 = .ok (.getfield 283, 3) by decide +kernel) rfl, ?_⟩
  refine List.forall_mem_cons.mpr ⟨ok_iconst C (show decode cX11_goingSet 60 = .ok (.iconst 2, 1) by decide +kernel) (by decide) rfl, ?_⟩
  refine List.forall_mem_cons.mpr ⟨ok_icmplt C (show decode cX11_goingSet 61 = .ok (.if_icmp .lt 30, 3) by decide +kernel) (tg := 91) (by decide) rfl rfl, ?_⟩
  refine List.forall_mem_cons.mpr ⟨ok_aload_n C (show decode cX11_goingSet 64 = .ok (.aload_n 0, 1) by decide +kernel) rfl rfl, ?_⟩
  refine List.forall_mem_cons.mpr ⟨ok_iload_n C (show decode cX11_goingSet 65 = .ok (.iload_n 3, 1) by decide +kernel) rfl rfl, ?_⟩
  refine List.forall_mem_cons.mpr ⟨ok_callV C h_X11_missedBy ⟨rfl, rfl⟩ rfl kw_1445 kw_1442 kw_1444 kp_72 kw_11 rfl ds_X11_missedBy ⟨by decide, by decide⟩ (show decode cX11_goingSet 66 = .ok (.invokevirtual 273, 3) by decide +kernel) rfl, ?_⟩
  refine List.forall_mem_cons.mpr ⟨ok_ifne C (show decode cX11_goingSet 69 = .ok (.ifCond .ne 6, 3) by decide +kernel) (tg := 75) (by decide) rfl rfl, ?_⟩
  refine List.forall_mem_cons.mpr ⟨ok_goto C (show decode cX11_goingSet 72 = .ok (.goto 19, 3) by decide +kernel) (tg := 91) (by decide) rfl, ?_⟩
  refine List.forall_mem_cons.mpr ⟨ok_iload_n C (show decode cX11_goingSet 75 = .ok (.iload_n 2, 1) by decide +kernel) rfl rfl, ?_⟩
  refine List.forall_mem_cons.mpr ⟨ok_iconst C (show decode cX11_goingSet 76 = .ok (.iconst 1, 1) by decide +kernel) (by decide) rfl, ?_⟩
  refine List.forall_mem_cons.mpr ⟨ok_iload_n C (show decode cX11_goingSet 77 = .ok (.iload_n 3, 1) by decide +kernel) rfl rfl, ?_⟩
  refine List.forall_mem_cons.mpr ⟨ok_ishl C (show decode cX11_goingSet 78 = .ok (.ishl, 1) by decide +kernel) rfl, ?_⟩
  refine List.forall_mem_cons.mpr ⟨ok_ior C (show decode cX11_goingSet 79 = .ok (.ior, 1) by decide +kernel) rfl, ?_⟩
  refine List.forall_mem_cons.mpr ⟨ok_istore_n C (show decode cX11_goingSet 80 = .ok (.istore_n 2, 1) by decide +kernel) rfl (by decide) rfl, ?_⟩
  refine List.forall_mem_cons.mpr ⟨ok_aload_n C (show decode cX11_goingSet 81 = .ok (.aload_n 0, 1) by decide +kernel) rfl rfl, ?_⟩
  refine List.forall_mem_cons.mpr ⟨ok_dup C (show decode cX11_goingSet 82 = .ok (.dup, 1) by decide +kernel) rfl, ?_⟩
  refine List.forall_mem_cons.mpr ⟨ok_getf C (wi_X11) rfl (by decide) kw_1202 (show decode cX11_goingSet 83 = .ok (.getfield 283, 3) by decide +kernel) rfl, ?_⟩
  refine List.forall_mem_cons.mpr ⟨ok_iconst C (show decode cX11_goingSet 86 = .ok (.iconst 2, 1) by decide +kernel) (by decide) rfl, ?_⟩
  refine List.forall_mem_cons.mpr ⟨ok_isub C (show decode cX11_goingSet 87 = .ok (.isub, 1) by decide +kernel) rfl, ?_⟩
  refine List.forall_mem_cons.mpr ⟨ok_putf C (wi_X11) tyX11 tyX11_ok nmX11 rfl (by decide) kw_1202 (Or.inl rfl) (Or.inl ⟨rfl, rfl⟩) (show decode cX11_goingSet 88 = .ok (.putfield 283, 3) by decide +kernel) rfl, ?_⟩
  refine List.forall_mem_cons.mpr ⟨ok_iinc C (show decode cX11_goingSet 91 = .ok (.iinc 3 1, 3) by decide +kernel) (by decide) (by decide) rfl, ?_⟩
  refine List.forall_mem_cons.mpr ⟨ok_goto C (show decode cX11_goingSet 94 = .ok (.goto (-70), 3) by decide +kernel) (tg := 24) (by decide) rfl, ?_⟩
  refine List.forall_mem_cons.mpr ⟨ok_iload_n C (show decode cX11_goingSet 97 = .ok (.iload_n 2, 1) by decide +kernel) rfl rfl, ?_⟩
  refine List.forall_mem_cons.mpr ⟨ok_ret C rfl (show decode cX11_goingSet 98 = .ok (.ireturn, 1) by decide +kernel), ?_⟩
  exact fun _ h => absurd h List.not_mem_nil
def L_X11_goesOf (f_X11_cell : List Value → ab_H → Option ab_O) (f_X11_lackOf : List Value → ab_H → Option ab_O) (f_X11_lesser : List Value → ab_H → Option ab_O) : List (Nat × ab_A) := [
  (0, ab_nx 1 (ab_aload 0)),
  (1, ab_nx 4 (ab_getf 11 6)),
  (4, ab_nx 6 (ab_lit (.int 120))),
  (6, ab_nx 7 (ab_ald 1)),
  (7, ab_nx 8 (ab_lit (.int 2))),
  (8, ab_nx 9 ab_irem),
  (9, ab_nx 10 (ab_istore 2)),
  (10, ab_nx 11 (ab_aload 0)),
  (11, ab_nx 14 (ab_getf 11 22)),
  (14, ab_nx 15 (ab_aload 0)),
  (15, ab_nx 18 (ab_getf 11 6)),
  (18, ab_nx 20 (ab_lit (.int 124))),
  (20, ab_nx 21 (ab_iload 1)),
  (21, ab_nx 22 (ab_iload 2)),
  (22, ab_nx 25 (ab_call 2 f_X11_cell 0 0 0 0)),
  (25, ab_nx 26 (ab_bin (fun x y => x + y))),
  (26, ab_nx 27 (ab_ald 1)),
  (27, ab_nx 28 (ab_aload 0)),
  (28, ab_nx 29 (ab_iload 1)),
  (29, ab_nx 30 (ab_lit (.int 1))),
  (30, ab_nx 31 (ab_iload 2)),
  (31, ab_nx 32 (ab_bin (fun x y => x - y))),
  (32, ab_nx 35 (ab_callV 3 11 f_X11_lackOf 0 0 0 0)),
  (35, ab_nx 38 (ab_call 2 f_X11_lesser 0 0 0 0)),
  (38, ab_nx 41 (ab_call 2 f_X11_lesser 0 0 0 0)),
  (41, ab_ret 0 0)]
set_option maxRecDepth 100000 in
set_option maxHeartbeats 4000000 in
theorem M_X11_goesOf {l : Launch} {b : ab_B} {D : va_G} {cA : Nat → ClassId} {f_X11_cell : List Value → ab_H → Option ab_O} (h_X11_cell : ab_M l b D ab_cl cA (ab_E0 b) yX11_cell (Cond.code yX11_cell cX11_cell 2 (some .int) :: ab_G) ({ frames := 1, cells := 0, slots := 0, locals := 100 } : Room) f_X11_cell) {f_X11_lackOf : List Value → ab_H → Option ab_O} (h_X11_lackOf : ab_M l b D ab_cl cA (ab_E0 b) yX11_lackOf (Cond.code yX11_lackOf cX11_lackOf 4 (some .int) :: ab_G) ({ frames := 2, cells := 0, slots := 0, locals := 200 } : Room) f_X11_lackOf) {f_X11_lesser : List Value → ab_H → Option ab_O} (h_X11_lesser : ab_M l b D ab_cl cA (ab_E0 b) yX11_lesser (Cond.code yX11_lesser cX11_lesser 2 (some .int) :: ab_G) ({ frames := 1, cells := 0, slots := 0, locals := 100 } : Room) f_X11_lesser) : ab_M l b D ab_cl cA (ab_E0 b) yX11_goesOf (Cond.code yX11_goesOf cX11_goesOf 3 (some .int) :: ab_G) ({ frames := 3, cells := 0, slots := 0, locals := 300 } : Room) (ab_X (ab_T (L_X11_goesOf f_X11_cell f_X11_lackOf f_X11_lesser)) 3) := by
  refine ab_meth (ret := (some .int)) (L_X11_goesOf f_X11_cell f_X11_lackOf f_X11_lesser) (by decide) rfl fun p e R s m args below meth c o C => ?_
  unfold L_X11_goesOf
  refine List.forall_mem_cons.mpr ⟨ok_aload_n C (show decode cX11_goesOf 0 = .ok (.aload_n 0, 1) by decide +kernel) rfl rfl, ?_⟩
  refine List.forall_mem_cons.mpr ⟨ok_getf C (wi_X11) rfl (by decide) kw_1186 (show decode cX11_goesOf 1 = .ok (.getfield 33, 3) by decide +kernel) rfl, ?_⟩
  refine List.forall_mem_cons.mpr ⟨ok_bipush C (show decode cX11_goesOf 4 = .ok (.bipush 120, 2) by decide +kernel) (by decide) rfl, ?_⟩
  refine List.forall_mem_cons.mpr ⟨ok_iaload C (show decode cX11_goesOf 6 = .ok (.iaload, 1) by decide +kernel) rfl, ?_⟩
  refine List.forall_mem_cons.mpr ⟨ok_iconst C (show decode cX11_goesOf 7 = .ok (.iconst 2, 1) by decide +kernel) (by decide) rfl, ?_⟩
  refine List.forall_mem_cons.mpr ⟨ok_irem C (show decode cX11_goesOf 8 = .ok (.irem, 1) by decide +kernel) rfl, ?_⟩
  refine List.forall_mem_cons.mpr ⟨ok_istore_n C (show decode cX11_goesOf 9 = .ok (.istore_n 2, 1) by decide +kernel) rfl (by decide) rfl, ?_⟩
  refine List.forall_mem_cons.mpr ⟨ok_aload_n C (show decode cX11_goesOf 10 = .ok (.aload_n 0, 1) by decide +kernel) rfl rfl, ?_⟩
  refine List.forall_mem_cons.mpr ⟨ok_getf C (wi_X11) rfl (by decide) kw_1202 (show decode cX11_goesOf 11 = .ok (.getfield 283, 3) by decide +kernel) rfl, ?_⟩
  refine List.forall_mem_cons.mpr ⟨ok_aload_n C (show decode cX11_goesOf 14 = .ok (.aload_n 0, 1) by decide +kernel) rfl rfl, ?_⟩
  refine List.forall_mem_cons.mpr ⟨ok_getf C (wi_X11) rfl (by decide) kw_1186 (show decode cX11_goesOf 15 = .ok (.getfield 33, 3) by decide +kernel) rfl, ?_⟩
  refine List.forall_mem_cons.mpr ⟨ok_bipush C (show decode cX11_goesOf 18 = .ok (.bipush 124, 2) by decide +kernel) (by decide) rfl, ?_⟩
  refine List.forall_mem_cons.mpr ⟨ok_iload_n C (show decode cX11_goesOf 20 = .ok (.iload_n 1, 1) by decide +kernel) rfl rfl, ?_⟩
  refine List.forall_mem_cons.mpr ⟨ok_iload_n C (show decode cX11_goesOf 21 = .ok (.iload_n 2, 1) by decide +kernel) rfl rfl, ?_⟩
  refine List.forall_mem_cons.mpr ⟨ok_callS C h_X11_cell ⟨rfl, rfl⟩ kw_1413 kw_1411 kw_1412 kw_11 ds_X11_cell ⟨by decide, by decide⟩ (show decode cX11_goesOf 22 = .ok (.invokestatic 245, 3) by decide +kernel) rfl, ?_⟩
  refine List.forall_mem_cons.mpr ⟨ok_iadd C (show decode cX11_goesOf 25 = .ok (.iadd, 1) by decide +kernel) rfl, ?_⟩
  refine List.forall_mem_cons.mpr ⟨ok_iaload C (show decode cX11_goesOf 26 = .ok (.iaload, 1) by decide +kernel) rfl, ?_⟩
  refine List.forall_mem_cons.mpr ⟨ok_aload_n C (show decode cX11_goesOf 27 = .ok (.aload_n 0, 1) by decide +kernel) rfl rfl, ?_⟩
  refine List.forall_mem_cons.mpr ⟨ok_iload_n C (show decode cX11_goesOf 28 = .ok (.iload_n 1, 1) by decide +kernel) rfl rfl, ?_⟩
  refine List.forall_mem_cons.mpr ⟨ok_iconst C (show decode cX11_goesOf 29 = .ok (.iconst 1, 1) by decide +kernel) (by decide) rfl, ?_⟩
  refine List.forall_mem_cons.mpr ⟨ok_iload_n C (show decode cX11_goesOf 30 = .ok (.iload_n 2, 1) by decide +kernel) rfl rfl, ?_⟩
  refine List.forall_mem_cons.mpr ⟨ok_isub C (show decode cX11_goesOf 31 = .ok (.isub, 1) by decide +kernel) rfl, ?_⟩
  refine List.forall_mem_cons.mpr ⟨ok_callV C h_X11_lackOf ⟨rfl, rfl⟩ rfl kw_1417 kw_1414 kw_1416 kp_67 kw_11 rfl ds_X11_lackOf ⟨by decide, by decide⟩ (show decode cX11_goesOf 32 = .ok (.invokevirtual 248, 3) by decide +kernel) rfl, ?_⟩
  refine List.forall_mem_cons.mpr ⟨ok_callS C h_X11_lesser ⟨rfl, rfl⟩ kw_1524 kw_1522 kw_1523 kw_11 ds_X11_lesser ⟨by decide, by decide⟩ (show decode cX11_goesOf 35 = .ok (.invokestatic 286, 3) by decide +kernel) rfl, ?_⟩
  refine List.forall_mem_cons.mpr ⟨ok_callS C h_X11_lesser ⟨rfl, rfl⟩ kw_1524 kw_1522 kw_1523 kw_11 ds_X11_lesser ⟨by decide, by decide⟩ (show decode cX11_goesOf 38 = .ok (.invokestatic 286, 3) by decide +kernel) rfl, ?_⟩
  refine List.forall_mem_cons.mpr ⟨ok_ret C rfl (show decode cX11_goesOf 41 = .ok (.ireturn, 1) by decide +kernel), ?_⟩
  exact fun _ h => absurd h List.not_mem_nil
def L_X11_eats (f_X11_lesser : List Value → ab_H → Option ab_O) : List (Nat × ab_A) := [
  (0, ab_nx 1 (ab_aload 0)),
  (1, ab_nx 4 (ab_getf 11 6)),
  (4, ab_nx 6 (ab_lit (.int 124))),
  (6, ab_nx 7 (ab_iload 1)),
  (7, ab_nx 8 (ab_bin (fun x y => x + y))),
  (8, ab_nx 11 (ab_lit (.int 999))),
  (11, ab_nx 12 (ab_aload 0)),
  (12, ab_nx 15 (ab_getf 11 6)),
  (15, ab_nx 17 (ab_lit (.int 124))),
  (17, ab_nx 18 (ab_iload 1)),
  (18, ab_nx 19 (ab_bin (fun x y => x + y))),
  (19, ab_nx 20 (ab_ald 1)),
  (20, ab_nx 21 (ab_aload 0)),
  (21, ab_nx 24 (ab_getf 11 6)),
  (24, ab_nx 26 (ab_lit (.int 40))),
  (26, ab_nx 27 (ab_iload 1)),
  (27, ab_nx 28 (ab_bin (fun x y => x + y))),
  (28, ab_nx 29 (ab_ald 1)),
  (29, ab_nx 30 (ab_bin (fun x y => x + y))),
  (30, ab_nx 33 (ab_call 2 f_X11_lesser 0 0 0 0)),
  (33, ab_nx 34 (ab_ast 1)),
  (34, ab_nx 35 (ab_aload 0)),
  (35, ab_nx 38 (ab_getf 11 6)),
  (38, ab_nx 40 (ab_lit (.int 28))),
  (40, ab_nx 41 (ab_iload 1)),
  (41, ab_nx 42 (ab_bin (fun x y => x + y))),
  (42, ab_nx 43 (ab_ald 1)),
  (43, ab_nx 44 (ab_aload 0)),
  (44, ab_nx 47 (ab_getf 11 6)),
  (47, ab_nx 49 (ab_lit (.int 124))),
  (49, ab_nx 50 (ab_iload 1)),
  (50, ab_nx 51 (ab_bin (fun x y => x + y))),
  (51, ab_nx 52 (ab_ald 1)),
  (52, ab_nx 53 (ab_bin (fun x y => x - y))),
  (53, ab_nx 54 (ab_istore 2)),
  (54, ab_nx 55 (ab_iload 2)),
  (55, ab_if 58 96 (fun x => decide (x ≤ 0))),
  (58, ab_nx 59 (ab_aload 0)),
  (59, ab_nx 62 (ab_getf 11 6)),
  (62, ab_nx 65 (ab_lit (.int 148))),
  (65, ab_nx 66 (ab_iload 1)),
  (66, ab_nx 67 (ab_bin (fun x y => x + y))),
  (67, ab_nx 68 ab_dup2),
  (68, ab_nx 69 (ab_ald 1)),
  (69, ab_nx 70 (ab_iload 2)),
  (70, ab_nx 71 (ab_bin (fun x y => x + y))),
  (71, ab_nx 72 (ab_ast 1)),
  (72, ab_nx 73 (ab_aload 0)),
  (73, ab_nx 76 (ab_getf 11 6)),
  (76, ab_nx 78 (ab_lit (.int 123))),
  (78, ab_nx 79 ab_dup2),
  (79, ab_nx 80 (ab_ald 1)),
  (80, ab_nx 81 (ab_iload 2)),
  (81, ab_nx 82 (ab_bin (fun x y => x + y))),
  (82, ab_nx 83 (ab_ast 1)),
  (83, ab_nx 84 (ab_aload 0)),
  (84, ab_nx 87 (ab_getf 11 6)),
  (87, ab_nx 89 (ab_lit (.int 124))),
  (89, ab_nx 90 (ab_iload 1)),
  (90, ab_nx 91 (ab_bin (fun x y => x + y))),
  (91, ab_nx 92 (ab_lit (.int 0))),
  (92, ab_nx 93 (ab_ast 1)),
  (93, ab_goto 117),
  (96, ab_nx 97 (ab_aload 0)),
  (97, ab_nx 100 (ab_getf 11 6)),
  (100, ab_nx 102 (ab_lit (.int 124))),
  (102, ab_nx 103 (ab_iload 1)),
  (103, ab_nx 104 (ab_bin (fun x y => x + y))),
  (104, ab_nx 105 ab_dup2),
  (105, ab_nx 106 (ab_ald 1)),
  (106, ab_nx 107 (ab_aload 0)),
  (107, ab_nx 110 (ab_getf 11 6)),
  (110, ab_nx 112 (ab_lit (.int 28))),
  (112, ab_nx 113 (ab_iload 1)),
  (113, ab_nx 114 (ab_bin (fun x y => x + y))),
  (114, ab_nx 115 (ab_ald 1)),
  (115, ab_nx 116 (ab_bin (fun x y => x - y))),
  (116, ab_nx 117 (ab_ast 1)),
  (117, ab_vret 0 0)]
set_option maxRecDepth 100000 in
set_option maxHeartbeats 4000000 in
theorem M_X11_eats {l : Launch} {b : ab_B} {D : va_G} {cA : Nat → ClassId} {f_X11_lesser : List Value → ab_H → Option ab_O} (h_X11_lesser : ab_M l b D ab_cl cA (ab_E0 b) yX11_lesser (Cond.code yX11_lesser cX11_lesser 2 (some .int) :: ab_G) ({ frames := 1, cells := 0, slots := 0, locals := 100 } : Room) f_X11_lesser) : ab_M l b D ab_cl cA (ab_E0 b) yX11_eats (Cond.code yX11_eats cX11_eats 3 none :: ab_G) ({ frames := 2, cells := 0, slots := 0, locals := 200 } : Room) (ab_X (ab_T (L_X11_eats f_X11_lesser)) 3) := by
  refine ab_meth (ret := none) (L_X11_eats f_X11_lesser) (by decide) rfl fun p e R s m args below meth c o C => ?_
  unfold L_X11_eats
  refine List.forall_mem_cons.mpr ⟨ok_aload_n C (show decode cX11_eats 0 = .ok (.aload_n 0, 1) by decide +kernel) rfl rfl, ?_⟩
  refine List.forall_mem_cons.mpr ⟨ok_getf C (wi_X11) rfl (by decide) kw_1186 (show decode cX11_eats 1 = .ok (.getfield 33, 3) by decide +kernel) rfl, ?_⟩
  refine List.forall_mem_cons.mpr ⟨ok_bipush C (show decode cX11_eats 4 = .ok (.bipush 124, 2) by decide +kernel) (by decide) rfl, ?_⟩
  refine List.forall_mem_cons.mpr ⟨ok_iload_n C (show decode cX11_eats 6 = .ok (.iload_n 1, 1) by decide +kernel) rfl rfl, ?_⟩
  refine List.forall_mem_cons.mpr ⟨ok_iadd C (show decode cX11_eats 7 = .ok (.iadd, 1) by decide +kernel) rfl, ?_⟩
  refine List.forall_mem_cons.mpr ⟨ok_sipush C (show decode cX11_eats 8 = .ok (.sipush 999, 3) by decide +kernel) (by decide) rfl, ?_⟩
  refine List.forall_mem_cons.mpr ⟨ok_aload_n C (show decode cX11_eats 11 = .ok (.aload_n 0, 1) by decide +kernel) rfl rfl, ?_⟩
  refine List.forall_mem_cons.mpr ⟨ok_getf C (wi_X11) rfl (by decide) kw_1186 (show decode cX11_eats 12 = .ok (.getfield 33, 3) by decide +kernel) rfl, ?_⟩
  refine List.forall_mem_cons.mpr ⟨ok_bipush C (show decode cX11_eats 15 = .ok (.bipush 124, 2) by decide +kernel) (by decide) rfl, ?_⟩
  refine List.forall_mem_cons.mpr ⟨ok_iload_n C (show decode cX11_eats 17 = .ok (.iload_n 1, 1) by decide +kernel) rfl rfl, ?_⟩
  refine List.forall_mem_cons.mpr ⟨ok_iadd C (show decode cX11_eats 18 = .ok (.iadd, 1) by decide +kernel) rfl, ?_⟩
  refine List.forall_mem_cons.mpr ⟨ok_iaload C (show decode cX11_eats 19 = .ok (.iaload, 1) by decide +kernel) rfl, ?_⟩
  refine List.forall_mem_cons.mpr ⟨ok_aload_n C (show decode cX11_eats 20 = .ok (.aload_n 0, 1) by decide +kernel) rfl rfl, ?_⟩
  refine List.forall_mem_cons.mpr ⟨ok_getf C (wi_X11) rfl (by decide) kw_1186 (show decode cX11_eats 21 = .ok (.getfield 33, 3) by decide +kernel) rfl, ?_⟩
  refine List.forall_mem_cons.mpr ⟨ok_bipush C (show decode cX11_eats 24 = .ok (.bipush 40, 2) by decide +kernel) (by decide) rfl, ?_⟩
  refine List.forall_mem_cons.mpr ⟨ok_iload_n C (show decode cX11_eats 26 = .ok (.iload_n 1, 1) by decide +kernel) rfl rfl, ?_⟩
  refine List.forall_mem_cons.mpr ⟨ok_iadd C (show decode cX11_eats 27 = .ok (.iadd, 1) by decide +kernel) rfl, ?_⟩
  refine List.forall_mem_cons.mpr ⟨ok_iaload C (show decode cX11_eats 28 = .ok (.iaload, 1) by decide +kernel) rfl, ?_⟩
  refine List.forall_mem_cons.mpr ⟨ok_iadd C (show decode cX11_eats 29 = .ok (.iadd, 1) by decide +kernel) rfl, ?_⟩
  refine List.forall_mem_cons.mpr ⟨ok_callS C h_X11_lesser ⟨rfl, rfl⟩ kw_1524 kw_1522 kw_1523 kw_11 ds_X11_lesser ⟨by decide, by decide⟩ (show decode cX11_eats 30 = .ok (.invokestatic 286, 3) by decide +kernel) rfl, ?_⟩
  refine List.forall_mem_cons.mpr ⟨ok_iastore C (show decode cX11_eats 33 = .ok (.iastore, 1) by decide +kernel) rfl, ?_⟩
  refine List.forall_mem_cons.mpr ⟨ok_aload_n C (show decode cX11_eats 34 = .ok (.aload_n 0, 1) by decide +kernel) rfl rfl, ?_⟩
  refine List.forall_mem_cons.mpr ⟨ok_getf C (wi_X11) rfl (by decide) kw_1186 (show decode cX11_eats 35 = .ok (.getfield 33, 3) by decide +kernel) rfl, ?_⟩
  refine List.forall_mem_cons.mpr ⟨ok_bipush C (show decode cX11_eats 38 = .ok (.bipush 28, 2) by decide +kernel) (by decide) rfl, ?_⟩
  refine List.forall_mem_cons.mpr ⟨ok_iload_n C (show decode cX11_eats 40 = .ok (.iload_n 1, 1) by decide +kernel) rfl rfl, ?_⟩
  refine List.forall_mem_cons.mpr ⟨ok_iadd C (show decode cX11_eats 41 = .ok (.iadd, 1) by decide +kernel) rfl, ?_⟩
  refine List.forall_mem_cons.mpr ⟨ok_iaload C (show decode cX11_eats 42 = .ok (.iaload, 1) by decide +kernel) rfl, ?_⟩
  refine List.forall_mem_cons.mpr ⟨ok_aload_n C (show decode cX11_eats 43 = .ok (.aload_n 0, 1) by decide +kernel) rfl rfl, ?_⟩
  refine List.forall_mem_cons.mpr ⟨ok_getf C (wi_X11) rfl (by decide) kw_1186 (show decode cX11_eats 44 = .ok (.getfield 33, 3) by decide +kernel) rfl, ?_⟩
  refine List.forall_mem_cons.mpr ⟨ok_bipush C (show decode cX11_eats 47 = .ok (.bipush 124, 2) by decide +kernel) (by decide) rfl, ?_⟩
  refine List.forall_mem_cons.mpr ⟨ok_iload_n C (show decode cX11_eats 49 = .ok (.iload_n 1, 1) by decide +kernel) rfl rfl, ?_⟩
  refine List.forall_mem_cons.mpr ⟨ok_iadd C (show decode cX11_eats 50 = .ok (.iadd, 1) by decide +kernel) rfl, ?_⟩
  refine List.forall_mem_cons.mpr ⟨ok_iaload C (show decode cX11_eats 51 = .ok (.iaload, 1) by decide +kernel) rfl, ?_⟩
  refine List.forall_mem_cons.mpr ⟨ok_isub C (show decode cX11_eats 52 = .ok (.isub, 1) by decide +kernel) rfl, ?_⟩
  refine List.forall_mem_cons.mpr ⟨ok_istore_n C (show decode cX11_eats 53 = .ok (.istore_n 2, 1) by decide +kernel) rfl (by decide) rfl, ?_⟩
  refine List.forall_mem_cons.mpr ⟨ok_iload_n C (show decode cX11_eats 54 = .ok (.iload_n 2, 1) by decide +kernel) rfl rfl, ?_⟩
  refine List.forall_mem_cons.mpr ⟨ok_ifle C (show decode cX11_eats 55 = .ok (.ifCond .le 41, 3) by decide +kernel) (tg := 96) (by decide) rfl rfl, ?_⟩
  refine List.forall_mem_cons.mpr ⟨ok_aload_n C (show decode cX11_eats 58 = .ok (.aload_n 0, 1) by decide +kernel) rfl rfl, ?_⟩
  refine List.forall_mem_cons.mpr ⟨ok_getf C (wi_X11) rfl (by decide) kw_1186 (show decode cX11_eats 59 = .ok (.getfield 33, 3) by decide +kernel) rfl, ?_⟩
  refine List.forall_mem_cons.mpr ⟨ok_sipush C (show decode cX11_eats 62 = .ok (.sipush 148, 3) by decide +kernel) (by decide) rfl, ?_⟩
  refine List.forall_mem_cons.mpr ⟨ok_iload_n C (show decode cX11_eats 65 = .ok (.iload_n 1, 1) by decide +kernel) rfl rfl, ?_⟩
  refine List.forall_mem_cons.mpr ⟨ok_iadd C (show decode cX11_eats 66 = .ok (.iadd, 1) by decide +kernel) rfl, ?_⟩
  refine List.forall_mem_cons.mpr ⟨ok_dup2 C (show decode cX11_eats 67 = .ok (.dup2, 1) by decide +kernel) rfl, ?_⟩
  refine List.forall_mem_cons.mpr ⟨ok_iaload C (show decode cX11_eats 68 = .ok (.iaload, 1) by decide +kernel) rfl, ?_⟩
  refine List.forall_mem_cons.mpr ⟨ok_iload_n C (show decode cX11_eats 69 = .ok (.iload_n 2, 1) by decide +kernel) rfl rfl, ?_⟩
  refine List.forall_mem_cons.mpr ⟨ok_iadd C (show decode cX11_eats 70 = .ok (.iadd, 1) by decide +kernel) rfl, ?_⟩
  refine List.forall_mem_cons.mpr ⟨ok_iastore C (show decode cX11_eats 71 = .ok (.iastore, 1) by decide +kernel) rfl, ?_⟩
  refine List.forall_mem_cons.mpr ⟨ok_aload_n C (show decode cX11_eats 72 = .ok (.aload_n 0, 1) by decide +kernel) rfl rfl, ?_⟩
  refine List.forall_mem_cons.mpr ⟨ok_getf C (wi_X11) rfl (by decide) kw_1186 (show decode cX11_eats 73 = .ok (.getfield 33, 3) by decide +kernel) rfl, ?_⟩
  refine List.forall_mem_cons.mpr ⟨ok_bipush C (show decode cX11_eats 76 = .ok (.bipush 123, 2) by decide +kernel) (by decide) rfl, ?_⟩
  refine List.forall_mem_cons.mpr ⟨ok_dup2 C (show decode cX11_eats 78 = .ok (.dup2, 1) by decide +kernel) rfl, ?_⟩
  refine List.forall_mem_cons.mpr ⟨ok_iaload C (show decode cX11_eats 79 = .ok (.iaload, 1) by decide +kernel) rfl, ?_⟩
  refine List.forall_mem_cons.mpr ⟨ok_iload_n C (show decode cX11_eats 80 = .ok (.iload_n 2, 1) by decide +kernel) rfl rfl, ?_⟩
  refine List.forall_mem_cons.mpr ⟨ok_iadd C (show decode cX11_eats 81 = .ok (.iadd, 1) by decide +kernel) rfl, ?_⟩
  refine List.forall_mem_cons.mpr ⟨ok_iastore C (show decode cX11_eats 82 = .ok (.iastore, 1) by decide +kernel) rfl, ?_⟩
  refine List.forall_mem_cons.mpr ⟨ok_aload_n C (show decode cX11_eats 83 = .ok (.aload_n 0, 1) by decide +kernel) rfl rfl, ?_⟩
  refine List.forall_mem_cons.mpr ⟨ok_getf C (wi_X11) rfl (by decide) kw_1186 (show decode cX11_eats 84 = .ok (.getfield 33, 3) by decide +kernel) rfl, ?_⟩
  refine List.forall_mem_cons.mpr ⟨ok_bipush C (show decode cX11_eats 87 = .ok (.bipush 124, 2) by decide +kernel) (by decide) rfl, ?_⟩
  refine List.forall_mem_cons.mpr ⟨ok_iload_n C (show decode cX11_eats 89 = .ok (.iload_n 1, 1) by decide +kernel) rfl rfl, ?_⟩
  refine List.forall_mem_cons.mpr ⟨ok_iadd C (show decode cX11_eats 90 = .ok (.iadd, 1) by decide +kernel) rfl, ?_⟩
  refine List.forall_mem_cons.mpr ⟨ok_iconst C (show decode cX11_eats 91 = .ok (.iconst 0, 1) by decide +kernel) (by decide) rfl, ?_⟩
  refine List.forall_mem_cons.mpr ⟨ok_iastore C (show decode cX11_eats 92 = .ok (.iastore, 1) by decide +kernel) rfl, ?_⟩
  refine List.forall_mem_cons.mpr ⟨ok_goto C (show decode cX11_eats 93 = .ok (.goto 24, 3) by decide +kernel) (tg := 117) (by decide) rfl, ?_⟩
  refine List.forall_mem_cons.mpr ⟨ok_aload_n C (show decode cX11_eats 96 = .ok (.aload_n 0, 1) by decide +kernel) rfl rfl, ?_⟩
  refine List.forall_mem_cons.mpr ⟨ok_getf C (wi_X11) rfl (by decide) kw_1186 (show decode cX11_eats 97 = .ok (.getfield 33, 3) by decide +kernel) rfl, ?_⟩
  refine List.forall_mem_cons.mpr ⟨ok_bipush C (show decode cX11_eats 100 = .ok (.bipush 124, 2) by decide +kernel) (by decide) rfl, ?_⟩
  refine List.forall_mem_cons.mpr ⟨ok_iload_n C (show decode cX11_eats 102 = .ok (.iload_n 1, 1) by decide +kernel) rfl rfl, ?_⟩
  refine List.forall_mem_cons.mpr ⟨ok_iadd C (show decode cX11_eats 103 = .ok (.iadd, 1) by decide +kernel) rfl, ?_⟩
  refine List.forall_mem_cons.mpr ⟨ok_dup2 C (show decode cX11_eats 104 = .ok (.dup2, 1) by decide +kernel) rfl, ?_⟩
  refine List.forall_mem_cons.mpr ⟨ok_iaload C (show decode cX11_eats 105 = .ok (.iaload, 1) by decide +kernel) rfl, ?_⟩
  refine List.forall_mem_cons.mpr ⟨ok_aload_n C (show decode cX11_eats 106 = .ok (.aload_n 0, 1) by decide +kernel) rfl rfl, ?_⟩
  refine List.forall_mem_cons.mpr ⟨ok_getf C (wi_X11) rfl (by decide) kw_1186 (show decode cX11_eats 107 = .ok (.getfield 33, 3) by decide +kernel) rfl, ?_⟩
  refine List.forall_mem_cons.mpr ⟨ok_bipush C (show decode cX11_eats 110 = .ok (.bipush 28, 2) by decide +kernel) (by decide) rfl, ?_⟩
  refine List.forall_mem_cons.mpr ⟨ok_iload_n C (show decode cX11_eats 112 = .ok (.iload_n 1, 1) by decide +kernel) rfl rfl, ?_⟩
  refine List.forall_mem_cons.mpr ⟨ok_iadd C (show decode cX11_eats 113 = .ok (.iadd, 1) by decide +kernel) rfl, ?_⟩
  refine List.forall_mem_cons.mpr ⟨ok_iaload C (show decode cX11_eats 114 = .ok (.iaload, 1) by decide +kernel) rfl, ?_⟩
  refine List.forall_mem_cons.mpr ⟨ok_isub C (show decode cX11_eats 115 = .ok (.isub, 1) by decide +kernel) rfl, ?_⟩
  refine List.forall_mem_cons.mpr ⟨ok_iastore C (show decode cX11_eats 116 = .ok (.iastore, 1) by decide +kernel) rfl, ?_⟩
  refine List.forall_mem_cons.mpr ⟨ok_vret C rfl (show decode cX11_eats 117 = .ok (.return_, 1) by decide +kernel), ?_⟩
  exact fun _ h => absurd h List.not_mem_nil
