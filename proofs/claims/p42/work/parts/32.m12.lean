def L_X10_restore (f_X7_copyFrom : List Value → ab_H → Option ab_O) (f_X6_copyFrom : List Value → ab_H → Option ab_O) (f_X5_copyFrom : List Value → ab_H → Option ab_O) (f_X2_forget : List Value → ab_H → Option ab_O) : List (Nat × ab_A) := [
  (0, ab_nx 1 (ab_iload 1)),
  (1, ab_if 4 9 (fun x => decide (x < 0))),
  (4, ab_nx 5 (ab_iload 1)),
  (5, ab_nx 6 (ab_lit (.int 2))),
  (6, ab_icmp 9 11 (fun x y => decide (x < y))),
  (9, ab_nx 10 (ab_lit (.int 0))),
  (10, ab_zret 0 0),
  (11, ab_nx 12 (ab_aload 0)),
  (12, ab_nx 15 (ab_getf 10 9)),
  (15, ab_nx 16 (ab_iload 1)),
  (16, ab_nx 17 (ab_aald 4)),
  (17, ab_nx 18 (ab_astore 2)),
  (18, ab_nx 19 (ab_aload 2)),
  (19, ab_nonnull 22 24),
  (22, ab_nx 23 (ab_lit (.int 0))),
  (23, ab_zret 0 0),
  (24, ab_nx 25 (ab_aload 0)),
  (25, ab_nx 28 (ab_getf 10 13)),
  (28, ab_nx 29 (ab_aload 2)),
  (29, ab_nx 32 (ab_getf 3 0)),
  (32, ab_nx 35 (ab_callV 2 7 f_X7_copyFrom 0 0 0 0)),
  (35, ab_nx 36 (ab_aload 0)),
  (36, ab_nx 39 (ab_getf 10 4)),
  (39, ab_nx 40 (ab_aload 2)),
  (40, ab_nx 43 (ab_getf 3 1)),
  (43, ab_nx 46 (ab_callV 2 6 f_X6_copyFrom 0 0 0 0)),
  (46, ab_nx 47 (ab_aload 0)),
  (47, ab_nx 50 (ab_getf 10 15)),
  (50, ab_nx 51 (ab_aload 2)),
  (51, ab_nx 54 (ab_getf 3 2)),
  (54, ab_nx 57 (ab_callV 2 5 f_X5_copyFrom 0 0 0 0)),
  (57, ab_nx 58 (ab_aload 0)),
  (58, ab_nx 61 (ab_getf 10 3)),
  (61, ab_nx 64 (ab_callV 1 2 f_X2_forget 0 0 0 0)),
  (64, ab_nx 65 (ab_lit (.int 1))),
  (65, ab_zret 0 0)]
set_option maxRecDepth 100000 in
set_option maxHeartbeats 4000000 in
theorem M_X10_restore {l : Launch} {b : ab_B} {D : va_G} {cA : Nat → ClassId} {f_X7_copyFrom : List Value → ab_H → Option ab_O} (h_X7_copyFrom : ab_M l b D ab_cl cA (ab_E0 b) yX7_copyFrom (Cond.code yX7_copyFrom cX7_copyFrom 2 none :: ab_G) ({ frames := 2, cells := 0, slots := 0, locals := 200 } : Room) f_X7_copyFrom) {f_X6_copyFrom : List Value → ab_H → Option ab_O} (h_X6_copyFrom : ab_M l b D ab_cl cA (ab_E0 b) yX6_copyFrom (Cond.code yX6_copyFrom cX6_copyFrom 2 none :: ab_G) ({ frames := 2, cells := 0, slots := 0, locals := 200 } : Room) f_X6_copyFrom) {f_X5_copyFrom : List Value → ab_H → Option ab_O} (h_X5_copyFrom : ab_M l b D ab_cl cA (ab_E0 b) yX5_copyFrom (Cond.code yX5_copyFrom cX5_copyFrom 2 none :: ab_G) ({ frames := 2, cells := 0, slots := 0, locals := 200 } : Room) f_X5_copyFrom) {f_X2_forget : List Value → ab_H → Option ab_O} (h_X2_forget : ab_M l b D ab_cl cA (ab_E0 b) yX2_forget (Cond.code yX2_forget cX2_forget 1 none :: ab_G) ({ frames := 1, cells := 0, slots := 0, locals := 100 } : Room) f_X2_forget) : ab_M l b D ab_cl cA (ab_E0 b) yX10_restore (Cond.code yX10_restore cX10_restore 3 (some .boolean) :: ab_G) ({ frames := 3, cells := 0, slots := 0, locals := 300 } : Room) (ab_X (ab_T (L_X10_restore f_X7_copyFrom f_X6_copyFrom f_X5_copyFrom f_X2_forget)) 3) := by
  refine ab_meth (ret := (some .boolean)) (L_X10_restore f_X7_copyFrom f_X6_copyFrom f_X5_copyFrom f_X2_forget) (by decide) rfl fun p e R s m args below meth c o C => ?_
  unfold L_X10_restore
  refine List.forall_mem_cons.mpr ⟨ok_iload_n C (show decode cX10_restore 0 = .ok (.iload_n 1, 1) by decide +kernel) rfl rfl, ?_⟩
  refine List.forall_mem_cons.mpr ⟨ok_iflt C (show decode cX10_restore 1 = .ok (.ifCond .lt 8, 3) by decide +kernel) (tg := 9) (by decide) rfl rfl, ?_⟩
  refine List.forall_mem_cons.mpr ⟨ok_iload_n C (show decode cX10_restore 4 = .ok (.iload_n 1, 1) by decide +kernel) rfl rfl, ?_⟩
  refine List.forall_mem_cons.mpr ⟨ok_iconst C (show decode cX10_restore 5 = .ok (.iconst 2, 1) by decide +kernel) (by decide) rfl, ?_⟩
  refine List.forall_mem_cons.mpr ⟨ok_icmplt C (show decode cX10_restore 6 = .ok (.if_icmp .lt 5, 3) by decide +kernel) (tg := 11) (by decide) rfl rfl, ?_⟩
  refine List.forall_mem_cons.mpr ⟨ok_iconst C (show decode cX10_restore 9 = .ok (.iconst 0, 1) by decide +kernel) (by decide) rfl, ?_⟩
  refine List.forall_mem_cons.mpr ⟨ok_zret C rfl (show decode cX10_restore 10 = .ok (.ireturn, 1) by decide +kernel), ?_⟩
  refine List.forall_mem_cons.mpr ⟨ok_aload_n C (show decode cX10_restore 11 = .ok (.aload_n 0, 1) by decide +kernel) rfl rfl, ?_⟩
  refine List.forall_mem_cons.mpr ⟨ok_getf C (wi_X10) rfl (by decide) kw_324 (show decode cX10_restore 12 = .ok (.getfield 66, 3) by decide +kernel) rfl, ?_⟩
  refine List.forall_mem_cons.mpr ⟨ok_iload_n C (show decode cX10_restore 15 = .ok (.iload_n 1, 1) by decide +kernel) rfl rfl, ?_⟩
  refine List.forall_mem_cons.mpr ⟨ok_aaload C (t0 := 4) rfl (show decode cX10_restore 16 = .ok (.aaload, 1) by decide +kernel) rfl, ?_⟩
  refine List.forall_mem_cons.mpr ⟨ok_astore_n C (show decode cX10_restore 17 = .ok (.astore_n 2, 1) by decide +kernel) rfl (by decide) rfl, ?_⟩
  refine List.forall_mem_cons.mpr ⟨ok_aload_n C (show decode cX10_restore 18 = .ok (.aload_n 2, 1) by decide +kernel) rfl rfl, ?_⟩
  refine List.forall_mem_cons.mpr ⟨ok_nonnull C (show decode cX10_restore 19 = .ok (.ifnonnull 5, 3) by decide +kernel) (tg := 24) (by decide) rfl rfl, ?_⟩
  refine List.forall_mem_cons.mpr ⟨ok_iconst C (show decode cX10_restore 22 = .ok (.iconst 0, 1) by decide +kernel) (by decide) rfl, ?_⟩
  refine List.forall_mem_cons.mpr ⟨ok_zret C rfl (show decode cX10_restore 23 = .ok (.ireturn, 1) by decide +kernel), ?_⟩
  refine List.forall_mem_cons.mpr ⟨ok_aload_n C (show decode cX10_restore 24 = .ok (.aload_n 0, 1) by decide +kernel) rfl rfl, ?_⟩
  refine List.forall_mem_cons.mpr ⟨ok_getf C (wi_X10) rfl (by decide) kw_328 (show decode cX10_restore 25 = .ok (.getfield 83, 3) by decide +kernel) rfl, ?_⟩
  refine List.forall_mem_cons.mpr ⟨ok_aload_n C (show decode cX10_restore 28 = .ok (.aload_n 2, 1) by decide +kernel) rfl rfl, ?_⟩
  refine List.forall_mem_cons.mpr ⟨ok_getf C (wi_X3) rfl (by decide) kw_1033 (show decode cX10_restore 29 = .ok (.getfield 373, 3) by decide +kernel) rfl, ?_⟩
  refine List.forall_mem_cons.mpr ⟨ok_callV C h_X7_copyFrom ⟨rfl, rfl⟩ rfl kw_1048 kw_1045 kw_1046 kw_1047 kw_9 rfl ds_X7_copyFrom ⟨by decide, by decide⟩ (show decode cX10_restore 32 = .ok (.invokevirtual 376, 3) by decide +kernel) rfl, ?_⟩
  refine List.forall_mem_cons.mpr ⟨ok_aload_n C (show decode cX10_restore 35 = .ok (.aload_n 0, 1) by decide +kernel) rfl rfl, ?_⟩
  refine List.forall_mem_cons.mpr ⟨ok_getf C (wi_X10) rfl (by decide) kw_319 (show decode cX10_restore 36 = .ok (.getfield 40, 3) by decide +kernel) rfl, ?_⟩
  refine List.forall_mem_cons.mpr ⟨ok_aload_n C (show decode cX10_restore 39 = .ok (.aload_n 2, 1) by decide +kernel) rfl rfl, ?_⟩
  refine List.forall_mem_cons.mpr ⟨ok_getf C (wi_X3) rfl (by decide) kw_1035 (show decode cX10_restore 40 = .ok (.getfield 378, 3) by decide +kernel) rfl, ?_⟩
  refine List.forall_mem_cons.mpr ⟨ok_callV C h_X6_copyFrom ⟨rfl, rfl⟩ rfl kw_724 kw_806 kw_722 kw_723 kw_6 rfl ds_X6_copyFrom ⟨by decide, by decide⟩ (show decode cX10_restore 43 = .ok (.invokevirtual 284, 3) by decide +kernel) rfl, ?_⟩
  refine List.forall_mem_cons.mpr ⟨ok_aload_n C (show decode cX10_restore 46 = .ok (.aload_n 0, 1) by decide +kernel) rfl rfl, ?_⟩
  refine List.forall_mem_cons.mpr ⟨ok_getf C (wi_X10) rfl (by decide) kw_330 (show decode cX10_restore 47 = .ok (.getfield 93, 3) by decide +kernel) rfl, ?_⟩
  refine List.forall_mem_cons.mpr ⟨ok_aload_n C (show decode cX10_restore 50 = .ok (.aload_n 2, 1) by decide +kernel) rfl rfl, ?_⟩
  refine List.forall_mem_cons.mpr ⟨ok_getf C (wi_X3) rfl (by decide) kw_1037 (show decode cX10_restore 51 = .ok (.getfield 381, 3) by decide +kernel) rfl, ?_⟩
  refine List.forall_mem_cons.mpr ⟨ok_callV C h_X5_copyFrom ⟨rfl, rfl⟩ rfl kw_1053 kw_1050 kw_1051 kw_1052 kw_10 rfl ds_X5_copyFrom ⟨by decide, by decide⟩ (show decode cX10_restore 54 = .ok (.invokevirtual 384, 3) by decide +kernel) rfl, ?_⟩
  refine List.forall_mem_cons.mpr ⟨ok_aload_n C (show decode cX10_restore 57 = .ok (.aload_n 0, 1) by decide +kernel) rfl rfl, ?_⟩
  refine List.forall_mem_cons.mpr ⟨ok_getf C (wi_X10) rfl (by decide) kw_318 (show decode cX10_restore 58 = .ok (.getfield 33, 3) by decide +kernel) rfl, ?_⟩
  refine List.forall_mem_cons.mpr ⟨ok_callV C h_X2_forget ⟨rfl, rfl⟩ rfl kw_580 kw_577 kw_578 kw_579 kw_5 rfl ds_X2_forget ⟨by decide, by decide⟩ (show decode cX10_restore 61 = .ok (.invokevirtual 133, 3) by decide +kernel) rfl, ?_⟩
  refine List.forall_mem_cons.mpr ⟨ok_iconst C (show decode cX10_restore 64 = .ok (.iconst 1, 1) by decide +kernel) (by decide) rfl, ?_⟩
  refine List.forall_mem_cons.mpr ⟨ok_zret C rfl (show decode cX10_restore 65 = .ok (.ireturn, 1) by decide +kernel), ?_⟩
  exact fun _ h => absurd h List.not_mem_nil
def L_X11_throwsIf : List (Nat × ab_A) := [
  (0, ab_nx 1 (ab_aload 0)),
  (1, ab_nx 2 (ab_iload 1)),
  (2, ab_if 5 9 (fun x => decide (x = 0))),
  (5, ab_nx 6 (ab_lit (.int 1))),
  (6, ab_goto 10),
  (9, ab_nx 10 (ab_lit (.int 0))),
  (10, ab_nx 13 (ab_putf 11 0 0)),
  (13, ab_nx 14 (ab_iload 1)),
  (14, ab_zret 0 0)]
set_option maxRecDepth 100000 in
set_option maxHeartbeats 4000000 in
theorem M_X11_throwsIf {l : Launch} {b : ab_B} {D : va_G} {cA : Nat → ClassId} : ab_M l b D ab_cl cA (ab_E0 b) yX11_throwsIf (Cond.code yX11_throwsIf cX11_throwsIf 2 (some .boolean) :: ab_G) ({ frames := 1, cells := 0, slots := 0, locals := 100 } : Room) (ab_X (ab_T L_X11_throwsIf) 2) := by
  refine ab_meth (ret := (some .boolean)) L_X11_throwsIf (by decide) rfl fun p e R s m args below meth c o C => ?_
  unfold L_X11_throwsIf
  refine List.forall_mem_cons.mpr ⟨ok_aload_n C (show decode cX11_throwsIf 0 = .ok (.aload_n 0, 1) by decide +kernel) rfl rfl, ?_⟩
  refine List.forall_mem_cons.mpr ⟨ok_iload_n C (show decode cX11_throwsIf 1 = .ok (.iload_n 1, 1) by decide +kernel) rfl rfl, ?_⟩
  refine List.forall_mem_cons.mpr ⟨ok_ifeq C (show decode cX11_throwsIf 2 = .ok (.ifCond .eq 7, 3) by decide +kernel) (tg := 9) (by decide) rfl rfl, ?_⟩
  refine List.forall_mem_cons.mpr ⟨ok_iconst C (show decode cX11_throwsIf 5 = .ok (.iconst 1, 1) by decide +kernel) (by decide) rfl, ?_⟩
  refine List.forall_mem_cons.mpr ⟨ok_goto C (show decode cX11_throwsIf 6 = .ok (.goto 4, 3) by decide +kernel) (tg := 10) (by decide) rfl, ?_⟩
  refine List.forall_mem_cons.mpr ⟨ok_iconst C (show decode cX11_throwsIf 9 = .ok (.iconst 0, 1) by decide +kernel) (by decide) rfl, ?_⟩
  refine List.forall_mem_cons.mpr ⟨ok_putf C (wi_X11) tyX11 tyX11_ok nmX11 rfl (by decide) kw_1180 (Or.inl rfl) (Or.inl ⟨rfl, rfl⟩) (show decode cX11_throwsIf 10 = .ok (.putfield 1, 3) by decide +kernel) rfl, ?_⟩
  refine List.forall_mem_cons.mpr ⟨ok_iload_n C (show decode cX11_throwsIf 13 = .ok (.iload_n 1, 1) by decide +kernel) rfl rfl, ?_⟩
  refine List.forall_mem_cons.mpr ⟨ok_zret C rfl (show decode cX11_throwsIf 14 = .ok (.ireturn, 1) by decide +kernel), ?_⟩
  exact fun _ h => absurd h List.not_mem_nil
def L_X11_four : List (Nat × ab_A) := [
  (0, ab_nx 2 (ab_lit (.int 24))),
  (2, ab_nx 3 (ab_istore 2)),
  (3, ab_nx 4 (ab_iload 2)),
  (4, ab_if 7 36 (fun x => decide (x < 0))),
  (7, ab_nx 8 (ab_aload 0)),
  (8, ab_nx 11 (ab_getf 11 1)),
  (11, ab_nx 12 (ab_aload 0)),
  (12, ab_nx 15 (ab_getf 11 2)),
  (15, ab_nx 16 (ab_iload 1)),
  (16, ab_nx 17 (ab_iload 2)),
  (17, ab_nx 18 (ab_bin (fun x y => x >>> (y &&& 31)))),
  (18, ab_nx 19 (ab_un (fun x => x.toInt8.toInt32))),
  (19, ab_nx 20 (ab_ast 0)),
  (20, ab_nx 21 (ab_aload 0)),
  (21, ab_nx 22 ab_dup),
  (22, ab_nx 25 (ab_getf 11 2)),
  (25, ab_nx 26 (ab_lit (.int 1))),
  (26, ab_nx 27 (ab_bin (fun x y => x + y))),
  (27, ab_nx 30 (ab_putf 11 2 0)),
  (30, ab_nx 33 (ab_iinc 2 (-8))),
  (33, ab_goto 3),
  (36, ab_vret 0 0)]
set_option maxRecDepth 100000 in
set_option maxHeartbeats 4000000 in
theorem M_X11_four {l : Launch} {b : ab_B} {D : va_G} {cA : Nat → ClassId} : ab_M l b D ab_cl cA (ab_E0 b) yX11_four (Cond.code yX11_four cX11_four 3 none :: ab_G) ({ frames := 1, cells := 0, slots := 0, locals := 100 } : Room) (ab_X (ab_T L_X11_four) 3) := by
  refine ab_meth (ret := none) L_X11_four (by decide) rfl fun p e R s m args below meth c o C => ?_
  unfold L_X11_four
  refine List.forall_mem_cons.mpr ⟨ok_bipush C (show decode cX11_four 0 = .ok (.bipush 24, 2) by decide +kernel) (by decide) rfl, ?_⟩
  refine List.forall_mem_cons.mpr ⟨ok_istore_n C (show decode cX11_four 2 = .ok (.istore_n 2, 1) by decide +kernel) rfl (by decide) rfl, ?_⟩
  refine List.forall_mem_cons.mpr ⟨ok_iload_n C (show decode cX11_four 3 = .ok (.iload_n 2, 1) by decide +kernel) rfl rfl, ?_⟩
  refine List.forall_mem_cons.mpr ⟨ok_iflt C (show decode cX11_four 4 = .ok (.ifCond .lt 32, 3) by decide +kernel) (tg := 36) (by decide) rfl rfl, ?_⟩
  refine List.forall_mem_cons.mpr ⟨ok_aload_n C (show decode cX11_four 7 = .ok (.aload_n 0, 1) by decide +kernel) rfl rfl, ?_⟩
  refine List.forall_mem_cons.mpr ⟨ok_getf C (wi_X11) rfl (by decide) kw_1181 (show decode cX11_four 8 = .ok (.getfield 14, 3) by decide +kernel) rfl, ?_⟩
  refine List.forall_mem_cons.mpr ⟨ok_aload_n C (show decode cX11_four 11 = .ok (.aload_n 0, 1) by decide +kernel) rfl rfl, ?_⟩
  refine List.forall_mem_cons.mpr ⟨ok_getf C (wi_X11) rfl (by decide) kw_1182 (show decode cX11_four 12 = .ok (.getfield 7, 3) by decide +kernel) rfl, ?_⟩
  refine List.forall_mem_cons.mpr ⟨ok_iload_n C (show decode cX11_four 15 = .ok (.iload_n 1, 1) by decide +kernel) rfl rfl, ?_⟩
  refine List.forall_mem_cons.mpr ⟨ok_iload_n C (show decode cX11_four 16 = .ok (.iload_n 2, 1) by decide +kernel) rfl rfl, ?_⟩
  refine List.forall_mem_cons.mpr ⟨ok_ishr C (show decode cX11_four 17 = .ok (.ishr, 1) by decide +kernel) rfl, ?_⟩
  refine List.forall_mem_cons.mpr ⟨ok_i2b C (show decode cX11_four 18 = .ok (.i2b, 1) by decide +kernel) rfl, ?_⟩
  refine List.forall_mem_cons.mpr ⟨ok_bastore C (show decode cX11_four 19 = .ok (.bastore, 1) by decide +kernel) rfl, ?_⟩
  refine List.forall_mem_cons.mpr ⟨ok_aload_n C (show decode cX11_four 20 = .ok (.aload_n 0, 1) by decide +kernel) rfl rfl, ?_⟩
  refine List.forall_mem_cons.mpr ⟨ok_dup C (show decode cX11_four 21 = .ok (.dup, 1) by decide +kernel) rfl, ?_⟩
  refine List.forall_mem_cons.mpr ⟨ok_getf C (wi_X11) rfl (by decide) kw_1182 (show decode cX11_four 22 = .ok (.getfield 7, 3) by decide +kernel) rfl, ?_⟩
  refine List.forall_mem_cons.mpr ⟨ok_iconst C (show decode cX11_four 25 = .ok (.iconst 1, 1) by decide +kernel) (by decide) rfl, ?_⟩
  refine List.forall_mem_cons.mpr ⟨ok_iadd C (show decode cX11_four 26 = .ok (.iadd, 1) by decide +kernel) rfl, ?_⟩
  refine List.forall_mem_cons.mpr ⟨ok_putf C (wi_X11) tyX11 tyX11_ok nmX11 rfl (by decide) kw_1182 (Or.inl rfl) (Or.inl ⟨rfl, rfl⟩) (show decode cX11_four 27 = .ok (.putfield 7, 3) by decide +kernel) rfl, ?_⟩
  refine List.forall_mem_cons.mpr ⟨ok_iinc C (show decode cX11_four 30 = .ok (.iinc 2 (-8), 3) by decide +kernel) (by decide) (by decide) rfl, ?_⟩
  refine List.forall_mem_cons.mpr ⟨ok_goto C (show decode cX11_four 33 = .ok (.goto (-30), 3) by decide +kernel) (tg := 3) (by decide) rfl, ?_⟩
  refine List.forall_mem_cons.mpr ⟨ok_vret C rfl (show decode cX11_four 36 = .ok (.return_, 1) by decide +kernel), ?_⟩
  exact fun _ h => absurd h List.not_mem_nil
def L_X11_feed (f_X11_four : List Value → ab_H → Option ab_O) : List (Nat × ab_A) := [
  (0, ab_nx 1 (ab_aload 0)),
  (1, ab_nx 2 (ab_lit (.int 0))),
  (2, ab_nx 5 (ab_putf 11 0 0)),
  (5, ab_nx 6 (ab_aload 0)),
  (6, ab_nx 9 (ab_getf 11 2)),
  (9, ab_nx 11 (ab_lit (.int 20))),
  (11, ab_nx 12 (ab_bin (fun x y => x + y))),
  (12, ab_nx 15 (ab_lit (.int 940))),
  (15, ab_icmp 18 20 (fun x y => decide (x ≤ y))),
  (18, ab_nx 19 (ab_lit (.int (-1)))),
  (19, ab_ret 0 0),
  (20, ab_nx 21 (ab_aload 0)),
  (21, ab_nx 22 (ab_iload 1)),
  (22, ab_nx 25 (ab_callV 2 11 f_X11_four 0 0 0 0)),
  (25, ab_nx 26 (ab_aload 0)),
  (26, ab_nx 27 (ab_iload 2)),
  (27, ab_nx 30 (ab_callV 2 11 f_X11_four 0 0 0 0)),
  (30, ab_nx 31 (ab_aload 0)),
  (31, ab_nx 32 (ab_iload 3)),
  (32, ab_nx 35 (ab_callV 2 11 f_X11_four 0 0 0 0)),
  (35, ab_nx 36 (ab_aload 0)),
  (36, ab_nx 38 (ab_iload 4)),
  (38, ab_nx 41 (ab_callV 2 11 f_X11_four 0 0 0 0)),
  (41, ab_nx 42 (ab_aload 0)),
  (42, ab_nx 44 (ab_iload 5)),
  (44, ab_nx 47 (ab_callV 2 11 f_X11_four 0 0 0 0)),
  (47, ab_nx 48 (ab_aload 0)),
  (48, ab_nx 51 (ab_getf 11 2)),
  (51, ab_ret 0 0)]
set_option maxRecDepth 100000 in
set_option maxHeartbeats 4000000 in
theorem M_X11_feed {l : Launch} {b : ab_B} {D : va_G} {cA : Nat → ClassId} {f_X11_four : List Value → ab_H → Option ab_O} (h_X11_four : ab_M l b D ab_cl cA (ab_E0 b) yX11_four (Cond.code yX11_four cX11_four 3 none :: ab_G) ({ frames := 1, cells := 0, slots := 0, locals := 100 } : Room) f_X11_four) : ab_M l b D ab_cl cA (ab_E0 b) yX11_feed (Cond.code yX11_feed cX11_feed 6 (some .int) :: ab_G) ({ frames := 2, cells := 0, slots := 0, locals := 200 } : Room) (ab_X (ab_T (L_X11_feed f_X11_four)) 6) := by
  refine ab_meth (ret := (some .int)) (L_X11_feed f_X11_four) (by decide) rfl fun p e R s m args below meth c o C => ?_
  unfold L_X11_feed
  refine List.forall_mem_cons.mpr ⟨ok_aload_n C (show decode cX11_feed 0 = .ok (.aload_n 0, 1) by decide +kernel) rfl rfl, ?_⟩
  refine List.forall_mem_cons.mpr ⟨ok_iconst C (show decode cX11_feed 1 = .ok (.iconst 0, 1) by decide +kernel) (by decide) rfl, ?_⟩
  refine List.forall_mem_cons.mpr ⟨ok_putf C (wi_X11) tyX11 tyX11_ok nmX11 rfl (by decide) kw_1180 (Or.inl rfl) (Or.inl ⟨rfl, rfl⟩) (show decode cX11_feed 2 = .ok (.putfield 1, 3) by decide +kernel) rfl, ?_⟩
  refine List.forall_mem_cons.mpr ⟨ok_aload_n C (show decode cX11_feed 5 = .ok (.aload_n 0, 1) by decide +kernel) rfl rfl, ?_⟩
  refine List.forall_mem_cons.mpr ⟨ok_getf C (wi_X11) rfl (by decide) kw_1182 (show decode cX11_feed 6 = .ok (.getfield 7, 3) by decide +kernel) rfl, ?_⟩
  refine List.forall_mem_cons.mpr ⟨ok_bipush C (show decode cX11_feed 9 = .ok (.bipush 20, 2) by decide +kernel) (by decide) rfl, ?_⟩
  refine List.forall_mem_cons.mpr ⟨ok_iadd C (show decode cX11_feed 11 = .ok (.iadd, 1) by decide +kernel) rfl, ?_⟩
  refine List.forall_mem_cons.mpr ⟨ok_sipush C (show decode cX11_feed 12 = .ok (.sipush 940, 3) by decide +kernel) (by decide) rfl, ?_⟩
  refine List.forall_mem_cons.mpr ⟨ok_icmple C (show decode cX11_feed 15 = .ok (.if_icmp .le 5, 3) by decide +kernel) (tg := 20) (by decide) rfl rfl, ?_⟩
  refine List.forall_mem_cons.mpr ⟨ok_iconst C (show decode cX11_feed 18 = .ok (.iconst (-1), 1) by decide +kernel) (by decide) rfl, ?_⟩
  refine List.forall_mem_cons.mpr ⟨ok_ret C rfl (show decode cX11_feed 19 = .ok (.ireturn, 1) by decide +kernel), ?_⟩
  refine List.forall_mem_cons.mpr ⟨ok_aload_n C (show decode cX11_feed 20 = .ok (.aload_n 0, 1) by decide +kernel) rfl rfl, ?_⟩
  refine List.forall_mem_cons.mpr ⟨ok_iload_n C (show decode cX11_feed 21 = .ok (.iload_n 1, 1) by decide +kernel) rfl rfl, ?_⟩
  refine List.forall_mem_cons.mpr ⟨ok_callV C h_X11_four ⟨rfl, rfl⟩ rfl kw_1145 kw_1141 kw_1143 kp_47 kw_11 rfl ds_X11_four ⟨by decide, by decide⟩ (show decode cX11_feed 22 = .ok (.invokevirtual 10, 3) by decide +kernel) rfl, ?_⟩
  refine List.forall_mem_cons.mpr ⟨ok_aload_n C (show decode cX11_feed 25 = .ok (.aload_n 0, 1) by decide +kernel) rfl rfl, ?_⟩
  refine List.forall_mem_cons.mpr ⟨ok_iload_n C (show decode cX11_feed 26 = .ok (.iload_n 2, 1) by decide +kernel) rfl rfl, ?_⟩
  refine List.forall_mem_cons.mpr ⟨ok_callV C h_X11_four ⟨rfl, rfl⟩ rfl kw_1145 kw_1141 kw_1143 kp_47 kw_11 rfl ds_X11_four ⟨by decide, by decide⟩ (show decode cX11_feed 27 = .ok (.invokevirtual 10, 3) by decide +kernel) rfl, ?_⟩
  refine List.forall_mem_cons.mpr ⟨ok_aload_n C (show decode cX11_feed 30 = .ok (.aload_n 0, 1) by decide +kernel) rfl rfl, ?_⟩
  refine List.forall_mem_cons.mpr ⟨ok_iload_n C (show decode cX11_feed 31 = .ok (.iload_n 3, 1) by decide +kernel) rfl rfl, ?_⟩
  refine List.forall_mem_cons.mpr ⟨ok_callV C h_X11_four ⟨rfl, rfl⟩ rfl kw_1145 kw_1141 kw_1143 kp_47 kw_11 rfl ds_X11_four ⟨by decide, by decide⟩ (show decode cX11_feed 32 = .ok (.invokevirtual 10, 3) by decide +kernel) rfl, ?_⟩
  refine List.forall_mem_cons.mpr ⟨ok_aload_n C (show decode cX11_feed 35 = .ok (.aload_n 0, 1) by decide +kernel) rfl rfl, ?_⟩
  refine List.forall_mem_cons.mpr ⟨ok_iload C (show decode cX11_feed 36 = .ok (.iload 4, 2) by decide +kernel) rfl, ?_⟩
  refine List.forall_mem_cons.mpr ⟨ok_callV C h_X11_four ⟨rfl, rfl⟩ rfl kw_1145 kw_1141 kw_1143 kp_47 kw_11 rfl ds_X11_four ⟨by decide, by decide⟩ (show decode cX11_feed 38 = .ok (.invokevirtual 10, 3) by decide +kernel) rfl, ?_⟩
  refine List.forall_mem_cons.mpr ⟨ok_aload_n C (show decode cX11_feed 41 = .ok (.aload_n 0, 1) by decide +kernel) rfl rfl, ?_⟩
  refine List.forall_mem_cons.mpr ⟨ok_iload C (show decode cX11_feed 42 = .ok (.iload 5, 2) by decide +kernel) rfl, ?_⟩
  refine List.forall_mem_cons.mpr ⟨ok_callV C h_X11_four ⟨rfl, rfl⟩ rfl kw_1145 kw_1141 kw_1143 kp_47 kw_11 rfl ds_X11_four ⟨by decide, by decide⟩ (show decode cX11_feed 44 = .ok (.invokevirtual 10, 3) by decide +kernel) rfl, ?_⟩
  refine List.forall_mem_cons.mpr ⟨ok_aload_n C (show decode cX11_feed 47 = .ok (.aload_n 0, 1) by decide +kernel) rfl rfl, ?_⟩
  refine List.forall_mem_cons.mpr ⟨ok_getf C (wi_X11) rfl (by decide) kw_1182 (show decode cX11_feed 48 = .ok (.getfield 7, 3) by decide +kernel) rfl, ?_⟩
  refine List.forall_mem_cons.mpr ⟨ok_ret C rfl (show decode cX11_feed 51 = .ok (.ireturn, 1) by decide +kernel), ?_⟩
  exact fun _ h => absurd h List.not_mem_nil
def L_X11_end : List (Nat × ab_A) := [
  (0, ab_nx 1 (ab_aload 0)),
  (1, ab_nx 2 (ab_lit (.int 0))),
  (2, ab_nx 5 (ab_putf 11 0 0)),
  (5, ab_nx 6 (ab_iload 1)),
  (6, ab_if 9 17 (fun x => decide (x < 0))),
  (9, ab_nx 10 (ab_iload 1)),
  (10, ab_nx 11 (ab_aload 0)),
  (11, ab_nx 14 (ab_getf 11 2)),
  (14, ab_icmp 17 19 (fun x y => decide (x ≤ y))),
  (17, ab_nx 18 (ab_lit (.int 0))),
  (18, ab_zret 0 0),
  (19, ab_nx 20 (ab_aload 0)),
  (20, ab_nx 21 (ab_iload 1)),
  (21, ab_nx 24 (ab_putf 11 2 0)),
  (24, ab_nx 25 (ab_lit (.int 1))),
  (25, ab_zret 0 0)]
set_option maxRecDepth 100000 in
set_option maxHeartbeats 4000000 in
theorem M_X11_end {l : Launch} {b : ab_B} {D : va_G} {cA : Nat → ClassId} : ab_M l b D ab_cl cA (ab_E0 b) yX11_end (Cond.code yX11_end cX11_end 2 (some .boolean) :: ab_G) ({ frames := 1, cells := 0, slots := 0, locals := 100 } : Room) (ab_X (ab_T L_X11_end) 2) := by
  refine ab_meth (ret := (some .boolean)) L_X11_end (by decide) rfl fun p e R s m args below meth c o C => ?_
  unfold L_X11_end
  refine List.forall_mem_cons.mpr ⟨ok_aload_n C (show decode cX11_end 0 = .ok (.aload_n 0, 1) by decide +kernel) rfl rfl, ?_⟩
  refine List.forall_mem_cons.mpr ⟨ok_iconst C (show decode cX11_end 1 = .ok (.iconst 0, 1) by decide +kernel) (by decide) rfl, ?_⟩
  refine List.forall_mem_cons.mpr ⟨ok_putf C (wi_X11) tyX11 tyX11_ok nmX11 rfl (by decide) kw_1180 (Or.inl rfl) (Or.inl ⟨rfl, rfl⟩) (show decode cX11_end 2 = .ok (.putfield 1, 3) by decide +kernel) rfl, ?_⟩
  refine List.forall_mem_cons.mpr ⟨ok_iload_n C (show decode cX11_end 5 = .ok (.iload_n 1, 1) by decide +kernel) rfl rfl, ?_⟩
  refine List.forall_mem_cons.mpr ⟨ok_iflt C (show decode cX11_end 6 = .ok (.ifCond .lt 11, 3) by decide +kernel) (tg := 17) (by decide) rfl rfl, ?_⟩
  refine List.forall_mem_cons.mpr ⟨ok_iload_n C (show decode cX11_end 9 = .ok (.iload_n 1, 1) by decide +kernel) rfl rfl, ?_⟩
  refine List.forall_mem_cons.mpr ⟨ok_aload_n C (show decode cX11_end 10 = .ok (.aload_n 0, 1) by decide +kernel) rfl rfl, ?_⟩
  refine List.forall_mem_cons.mpr ⟨ok_getf C (wi_X11) rfl (by decide) kw_1182 (show decode cX11_end 11 = .ok (.getfield 7, 3) by decide +kernel) rfl, ?_⟩
  refine List.forall_mem_cons.mpr ⟨ok_icmple C (show decode cX11_end 14 = .ok (.if_icmp .le 5, 3) by decide +kernel) (tg := 19) (by decide) rfl rfl, ?_⟩
  refine List.forall_mem_cons.mpr ⟨ok_iconst C (show decode cX11_end 17 = .ok (.iconst 0, 1) by decide +kernel) (by decide) rfl, ?_⟩
  refine List.forall_mem_cons.mpr ⟨ok_zret C rfl (show decode cX11_end 18 = .ok (.ireturn, 1) by decide +kernel), ?_⟩
  refine List.forall_mem_cons.mpr ⟨ok_aload_n C (show decode cX11_end 19 = .ok (.aload_n 0, 1) by decide +kernel) rfl rfl, ?_⟩
  refine List.forall_mem_cons.mpr ⟨ok_iload_n C (show decode cX11_end 20 = .ok (.iload_n 1, 1) by decide +kernel) rfl rfl, ?_⟩
  refine List.forall_mem_cons.mpr ⟨ok_putf C (wi_X11) tyX11 tyX11_ok nmX11 rfl (by decide) kw_1182 (Or.inl rfl) (Or.inl ⟨rfl, rfl⟩) (show decode cX11_end 21 = .ok (.putfield 7, 3) by decide +kernel) rfl, ?_⟩
  refine List.forall_mem_cons.mpr ⟨ok_iconst C (show decode cX11_end 24 = .ok (.iconst 1, 1) by decide +kernel) (by decide) rfl, ?_⟩
  refine List.forall_mem_cons.mpr ⟨ok_zret C rfl (show decode cX11_end 25 = .ok (.ireturn, 1) by decide +kernel), ?_⟩
  exact fun _ h => absurd h List.not_mem_nil
def L_X11_taken : List (Nat × ab_A) := [
  (0, ab_nx 1 (ab_aload 0)),
  (1, ab_nx 2 (ab_aload 0)),
  (2, ab_nx 5 (ab_getf 11 2)),
  (5, ab_nx 8 (ab_putf 11 3 0)),
  (8, ab_nx 9 (ab_aload 0)),
  (9, ab_nx 10 (ab_lit (.int 0))),
  (10, ab_nx 13 (ab_putf 11 2 0)),
  (13, ab_nx 14 (ab_aload 0)),
  (14, ab_nx 15 (ab_lit (.int 0))),
  (15, ab_nx 18 (ab_putf 11 4 0)),
  (18, ab_nx 19 (ab_aload 0)),
  (19, ab_nx 20 (ab_iload 1)),
  (20, ab_nx 23 (ab_putf 11 5 0)),
  (23, ab_vret 0 0)]
set_option maxRecDepth 100000 in
set_option maxHeartbeats 4000000 in
theorem M_X11_taken {l : Launch} {b : ab_B} {D : va_G} {cA : Nat → ClassId} : ab_M l b D ab_cl cA (ab_E0 b) yX11_taken (Cond.code yX11_taken cX11_taken 2 none :: ab_G) ({ frames := 1, cells := 0, slots := 0, locals := 100 } : Room) (ab_X (ab_T L_X11_taken) 2) := by
  refine ab_meth (ret := none) L_X11_taken (by decide) rfl fun p e R s m args below meth c o C => ?_
  unfold L_X11_taken
  refine List.forall_mem_cons.mpr ⟨ok_aload_n C (show decode cX11_taken 0 = .ok (.aload_n 0, 1) by decide +kernel) rfl rfl, ?_⟩
  refine List.forall_mem_cons.mpr ⟨ok_aload_n C (show decode cX11_taken 1 = .ok (.aload_n 0, 1) by decide +kernel) rfl rfl, ?_⟩
  refine List.forall_mem_cons.mpr ⟨ok_getf C (wi_X11) rfl (by decide) kw_1182 (show decode cX11_taken 2 = .ok (.getfield 7, 3) by decide +kernel) rfl, ?_⟩
  refine List.forall_mem_cons.mpr ⟨ok_putf C (wi_X11) tyX11 tyX11_ok nmX11 rfl (by decide) kw_1183 (Or.inl rfl) (Or.inl ⟨rfl, rfl⟩) (show decode cX11_taken 5 = .ok (.putfield 18, 3) by decide +kernel) rfl, ?_⟩
  refine List.forall_mem_cons.mpr ⟨ok_aload_n C (show decode cX11_taken 8 = .ok (.aload_n 0, 1) by decide +kernel) rfl rfl, ?_⟩
  refine List.forall_mem_cons.mpr ⟨ok_iconst C (show decode cX11_taken 9 = .ok (.iconst 0, 1) by decide +kernel) (by decide) rfl, ?_⟩
  refine List.forall_mem_cons.mpr ⟨ok_putf C (wi_X11) tyX11 tyX11_ok nmX11 rfl (by decide) kw_1182 (Or.inl rfl) (Or.inl ⟨rfl, rfl⟩) (show decode cX11_taken 10 = .ok (.putfield 7, 3) by decide +kernel) rfl, ?_⟩
  refine List.forall_mem_cons.mpr ⟨ok_aload_n C (show decode cX11_taken 13 = .ok (.aload_n 0, 1) by decide +kernel) rfl rfl, ?_⟩
  refine List.forall_mem_cons.mpr ⟨ok_iconst C (show decode cX11_taken 14 = .ok (.iconst 0, 1) by decide +kernel) (by decide) rfl, ?_⟩
  refine List.forall_mem_cons.mpr ⟨ok_putf C (wi_X11) tyX11 tyX11_ok nmX11 rfl (by decide) kw_1184 (Or.inl rfl) (Or.inl ⟨rfl, rfl⟩) (show decode cX11_taken 15 = .ok (.putfield 21, 3) by decide +kernel) rfl, ?_⟩
  refine List.forall_mem_cons.mpr ⟨ok_aload_n C (show decode cX11_taken 18 = .ok (.aload_n 0, 1) by decide +kernel) rfl rfl, ?_⟩
  refine List.forall_mem_cons.mpr ⟨ok_iload_n C (show decode cX11_taken 19 = .ok (.iload_n 1, 1) by decide +kernel) rfl rfl, ?_⟩
  refine List.forall_mem_cons.mpr ⟨ok_putf C (wi_X11) tyX11 tyX11_ok nmX11 rfl (by decide) kw_1185 (Or.inl rfl) (Or.inl ⟨rfl, rfl⟩) (show decode cX11_taken 20 = .ok (.putfield 24, 3) by decide +kernel) rfl, ?_⟩
  refine List.forall_mem_cons.mpr ⟨ok_vret C rfl (show decode cX11_taken 23 = .ok (.return_, 1) by decide +kernel), ?_⟩
  exact fun _ h => absurd h List.not_mem_nil
def L_X11_isIn : List (Nat × ab_A) := [
  (0, ab_nx 1 (ab_iload 0)),
  (1, ab_nx 2 (ab_iload 1)),
  (2, ab_icmp 5 14 (fun x y => decide (x < y))),
  (5, ab_nx 6 (ab_iload 0)),
  (6, ab_nx 7 (ab_iload 2)),
  (7, ab_icmp 10 14 (fun x y => decide (y < x))),
  (10, ab_nx 11 (ab_lit (.int 1))),
  (11, ab_goto 15),
  (14, ab_nx 15 (ab_lit (.int 0))),
  (15, ab_zret 0 0)]
set_option maxRecDepth 100000 in
set_option maxHeartbeats 4000000 in
theorem M_X11_isIn {l : Launch} {b : ab_B} {D : va_G} {cA : Nat → ClassId} : ab_M l b D ab_cl cA (ab_E0 b) yX11_isIn (Cond.code yX11_isIn cX11_isIn 3 (some .boolean) :: ab_G) ({ frames := 1, cells := 0, slots := 0, locals := 100 } : Room) (ab_X (ab_T L_X11_isIn) 3) := by
  refine ab_meth (ret := (some .boolean)) L_X11_isIn (by decide) rfl fun p e R s m args below meth c o C => ?_
  unfold L_X11_isIn
  refine List.forall_mem_cons.mpr ⟨ok_iload_n C (show decode cX11_isIn 0 = .ok (.iload_n 0, 1) by decide +kernel) rfl rfl, ?_⟩
  refine List.forall_mem_cons.mpr ⟨ok_iload_n C (show decode cX11_isIn 1 = .ok (.iload_n 1, 1) by decide +kernel) rfl rfl, ?_⟩
  refine List.forall_mem_cons.mpr ⟨ok_icmplt C (show decode cX11_isIn 2 = .ok (.if_icmp .lt 12, 3) by decide +kernel) (tg := 14) (by decide) rfl rfl, ?_⟩
  refine List.forall_mem_cons.mpr ⟨ok_iload_n C (show decode cX11_isIn 5 = .ok (.iload_n 0, 1) by decide +kernel) rfl rfl, ?_⟩
  refine List.forall_mem_cons.mpr ⟨ok_iload_n C (show decode cX11_isIn 6 = .ok (.iload_n 2, 1) by decide +kernel) rfl rfl, ?_⟩
  refine List.forall_mem_cons.mpr ⟨ok_icmpgt C (show decode cX11_isIn 7 = .ok (.if_icmp .gt 7, 3) by decide +kernel) (tg := 14) (by decide) rfl rfl, ?_⟩
  refine List.forall_mem_cons.mpr ⟨ok_iconst C (show decode cX11_isIn 10 = .ok (.iconst 1, 1) by decide +kernel) (by decide) rfl, ?_⟩
  refine List.forall_mem_cons.mpr ⟨ok_goto C (show decode cX11_isIn 11 = .ok (.goto 4, 3) by decide +kernel) (tg := 15) (by decide) rfl, ?_⟩
  refine List.forall_mem_cons.mpr ⟨ok_iconst C (show decode cX11_isIn 14 = .ok (.iconst 0, 1) by decide +kernel) (by decide) rfl, ?_⟩
  refine List.forall_mem_cons.mpr ⟨ok_zret C rfl (show decode cX11_isIn 15 = .ok (.ireturn, 1) by decide +kernel), ?_⟩
  exact fun _ h => absurd h List.not_mem_nil
def L_X11_bitOf : List (Nat × ab_A) := [
  (0, ab_nx 1 (ab_iload 0)),
  (1, ab_nx 2 (ab_iload 1)),
  (2, ab_nx 3 (ab_bin (fun x y => x >>> (y &&& 31)))),
  (3, ab_nx 4 (ab_lit (.int 1))),
  (4, ab_nx 5 (ab_bin (fun x y => x &&& y))),
  (5, ab_nx 6 (ab_lit (.int 1))),
  (6, ab_icmp 9 13 (fun x y => !decide (x = y))),
  (9, ab_nx 10 (ab_lit (.int 1))),
  (10, ab_goto 14),
  (13, ab_nx 14 (ab_lit (.int 0))),
  (14, ab_zret 0 0)]
set_option maxRecDepth 100000 in
set_option maxHeartbeats 4000000 in
theorem M_X11_bitOf {l : Launch} {b : ab_B} {D : va_G} {cA : Nat → ClassId} : ab_M l b D ab_cl cA (ab_E0 b) yX11_bitOf (Cond.code yX11_bitOf cX11_bitOf 2 (some .boolean) :: ab_G) ({ frames := 1, cells := 0, slots := 0, locals := 100 } : Room) (ab_X (ab_T L_X11_bitOf) 2) := by
  refine ab_meth (ret := (some .boolean)) L_X11_bitOf (by decide) rfl fun p e R s m args below meth c o C => ?_
  unfold L_X11_bitOf
  refine List.forall_mem_cons.mpr ⟨ok_iload_n C (show decode cX11_bitOf 0 = .ok (.iload_n 0, 1) by decide +kernel) rfl rfl, ?_⟩
  refine List.forall_mem_cons.mpr ⟨ok_iload_n C (show decode cX11_bitOf 1 = .ok (.iload_n 1, 1) by decide +kernel) rfl rfl, ?_⟩
  refine List.forall_mem_cons.mpr ⟨ok_ishr C (show decode cX11_bitOf 2 = .ok (.ishr, 1) by decide +kernel) rfl, ?_⟩
  refine List.forall_mem_cons.mpr ⟨ok_iconst C (show decode cX11_bitOf 3 = .ok (.iconst 1, 1) by decide +kernel) (by decide) rfl, ?_⟩
  refine List.forall_mem_cons.mpr ⟨ok_iand C (show decode cX11_bitOf 4 = .ok (.iand, 1) by decide +kernel) rfl, ?_⟩
  refine List.forall_mem_cons.mpr ⟨ok_iconst C (show decode cX11_bitOf 5 = .ok (.iconst 1, 1) by decide +kernel) (by decide) rfl, ?_⟩
  refine List.forall_mem_cons.mpr ⟨ok_icmpne C (show decode cX11_bitOf 6 = .ok (.if_icmp .ne 7, 3) by decide +kernel) (tg := 13) (by decide) rfl rfl, ?_⟩
  refine List.forall_mem_cons.mpr ⟨ok_iconst C (show decode cX11_bitOf 9 = .ok (.iconst 1, 1) by decide +kernel) (by decide) rfl, ?_⟩
  refine List.forall_mem_cons.mpr ⟨ok_goto C (show decode cX11_bitOf 10 = .ok (.goto 4, 3) by decide +kernel) (tg := 14) (by decide) rfl, ?_⟩
  refine List.forall_mem_cons.mpr ⟨ok_iconst C (show decode cX11_bitOf 13 = .ok (.iconst 0, 1) by decide +kernel) (by decide) rfl, ?_⟩
  refine List.forall_mem_cons.mpr ⟨ok_zret C rfl (show decode cX11_bitOf 14 = .ok (.ireturn, 1) by decide +kernel), ?_⟩
  exact fun _ h => absurd h List.not_mem_nil
def L_X11_lesser : List (Nat × ab_A) := [
  (0, ab_nx 1 (ab_iload 0)),
  (1, ab_nx 2 (ab_iload 1)),
  (2, ab_icmp 5 9 (fun x y => decide (y ≤ x))),
  (5, ab_nx 6 (ab_iload 0)),
  (6, ab_goto 10),
  (9, ab_nx 10 (ab_iload 1)),
  (10, ab_ret 0 0)]
set_option maxRecDepth 100000 in
set_option maxHeartbeats 4000000 in
theorem M_X11_lesser {l : Launch} {b : ab_B} {D : va_G} {cA : Nat → ClassId} : ab_M l b D ab_cl cA (ab_E0 b) yX11_lesser (Cond.code yX11_lesser cX11_lesser 2 (some .int) :: ab_G) ({ frames := 1, cells := 0, slots := 0, locals := 100 } : Room) (ab_X (ab_T L_X11_lesser) 2) := by
  refine ab_meth (ret := (some .int)) L_X11_lesser (by decide) rfl fun p e R s m args below meth c o C => ?_
  unfold L_X11_lesser
  refine List.forall_mem_cons.mpr ⟨ok_iload_n C (show decode cX11_lesser 0 = .ok (.iload_n 0, 1) by decide +kernel) rfl rfl, ?_⟩
  refine List.forall_mem_cons.mpr ⟨ok_iload_n C (show decode cX11_lesser 1 = .ok (.iload_n 1, 1) by decide +kernel) rfl rfl, ?_⟩
  refine List.forall_mem_cons.mpr ⟨ok_icmpge C (show decode cX11_lesser 2 = .ok (.if_icmp .ge 7, 3) by decide +kernel) (tg := 9) (by decide) rfl rfl, ?_⟩
  refine List.forall_mem_cons.mpr ⟨ok_iload_n C (show decode cX11_lesser 5 = .ok (.iload_n 0, 1) by decide +kernel) rfl rfl, ?_⟩
  refine List.forall_mem_cons.mpr ⟨ok_goto C (show decode cX11_lesser 6 = .ok (.goto 4, 3) by decide +kernel) (tg := 10) (by decide) rfl, ?_⟩
  refine List.forall_mem_cons.mpr ⟨ok_iload_n C (show decode cX11_lesser 9 = .ok (.iload_n 1, 1) by decide +kernel) rfl rfl, ?_⟩
  refine List.forall_mem_cons.mpr ⟨ok_ret C rfl (show decode cX11_lesser 10 = .ok (.ireturn, 1) by decide +kernel), ?_⟩
  exact fun _ h => absurd h List.not_mem_nil
def L_X11_bits : List (Nat × ab_A) := [
  (0, ab_nx 1 (ab_lit (.int 0))),
  (1, ab_nx 2 (ab_istore 1)),
  (2, ab_nx 3 (ab_iload 0)),
  (3, ab_nx 4 (ab_istore 2)),
  (4, ab_nx 5 (ab_iload 2)),
  (5, ab_if 8 20 (fun x => decide (x = 0))),
  (8, ab_nx 11 (ab_iinc 1 1)),
  (11, ab_nx 12 (ab_iload 2)),
  (12, ab_nx 13 (ab_iload 2)),
  (13, ab_nx 14 (ab_lit (.int 1))),
  (14, ab_nx 15 (ab_bin (fun x y => x - y))),
  (15, ab_nx 16 (ab_bin (fun x y => x &&& y))),
  (16, ab_nx 17 (ab_istore 2)),
  (17, ab_goto 4),
  (20, ab_nx 21 (ab_iload 1)),
  (21, ab_ret 0 0)]
set_option maxRecDepth 100000 in
set_option maxHeartbeats 4000000 in
theorem M_X11_bits {l : Launch} {b : ab_B} {D : va_G} {cA : Nat → ClassId} : ab_M l b D ab_cl cA (ab_E0 b) yX11_bits (Cond.code yX11_bits cX11_bits 3 (some .int) :: ab_G) ({ frames := 1, cells := 0, slots := 0, locals := 100 } : Room) (ab_X (ab_T L_X11_bits) 3) := by
  refine ab_meth (ret := (some .int)) L_X11_bits (by decide) rfl fun p e R s m args below meth c o C => ?_
  unfold L_X11_bits
  refine List.forall_mem_cons.mpr ⟨ok_iconst C (show decode cX11_bits 0 = .ok (.iconst 0, 1) by decide +kernel) (by decide) rfl, ?_⟩
  refine List.forall_mem_cons.mpr ⟨ok_istore_n C (show decode cX11_bits 1 = .ok (.istore_n 1, 1) by decide +kernel) rfl (by decide) rfl, ?_⟩
  refine List.forall_mem_cons.mpr ⟨ok_iload_n C (show decode cX11_bits 2 = .ok (.iload_n 0, 1) by decide +kernel) rfl rfl, ?_⟩
  refine List.forall_mem_cons.mpr ⟨ok_istore_n C (show decode cX11_bits 3 = .ok (.istore_n 2, 1) by decide +kernel) rfl (by decide) rfl, ?_⟩
  refine List.forall_mem_cons.mpr ⟨ok_iload_n C (show decode cX11_bits 4 = .ok (.iload_n 2, 1) by decide +kernel) rfl rfl, ?_⟩
  refine List.forall_mem_cons.mpr ⟨ok_ifeq C (show decode cX11_bits 5 = .ok (.ifCond .eq 15, 3) by decide +kernel) (tg := 20) (by decide) rfl rfl, ?_⟩
  refine List.forall_mem_cons.mpr ⟨ok_iinc C (show decode cX11_bits 8 = .ok (.iinc 1 1, 3) by decide +kernel) (by decide) (by decide) rfl, ?_⟩
  refine List.forall_mem_cons.mpr ⟨ok_iload_n C (show decode cX11_bits 11 = .ok (.iload_n 2, 1) by decide +kernel) rfl rfl, ?_⟩
  refine List.forall_mem_cons.mpr ⟨ok_iload_n C (show decode cX11_bits 12 = .ok (.iload_n 2, 1) by decide +kernel) rfl rfl, ?_⟩
  refine List.forall_mem_cons.mpr ⟨ok_iconst C (show decode cX11_bits 13 = .ok (.iconst 1, 1) by decide +kernel) (by decide) rfl, ?_⟩
  refine List.forall_mem_cons.mpr ⟨ok_isub C (show decode cX11_bits 14 = .ok (.isub, 1) by decide +kernel) rfl, ?_⟩
  refine List.forall_mem_cons.mpr ⟨ok_iand C (show decode cX11_bits 15 = .ok (.iand, 1) by decide +kernel) rfl, ?_⟩
  refine List.forall_mem_cons.mpr ⟨ok_istore_n C (show decode cX11_bits 16 = .ok (.istore_n 2, 1) by decide +kernel) rfl (by decide) rfl, ?_⟩
  refine List.forall_mem_cons.mpr ⟨ok_goto C (show decode cX11_bits 17 = .ok (.goto (-13), 3) by decide +kernel) (tg := 4) (by decide) rfl, ?_⟩
  refine List.forall_mem_cons.mpr ⟨ok_iload_n C (show decode cX11_bits 20 = .ok (.iload_n 1, 1) by decide +kernel) rfl rfl, ?_⟩
  refine List.forall_mem_cons.mpr ⟨ok_ret C rfl (show decode cX11_bits 21 = .ok (.ireturn, 1) by decide +kernel), ?_⟩
  exact fun _ h => absurd h List.not_mem_nil
def L_X11_octet : List (Nat × ab_A) := [
  (0, ab_nx 1 (ab_aload 0)),
  (1, ab_nx 4 (ab_getf 11 1)),
  (4, ab_nx 5 (ab_iload 1)),
  (5, ab_nx 6 (ab_ald 0)),
  (6, ab_nx 9 (ab_lit (.int 255))),
  (9, ab_nx 10 (ab_bin (fun x y => x &&& y))),
  (10, ab_ret 0 0)]
set_option maxRecDepth 100000 in
set_option maxHeartbeats 4000000 in
theorem M_X11_octet {l : Launch} {b : ab_B} {D : va_G} {cA : Nat → ClassId} : ab_M l b D ab_cl cA (ab_E0 b) yX11_octet (Cond.code yX11_octet cX11_octet 2 (some .int) :: ab_G) ({ frames := 1, cells := 0, slots := 0, locals := 100 } : Room) (ab_X (ab_T L_X11_octet) 2) := by
  refine ab_meth (ret := (some .int)) L_X11_octet (by decide) rfl fun p e R s m args below meth c o C => ?_
  unfold L_X11_octet
  refine List.forall_mem_cons.mpr ⟨ok_aload_n C (show decode cX11_octet 0 = .ok (.aload_n 0, 1) by decide +kernel) rfl rfl, ?_⟩
  refine List.forall_mem_cons.mpr ⟨ok_getf C (wi_X11) rfl (by decide) kw_1181 (show decode cX11_octet 1 = .ok (.getfield 14, 3) by decide +kernel) rfl, ?_⟩
  refine List.forall_mem_cons.mpr ⟨ok_iload_n C (show decode cX11_octet 4 = .ok (.iload_n 1, 1) by decide +kernel) rfl rfl, ?_⟩
  refine List.forall_mem_cons.mpr ⟨ok_baload C (show decode cX11_octet 5 = .ok (.baload, 1) by decide +kernel) rfl, ?_⟩
  refine List.forall_mem_cons.mpr ⟨ok_sipush C (show decode cX11_octet 6 = .ok (.sipush 255, 3) by decide +kernel) (by decide) rfl, ?_⟩
  refine List.forall_mem_cons.mpr ⟨ok_iand C (show decode cX11_octet 9 = .ok (.iand, 1) by decide +kernel) rfl, ?_⟩
  refine List.forall_mem_cons.mpr ⟨ok_ret C rfl (show decode cX11_octet 10 = .ok (.ireturn, 1) by decide +kernel), ?_⟩
  exact fun _ h => absurd h List.not_mem_nil
def L_X11_init : List (Nat × ab_A) := [
  (0, ab_nx 1 (ab_aload 0)),
  (1, ab_nx 4 ab_obj),
  (4, ab_nx 5 (ab_aload 0)),
  (5, ab_nx 8 (ab_lit (.int 940))),
  (8, ab_nx 10 (ab_newa 0 (fun n => (n, .inl (fun _ => 0))) 17 3972)),
  (10, ab_nx 13 (ab_putf 11 1 2)),
  (13, ab_nx 14 (ab_aload 0)),
  (14, ab_nx 17 (ab_lit (.int 434))),
  (17, ab_nx 19 (ab_newa 1 (fun n => (n, .inl (fun _ => 0))) 17 3972)),
  (19, ab_nx 22 (ab_putf 11 6 2)),
  (22, ab_nx 23 (ab_aload 0)),
  (23, ab_nx 25 (ab_lit (.int 120))),
  (25, ab_nx 27 (ab_newa 1 (fun n => (n, .inl (fun _ => 0))) 17 3972)),
  (27, ab_nx 30 (ab_putf 11 7 2)),
  (30, ab_nx 31 (ab_aload 0)),
  (31, ab_nx 34 (ab_lit (.int 160))),
  (34, ab_nx 36 (ab_newa 1 (fun n => (n, .inl (fun _ => 0))) 17 3972)),
  (36, ab_nx 39 (ab_putf 11 8 2)),
  (39, ab_nx 40 (ab_aload 0)),
  (40, ab_nx 42 (ab_lit (.int 28))),
  (42, ab_nx 44 (ab_newa 2 (fun n => (n, .inr (.inl (fun _ => 0)))) 17 3972)),
  (44, ab_nx 47 (ab_putf 11 9 2)),
  (47, ab_nx 48 (ab_aload 0)),
  (48, ab_nx 50 (ab_lit (.int 25))),
  (50, ab_nx 52 (ab_newa 2 (fun n => (n, .inr (.inl (fun _ => 0)))) 17 3972)),
  (52, ab_nx 55 (ab_putf 11 10 2)),
  (55, ab_nx 56 (ab_aload 0)),
  (56, ab_nx 57 (ab_lit (.int 4))),
  (57, ab_nx 59 (ab_newa 1 (fun n => (n, .inl (fun _ => 0))) 17 3972)),
  (59, ab_nx 62 (ab_putf 11 21 2)),
  (62, ab_nx 63 (ab_aload 0)),
  (63, ab_nx 66 (ab_lit (.int 1064))),
  (66, ab_nx 68 (ab_newa 1 (fun n => (n, .inl (fun _ => 0))) 17 3972)),
  (68, ab_nx 71 (ab_putf 11 23 2)),
  (71, ab_nx 72 (ab_aload 0)),
  (72, ab_nx 75 (ab_lit (.int 133))),
  (75, ab_nx 77 (ab_newa 1 (fun n => (n, .inl (fun _ => 0))) 17 3972)),
  (77, ab_nx 80 (ab_putf 11 24 2)),
  (80, ab_nx 81 (ab_aload 0)),
  (81, ab_nx 83 (ab_lit (.int 60))),
  (83, ab_nx 85 (ab_newa 1 (fun n => (n, .inl (fun _ => 0))) 17 3972)),
  (85, ab_nx 88 (ab_putf 11 26 2)),
  (88, ab_nx 89 (ab_aload 0)),
  (89, ab_nx 91 (ab_lit (.int 12))),
  (91, ab_nx 93 (ab_newa 1 (fun n => (n, .inl (fun _ => 0))) 17 3972)),
  (93, ab_nx 96 (ab_putf 11 27 2)),
  (96, ab_nx 97 (ab_aload 0)),
  (97, ab_nx 98 (ab_lit (.int (-1)))),
  (98, ab_nx 101 (ab_putf 11 28 0)),
  (101, ab_nx 102 (ab_aload 0)),
  (102, ab_nx 103 (ab_lit (.int 4))),
  (103, ab_nx 105 (ab_newa 1 (fun n => (n, .inl (fun _ => 0))) 17 3972)),
  (105, ab_nx 108 (ab_putf 11 31 2)),
  (108, ab_nx 109 (ab_aload 0)),
  (109, ab_nx 111 (ab_lit (.int 45))),
  (111, ab_nx 113 (ab_newa 1 (fun n => (n, .inl (fun _ => 0))) 17 3972)),
  (113, ab_nx 116 (ab_putf 11 33 2)),
  (116, ab_nx 117 (ab_aload 0)),
  (117, ab_nx 119 (ab_lit (.int 45))),
  (119, ab_nx 121 (ab_newa 3 (fun n => (n, .inl (fun _ => 0))) 17 3972)),
  (121, ab_nx 124 (ab_putf 11 39 2)),
  (124, ab_nx 125 (ab_aload 0)),
  (125, ab_nx 128 (ab_lit (.int 868))),
  (128, ab_nx 130 (ab_newa 1 (fun n => (n, .inl (fun _ => 0))) 17 3972)),
  (130, ab_nx 133 (ab_putf 11 40 2)),
  (133, ab_nx 134 (ab_aload 0)),
  (134, ab_nx 136 (ab_lit (.int 28))),
  (136, ab_nx 138 (ab_newa 2 (fun n => (n, .inr (.inl (fun _ => 0)))) 17 3972)),
  (138, ab_nx 141 (ab_putf 11 41 2)),
  (141, ab_nx 142 (ab_aload 0)),
  (142, ab_nx 143 (ab_lit (.int 2))),
  (143, ab_nx 145 (ab_newa 3 (fun n => (n, .inl (fun _ => 0))) 17 3972)),
  (145, ab_nx 148 (ab_putf 11 42 2)),
  (148, ab_nx 149 (ab_aload 0)),
  (149, ab_nx 152 (ab_getf 11 10)),
  (152, ab_nx 153 (ab_lit (.int 0))),
  (153, ab_nx 156 (ab_lit (.long 1819238756))),
  (156, ab_nx 157 ab_last),
  (157, ab_nx 158 (ab_aload 0)),
  (158, ab_nx 161 (ab_getf 11 10)),
  (161, ab_nx 162 (ab_lit (.int 1))),
  (162, ab_nx 165 (ab_lit (.long 1735356260))),
  (165, ab_nx 166 ab_last),
  (166, ab_nx 167 (ab_aload 0)),
  (167, ab_nx 170 (ab_getf 11 10)),
  (170, ab_nx 171 (ab_lit (.int 2))),
  (171, ab_nx 174 (ab_lit (.long 495874696043))),
  (174, ab_nx 175 ab_last),
  (175, ab_nx 176 (ab_aload 0)),
  (176, ab_nx 179 (ab_getf 11 10)),
  (179, ab_nx 180 (ab_lit (.int 3))),
  (180, ab_nx 183 (ab_lit (.long 512735736947))),
  (183, ab_nx 184 ab_last),
  (184, ab_nx 185 (ab_aload 0)),
  (185, ab_nx 188 (ab_getf 11 10)),
  (188, ab_nx 189 (ab_lit (.int 4))),
  (189, ab_nx 192 (ab_lit (.long 1700885619))),
  (192, ab_nx 193 ab_last),
  (193, ab_nx 194 (ab_aload 0)),
  (194, ab_nx 197 (ab_getf 11 10)),
  (197, ab_nx 198 (ab_lit (.int 5))),
  (198, ab_nx 201 (ab_lit (.long 469785863539))),
  (201, ab_nx 202 ab_last),
  (202, ab_nx 203 (ab_aload 0)),
  (203, ab_nx 206 (ab_getf 11 10)),
  (206, ab_nx 208 (ab_lit (.int 6))),
  (208, ab_nx 211 (ab_lit (.long 7168366))),
  (211, ab_nx 212 ab_last),
  (212, ab_nx 213 (ab_aload 0)),
  (213, ab_nx 216 (ab_getf 11 10)),
  (216, ab_nx 218 (ab_lit (.int 7))),
  (218, ab_nx 221 (ab_lit (.long 120299675936115))),
  (221, ab_nx 222 ab_last),
  (222, ab_nx 223 (ab_aload 0)),
  (223, ab_nx 226 (ab_getf 11 10)),
  (226, ab_nx 228 (ab_lit (.int 8))),
  (228, ab_nx 231 (ab_lit (.long 114827585545331))),
  (231, ab_nx 232 ab_last),
  (232, ab_nx 233 (ab_aload 0)),
  (233, ab_nx 236 (ab_getf 11 10)),
  (236, ab_nx 238 (ab_lit (.int 9))),
  (238, ab_nx 241 (ab_lit (.long 422541682035))),
  (241, ab_nx 242 ab_last),
  (242, ab_nx 243 (ab_aload 0)),
  (243, ab_nx 246 (ab_getf 11 10)),
  (246, ab_nx 248 (ab_lit (.int 10))),
  (248, ab_nx 251 (ab_lit (.long 131260432541043))),
  (251, ab_nx 252 ab_last),
  (252, ab_nx 253 (ab_aload 0)),
  (253, ab_nx 256 (ab_getf 11 10)),
  (256, ab_nx 258 (ab_lit (.int 11))),
  (258, ab_nx 261 (ab_lit (.long 1684628851))),
  (261, ab_nx 262 ab_last),
  (262, ab_nx 263 (ab_aload 0)),
  (263, ab_nx 266 (ab_getf 11 10)),
  (266, ab_nx 268 (ab_lit (.int 12))),
  (268, ab_nx 271 (ab_lit (.long 6578553))),
  (271, ab_nx 272 ab_last),
  (272, ab_nx 273 (ab_aload 0)),
  (273, ab_nx 276 (ab_getf 11 10)),
  (276, ab_nx 278 (ab_lit (.int 13))),
  (278, ab_nx 281 (ab_lit (.long 28530))),
  (281, ab_nx 282 ab_last),
  (282, ab_nx 283 (ab_aload 0)),
  (283, ab_nx 286 (ab_getf 11 10)),
  (286, ab_nx 288 (ab_lit (.int 14))),
  (288, ab_nx 291 (ab_lit (.long 6385252))),
  (291, ab_nx 292 ab_last),
  (292, ab_nx 293 (ab_aload 0)),
  (293, ab_nx 296 (ab_getf 11 10)),
  (296, ab_nx 298 (ab_lit (.int 15))),
  (298, ab_nx 301 (ab_lit (.long 7237492))),
  (301, ab_nx 302 ab_last),
  (302, ab_nx 303 (ab_aload 0)),
  (303, ab_nx 306 (ab_getf 11 10)),
  (306, ab_nx 308 (ab_lit (.int 16))),
  (308, ab_nx 311 (ab_lit (.long 119165535610212))),
  (311, ab_nx 312 ab_last),
  (312, ab_nx 313 (ab_aload 0)),
  (313, ab_nx 316 (ab_getf 11 10)),
  (316, ab_nx 318 (ab_lit (.int 17))),
  (318, ab_nx 321 (ab_lit (.long 29395861899601252))),
  (321, ab_nx 322 ab_last),
  (322, ab_nx 323 (ab_aload 0)),
  (323, ab_nx 326 (ab_getf 11 10)),
  (326, ab_nx 328 (ab_lit (.int 18))),
  (328, ab_nx 331 (ab_lit (.long 1835099237))),
  (331, ab_nx 332 ab_last),
  (332, ab_nx 333 (ab_aload 0)),
  (333, ab_nx 336 (ab_getf 11 10)),
  (336, ab_nx 338 (ab_lit (.int 19))),
  (338, ab_nx 341 (ab_lit (.long 435426714990))),
  (341, ab_nx 342 ab_last),
  (342, ab_nx 343 (ab_aload 0)),
  (343, ab_nx 346 (ab_getf 11 10)),
  (346, ab_nx 348 (ab_lit (.int 20))),
  (348, ab_nx 351 (ab_lit (.long 439721161573))),
  (351, ab_nx 352 ab_last),
  (352, ab_nx 353 (ab_aload 0)),
  (353, ab_nx 356 (ab_getf 11 10)),
  (356, ab_nx 358 (ab_lit (.int 21))),
  (358, ab_nx 361 (ab_lit (.long 1852137842))),
  (361, ab_nx 362 ab_last),
  (362, ab_nx 363 (ab_aload 0)),
  (363, ab_nx 366 (ab_getf 11 10)),
  (366, ab_nx 368 (ab_lit (.int 22))),
  (368, ab_nx 371 (ab_lit (.long 6709618))),
  (371, ab_nx 372 ab_last),
  (372, ab_nx 373 (ab_aload 0)),
  (373, ab_nx 376 (ab_getf 11 10)),
  (376, ab_nx 378 (ab_lit (.int 23))),
  (378, ab_nx 381 (ab_lit (.long 27991845698233700))),
  (381, ab_nx 382 ab_last),
  (382, ab_nx 383 (ab_aload 0)),
  (383, ab_nx 386 (ab_getf 11 10)),
  (386, ab_nx 388 (ab_lit (.int 24))),
  (388, ab_nx 391 (ab_lit (.long 121450625394034))),
  (391, ab_nx 392 ab_last),
  (392, ab_nx 393 (ab_aload 0)),
  (393, ab_nx 396 (ab_getf 11 6)),
  (396, ab_nx 397 (ab_lit (.int 2))),
  (397, ab_nx 399 (ab_lit (.int 10))),
  (399, ab_nx 400 (ab_ast 1)),
  (400, ab_vret 17 3972)]
set_option maxRecDepth 100000 in
set_option maxHeartbeats 4000000 in
theorem M_X11_init {l : Launch} {b : ab_B} {D : va_G} {cA : Nat → ClassId} : ab_M l b D ab_cl cA (ab_E0 b) yX11_init (Cond.code yX11_init cX11_init 1 none :: ab_G) ({ frames := 2, cells := 17, slots := 3972, locals := 200 } : Room) (ab_X (ab_T L_X11_init) 1) := by
  refine ab_meth (ret := none) L_X11_init (by decide) rfl fun p e R s m args below meth c o C => ?_
  unfold L_X11_init
  refine List.forall_mem_cons.mpr ⟨ok_aload_n C (show decode cX11_init 0 = .ok (.aload_n 0, 1) by decide +kernel) rfl rfl, ?_⟩
  refine List.forall_mem_cons.mpr ⟨ok_obj C kw_1154 kw_30 kw_31 ⟨by decide, by decide⟩ (show decode cX11_init 1 = .ok (.invokespecial 27, 3) by decide +kernel) rfl, ?_⟩
  refine List.forall_mem_cons.mpr ⟨ok_aload_n C (show decode cX11_init 4 = .ok (.aload_n 0, 1) by decide +kernel) rfl rfl, ?_⟩
  refine List.forall_mem_cons.mpr ⟨ok_sipush C (show decode cX11_init 5 = .ok (.sipush 940, 3) by decide +kernel) (by decide) rfl, ?_⟩
  refine List.forall_mem_cons.mpr ⟨ok_newa_byte C kw_49 (show decode cX11_init 8 = .ok (.newarray .byte, 2) by decide +kernel) rfl, ?_⟩
  refine List.forall_mem_cons.mpr ⟨ok_putf C (wi_X11) tyX11 tyX11_ok nmX11 rfl (by decide) kw_1181 (Or.inr ⟨rfl, cx_name C, rfl⟩) (Or.inr (Or.inr (Or.inl ⟨rfl, Or.inr ⟨_, rfl⟩⟩))) (show decode cX11_init 10 = .ok (.putfield 14, 3) by decide +kernel) rfl, ?_⟩
  refine List.forall_mem_cons.mpr ⟨ok_aload_n C (show decode cX11_init 13 = .ok (.aload_n 0, 1) by decide +kernel) rfl rfl, ?_⟩
  refine List.forall_mem_cons.mpr ⟨ok_sipush C (show decode cX11_init 14 = .ok (.sipush 434, 3) by decide +kernel) (by decide) rfl, ?_⟩
  refine List.forall_mem_cons.mpr ⟨ok_newa_int C kw_97 (show decode cX11_init 17 = .ok (.newarray .int, 2) by decide +kernel) rfl, ?_⟩
  refine List.forall_mem_cons.mpr ⟨ok_putf C (wi_X11) tyX11 tyX11_ok nmX11 rfl (by decide) kw_1186 (Or.inr ⟨rfl, cx_name C, rfl⟩) (Or.inr (Or.inr (Or.inl ⟨rfl, Or.inr ⟨_, rfl⟩⟩))) (show decode cX11_init 19 = .ok (.putfield 33, 3) by decide +kernel) rfl, ?_⟩
  refine List.forall_mem_cons.mpr ⟨ok_aload_n C (show decode cX11_init 22 = .ok (.aload_n 0, 1) by decide +kernel) rfl rfl, ?_⟩
  refine List.forall_mem_cons.mpr ⟨ok_bipush C (show decode cX11_init 23 = .ok (.bipush 120, 2) by decide +kernel) (by decide) rfl, ?_⟩
  refine List.forall_mem_cons.mpr ⟨ok_newa_int C kw_97 (show decode cX11_init 25 = .ok (.newarray .int, 2) by decide +kernel) rfl, ?_⟩
  refine List.forall_mem_cons.mpr ⟨ok_putf C (wi_X11) tyX11 tyX11_ok nmX11 rfl (by decide) kw_1187 (Or.inr ⟨rfl, cx_name C, rfl⟩) (Or.inr (Or.inr (Or.inl ⟨rfl, Or.inr ⟨_, rfl⟩⟩))) (show decode cX11_init 27 = .ok (.putfield 37, 3) by decide +kernel) rfl, ?_⟩
  refine List.forall_mem_cons.mpr ⟨ok_aload_n C (show decode cX11_init 30 = .ok (.aload_n 0, 1) by decide +kernel) rfl rfl, ?_⟩
  refine List.forall_mem_cons.mpr ⟨ok_sipush C (show decode cX11_init 31 = .ok (.sipush 160, 3) by decide +kernel) (by decide) rfl, ?_⟩
  refine List.forall_mem_cons.mpr ⟨ok_newa_int C kw_97 (show decode cX11_init 34 = .ok (.newarray .int, 2) by decide +kernel) rfl, ?_⟩
  refine List.forall_mem_cons.mpr ⟨ok_putf C (wi_X11) tyX11 tyX11_ok nmX11 rfl (by decide) kw_1188 (Or.inr ⟨rfl, cx_name C, rfl⟩) (Or.inr (Or.inr (Or.inl ⟨rfl, Or.inr ⟨_, rfl⟩⟩))) (show decode cX11_init 36 = .ok (.putfield 40, 3) by decide +kernel) rfl, ?_⟩
  refine List.forall_mem_cons.mpr ⟨ok_aload_n C (show decode cX11_init 39 = .ok (.aload_n 0, 1) by decide +kernel) rfl rfl, ?_⟩
  refine List.forall_mem_cons.mpr ⟨ok_bipush C (show decode cX11_init 40 = .ok (.bipush 28, 2) by decide +kernel) (by decide) rfl, ?_⟩
  refine List.forall_mem_cons.mpr ⟨ok_newa_long C kw_98 (show decode cX11_init 42 = .ok (.newarray .long, 2) by decide +kernel) rfl, ?_⟩
  refine List.forall_mem_cons.mpr ⟨ok_putf C (wi_X11) tyX11 tyX11_ok nmX11 rfl (by decide) kw_1189 (Or.inr ⟨rfl, cx_name C, rfl⟩) (Or.inr (Or.inr (Or.inl ⟨rfl, Or.inr ⟨_, rfl⟩⟩))) (show decode cX11_init 44 = .ok (.putfield 43, 3) by decide +kernel) rfl, ?_⟩
  refine List.forall_mem_cons.mpr ⟨ok_aload_n C (show decode cX11_init 47 = .ok (.aload_n 0, 1) by decide +kernel) rfl rfl, ?_⟩
  refine List.forall_mem_cons.mpr ⟨ok_bipush C (show decode cX11_init 48 = .ok (.bipush 25, 2) by decide +kernel) (by decide) rfl, ?_⟩
  refine List.forall_mem_cons.mpr ⟨ok_newa_long C kw_98 (show decode cX11_init 50 = .ok (.newarray .long, 2) by decide +kernel) rfl, ?_⟩
  refine List.forall_mem_cons.mpr ⟨ok_putf C (wi_X11) tyX11 tyX11_ok nmX11 rfl (by decide) kw_1190 (Or.inr ⟨rfl, cx_name C, rfl⟩) (Or.inr (Or.inr (Or.inl ⟨rfl, Or.inr ⟨_, rfl⟩⟩))) (show decode cX11_init 52 = .ok (.putfield 47, 3) by decide +kernel) rfl, ?_⟩
  refine List.forall_mem_cons.mpr ⟨ok_aload_n C (show decode cX11_init 55 = .ok (.aload_n 0, 1) by decide +kernel) rfl rfl, ?_⟩
  refine List.forall_mem_cons.mpr ⟨ok_iconst C (show decode cX11_init 56 = .ok (.iconst 4, 1) by decide +kernel) (by decide) rfl, ?_⟩
  refine List.forall_mem_cons.mpr ⟨ok_newa_int C kw_97 (show decode cX11_init 57 = .ok (.newarray .int, 2) by decide +kernel) rfl, ?_⟩
  refine List.forall_mem_cons.mpr ⟨ok_putf C (wi_X11) tyX11 tyX11_ok nmX11 rfl (by decide) kw_1201 (Or.inr ⟨rfl, cx_name C, rfl⟩) (Or.inr (Or.inr (Or.inl ⟨rfl, Or.inr ⟨_, rfl⟩⟩))) (show decode cX11_init 59 = .ok (.putfield 50, 3) by decide +kernel) rfl, ?_⟩
  refine List.forall_mem_cons.mpr ⟨ok_aload_n C (show decode cX11_init 62 = .ok (.aload_n 0, 1) by decide +kernel) rfl rfl, ?_⟩
  refine List.forall_mem_cons.mpr ⟨ok_sipush C (show decode cX11_init 63 = .ok (.sipush 1064, 3) by decide +kernel) (by decide) rfl, ?_⟩
  refine List.forall_mem_cons.mpr ⟨ok_newa_int C kw_97 (show decode cX11_init 66 = .ok (.newarray .int, 2) by decide +kernel) rfl, ?_⟩
  refine List.forall_mem_cons.mpr ⟨ok_putf C (wi_X11) tyX11 tyX11_ok nmX11 rfl (by decide) kw_1203 (Or.inr ⟨rfl, cx_name C, rfl⟩) (Or.inr (Or.inr (Or.inl ⟨rfl, Or.inr ⟨_, rfl⟩⟩))) (show decode cX11_init 68 = .ok (.putfield 53, 3) by decide +kernel) rfl, ?_⟩
  refine List.forall_mem_cons.mpr ⟨ok_aload_n C (show decode cX11_init 71 = .ok (.aload_n 0, 1) by decide +kernel) rfl rfl, ?_⟩
  refine List.forall_mem_cons.mpr ⟨ok_sipush C (show decode cX11_init 72 = .ok (.sipush 133, 3) by decide +kernel) (by decide) rfl, ?_⟩
  refine List.forall_mem_cons.mpr ⟨ok_newa_int C kw_97 (show decode cX11_init 75 = .ok (.newarray .int, 2) by decide +kernel) rfl, ?_⟩
  refine List.forall_mem_cons.mpr ⟨ok_putf C (wi_X11) tyX11 tyX11_ok nmX11 rfl (by decide) kw_1204 (Or.inr ⟨rfl, cx_name C, rfl⟩) (Or.inr (Or.inr (Or.inl ⟨rfl, Or.inr ⟨_, rfl⟩⟩))) (show decode cX11_init 77 = .ok (.putfield 56, 3) by decide +kernel) rfl, ?_⟩
  refine List.forall_mem_cons.mpr ⟨ok_aload_n C (show decode cX11_init 80 = .ok (.aload_n 0, 1) by decide +kernel) rfl rfl, ?_⟩
  refine List.forall_mem_cons.mpr ⟨ok_bipush C (show decode cX11_init 81 = .ok (.bipush 60, 2) by decide +kernel) (by decide) rfl, ?_⟩
  refine List.forall_mem_cons.mpr ⟨ok_newa_int C kw_97 (show decode cX11_init 83 = .ok (.newarray .int, 2) by decide +kernel) rfl, ?_⟩
  refine List.forall_mem_cons.mpr ⟨ok_putf C (wi_X11) tyX11 tyX11_ok nmX11 rfl (by decide) kw_1206 (Or.inr ⟨rfl, cx_name C, rfl⟩) (Or.inr (Or.inr (Or.inl ⟨rfl, Or.inr ⟨_, rfl⟩⟩))) (show decode cX11_init 85 = .ok (.putfield 59, 3) by decide +kernel) rfl, ?_⟩
  refine List.forall_mem_cons.mpr ⟨ok_aload_n C (show decode cX11_init 88 = .ok (.aload_n 0, 1) by decide +kernel) rfl rfl, ?_⟩
  refine List.forall_mem_cons.mpr ⟨ok_bipush C (show decode cX11_init 89 = .ok (.bipush 12, 2) by decide +kernel) (by decide) rfl, ?_⟩
  refine List.forall_mem_cons.mpr ⟨ok_newa_int C kw_97 (show decode cX11_init 91 = .ok (.newarray .int, 2) by decide +kernel) rfl, ?_⟩
  refine List.forall_mem_cons.mpr ⟨ok_putf C (wi_X11) tyX11 tyX11_ok nmX11 rfl (by decide) kw_1207 (Or.inr ⟨rfl, cx_name C, rfl⟩) (Or.inr (Or.inr (Or.inl ⟨rfl, Or.inr ⟨_, rfl⟩⟩))) (show decode cX11_init 93 = .ok (.putfield 62, 3) by decide +kernel) rfl, ?_⟩
  refine List.forall_mem_cons.mpr ⟨ok_aload_n C (show decode cX11_init 96 = .ok (.aload_n 0, 1) by decide +kernel) rfl rfl, ?_⟩
  refine List.forall_mem_cons.mpr ⟨ok_iconst C (show decode cX11_init 97 = .ok (.iconst (-1), 1) by decide +kernel) (by decide) rfl, ?_⟩
  refine List.forall_mem_cons.mpr ⟨ok_putf C (wi_X11) tyX11 tyX11_ok nmX11 rfl (by decide) kw_1208 (Or.inl rfl) (Or.inl ⟨rfl, rfl⟩) (show decode cX11_init 98 = .ok (.putfield 65, 3) by decide +kernel) rfl, ?_⟩
  refine List.forall_mem_cons.mpr ⟨ok_aload_n C (show decode cX11_init 101 = .ok (.aload_n 0, 1) by decide +kernel) rfl rfl, ?_⟩
  refine List.forall_mem_cons.mpr ⟨ok_iconst C (show decode cX11_init 102 = .ok (.iconst 4, 1) by decide +kernel) (by decide) rfl, ?_⟩
  refine List.forall_mem_cons.mpr ⟨ok_newa_int C kw_97 (show decode cX11_init 103 = .ok (.newarray .int, 2) by decide +kernel) rfl, ?_⟩
  refine List.forall_mem_cons.mpr ⟨ok_putf C (wi_X11) tyX11 tyX11_ok nmX11 rfl (by decide) kw_1211 (Or.inr ⟨rfl, cx_name C, rfl⟩) (Or.inr (Or.inr (Or.inl ⟨rfl, Or.inr ⟨_, rfl⟩⟩))) (show decode cX11_init 105 = .ok (.putfield 68, 3) by decide +kernel) rfl, ?_⟩
  refine List.forall_mem_cons.mpr ⟨ok_aload_n C (show decode cX11_init 108 = .ok (.aload_n 0, 1) by decide +kernel) rfl rfl, ?_⟩
  refine List.forall_mem_cons.mpr ⟨ok_bipush C (show decode cX11_init 109 = .ok (.bipush 45, 2) by decide +kernel) (by decide) rfl, ?_⟩
  refine List.forall_mem_cons.mpr ⟨ok_newa_int C kw_97 (show decode cX11_init 111 = .ok (.newarray .int, 2) by decide +kernel) rfl, ?_⟩
  refine List.forall_mem_cons.mpr ⟨ok_putf C (wi_X11) tyX11 tyX11_ok nmX11 rfl (by decide) kw_1213 (Or.inr ⟨rfl, cx_name C, rfl⟩) (Or.inr (Or.inr (Or.inl ⟨rfl, Or.inr ⟨_, rfl⟩⟩))) (show decode cX11_init 113 = .ok (.putfield 71, 3) by decide +kernel) rfl, ?_⟩
  refine List.forall_mem_cons.mpr ⟨ok_aload_n C (show decode cX11_init 116 = .ok (.aload_n 0, 1) by decide +kernel) rfl rfl, ?_⟩
  refine List.forall_mem_cons.mpr ⟨ok_bipush C (show decode cX11_init 117 = .ok (.bipush 45, 2) by decide +kernel) (by decide) rfl, ?_⟩
  refine List.forall_mem_cons.mpr ⟨ok_newa_boolean C kw_1310 (show decode cX11_init 119 = .ok (.newarray .boolean, 2) by decide +kernel) rfl, ?_⟩
  refine List.forall_mem_cons.mpr ⟨ok_putf C (wi_X11) tyX11 tyX11_ok nmX11 rfl (by decide) kw_1219 (Or.inr ⟨rfl, cx_name C, rfl⟩) (Or.inr (Or.inr (Or.inl ⟨rfl, Or.inr ⟨_, rfl⟩⟩))) (show decode cX11_init 121 = .ok (.putfield 74, 3) by decide +kernel) rfl, ?_⟩
  refine List.forall_mem_cons.mpr ⟨ok_aload_n C (show decode cX11_init 124 = .ok (.aload_n 0, 1) by decide +kernel) rfl rfl, ?_⟩
  refine List.forall_mem_cons.mpr ⟨ok_sipush C (show decode cX11_init 125 = .ok (.sipush 868, 3) by decide +kernel) (by decide) rfl, ?_⟩
  refine List.forall_mem_cons.mpr ⟨ok_newa_int C kw_97 (show decode cX11_init 128 = .ok (.newarray .int, 2) by decide +kernel) rfl, ?_⟩
  refine List.forall_mem_cons.mpr ⟨ok_putf C (wi_X11) tyX11 tyX11_ok nmX11 rfl (by decide) kw_1220 (Or.inr ⟨rfl, cx_name C, rfl⟩) (Or.inr (Or.inr (Or.inl ⟨rfl, Or.inr ⟨_, rfl⟩⟩))) (show decode cX11_init 130 = .ok (.putfield 78, 3) by decide +kernel) rfl, ?_⟩
  refine List.forall_mem_cons.mpr ⟨ok_aload_n C (show decode cX11_init 133 = .ok (.aload_n 0, 1) by decide +kernel) rfl rfl, ?_⟩
  refine List.forall_mem_cons.mpr ⟨ok_bipush C (show decode cX11_init 134 = .ok (.bipush 28, 2) by decide +kernel) (by decide) rfl, ?_⟩
  refine List.forall_mem_cons.mpr ⟨ok_newa_long C kw_98 (show decode cX11_init 136 = .ok (.newarray .long, 2) by decide +kernel) rfl, ?_⟩
  refine List.forall_mem_cons.mpr ⟨ok_putf C (wi_X11) tyX11 tyX11_ok nmX11 rfl (by decide) kw_1221 (Or.inr ⟨rfl, cx_name C, rfl⟩) (Or.inr (Or.inr (Or.inl ⟨rfl, Or.inr ⟨_, rfl⟩⟩))) (show decode cX11_init 138 = .ok (.putfield 81, 3) by decide +kernel) rfl, ?_⟩
  refine List.forall_mem_cons.mpr ⟨ok_aload_n C (show decode cX11_init 141 = .ok (.aload_n 0, 1) by decide +kernel) rfl rfl, ?_⟩
  refine List.forall_mem_cons.mpr ⟨ok_iconst C (show decode cX11_init 142 = .ok (.iconst 2, 1) by decide +kernel) (by decide) rfl, ?_⟩
  refine List.forall_mem_cons.mpr ⟨ok_newa_boolean C kw_1310 (show decode cX11_init 143 = .ok (.newarray .boolean, 2) by decide +kernel) rfl, ?_⟩
  refine List.forall_mem_cons.mpr ⟨ok_putf C (wi_X11) tyX11 tyX11_ok nmX11 rfl (by decide) kw_1222 (Or.inr ⟨rfl, cx_name C, rfl⟩) (Or.inr (Or.inr (Or.inl ⟨rfl, Or.inr ⟨_, rfl⟩⟩))) (show decode cX11_init 145 = .ok (.putfield 84, 3) by decide +kernel) rfl, ?_⟩
  refine List.forall_mem_cons.mpr ⟨ok_aload_n C (show decode cX11_init 148 = .ok (.aload_n 0, 1) by decide +kernel) rfl rfl, ?_⟩
  refine List.forall_mem_cons.mpr ⟨ok_getf C (wi_X11) rfl (by decide) kw_1190 (show decode cX11_init 149 = .ok (.getfield 47, 3) by decide +kernel) rfl, ?_⟩
  refine List.forall_mem_cons.mpr ⟨ok_iconst C (show decode cX11_init 152 = .ok (.iconst 0, 1) by decide +kernel) (by decide) rfl, ?_⟩
  refine List.forall_mem_cons.mpr ⟨ok_ldc2 C (show decode cX11_init 153 = .ok (.ldc2_w 87, 3) by decide +kernel) (gm kw_1155) rfl, ?_⟩
  refine List.forall_mem_cons.mpr ⟨ok_lastore C (show decode cX11_init 156 = .ok (.lastore, 1) by decide +kernel) rfl, ?_⟩
  refine List.forall_mem_cons.mpr ⟨ok_aload_n C (show decode cX11_init 157 = .ok (.aload_n 0, 1) by decide +kernel) rfl rfl, ?_⟩
  refine List.forall_mem_cons.mpr ⟨ok_getf C (wi_X11) rfl (by decide) kw_1190 (show decode cX11_init 158 = .ok (.getfield 47, 3) by decide +kernel) rfl, ?_⟩
  refine List.forall_mem_cons.mpr ⟨ok_iconst C (show decode cX11_init 161 = .ok (.iconst 1, 1) by decide +kernel) (by decide) rfl, ?_⟩
  refine List.forall_mem_cons.mpr ⟨ok_ldc2 C (show decode cX11_init 162 = .ok (.ldc2_w 89, 3) by decide +kernel) (gm kw_1156) rfl, ?_⟩
  refine List.forall_mem_cons.mpr ⟨ok_lastore C (show decode cX11_init 165 = .ok (.lastore, 1) by decide +kernel) rfl, ?_⟩
  refine List.forall_mem_cons.mpr ⟨ok_aload_n C (show decode cX11_init 166 = .ok (.aload_n 0, 1) by decide +kernel) rfl rfl, ?_⟩
  refine List.forall_mem_cons.mpr ⟨ok_getf C (wi_X11) rfl (by decide) kw_1190 (show decode cX11_init 167 = .ok (.getfield 47, 3) by decide +kernel) rfl, ?_⟩
  refine List.forall_mem_cons.mpr ⟨ok_iconst C (show decode cX11_init 170 = .ok (.iconst 2, 1) by decide +kernel) (by decide) rfl, ?_⟩
  refine List.forall_mem_cons.mpr ⟨ok_ldc2 C (show decode cX11_init 171 = .ok (.ldc2_w 91, 3) by decide +kernel) (gm kw_1157) rfl, ?_⟩
  refine List.forall_mem_cons.mpr ⟨ok_lastore C (show decode cX11_init 174 = .ok (.lastore, 1) by decide +kernel) rfl, ?_⟩
  refine List.forall_mem_cons.mpr ⟨ok_aload_n C (show decode cX11_init 175 = .ok (.aload_n 0, 1) by decide +kernel) rfl rfl, ?_⟩
  refine List.forall_mem_cons.mpr ⟨ok_getf C (wi_X11) rfl (by decide) kw_1190 (show decode cX11_init 176 = .ok (.getfield 47, 3) by decide +kernel) rfl, ?_⟩
  refine List.forall_mem_cons.mpr ⟨ok_iconst C (show decode cX11_init 179 = .ok (.iconst 3, 1) by decide +kernel) (by decide) rfl, ?_⟩
  refine List.forall_mem_cons.mpr ⟨ok_ldc2 C (show decode cX11_init 180 = .ok (.ldc2_w 93, 3) by decide +kernel) (gm kw_1158) rfl, ?_⟩
  refine List.forall_mem_cons.mpr ⟨ok_lastore C (show decode cX11_init 183 = .ok (.lastore, 1) by decide +kernel) rfl, ?_⟩
  refine List.forall_mem_cons.mpr ⟨ok_aload_n C (show decode cX11_init 184 = .ok (.aload_n 0, 1) by decide +kernel) rfl rfl, ?_⟩
  refine List.forall_mem_cons.mpr ⟨ok_getf C (wi_X11) rfl (by decide) kw_1190 (show decode cX11_init 185 = .ok (.getfield 47, 3) by decide +kernel) rfl, ?_⟩
  refine List.forall_mem_cons.mpr ⟨ok_iconst C (show decode cX11_init 188 = .ok (.iconst 4, 1) by decide +kernel) (by decide) rfl, ?_⟩
  refine List.forall_mem_cons.mpr ⟨ok_ldc2 C (show decode cX11_init 189 = .ok (.ldc2_w 95, 3) by decide +kernel) (gm kw_1159) rfl, ?_⟩
  refine List.forall_mem_cons.mpr ⟨ok_lastore C (show decode cX11_init 192 = .ok (.lastore, 1) by decide +kernel) rfl, ?_⟩
  refine List.forall_mem_cons.mpr ⟨ok_aload_n C (show decode cX11_init 193 = .ok (.aload_n 0, 1) by decide +kernel) rfl rfl, ?_⟩
  refine List.forall_mem_cons.mpr ⟨ok_getf C (wi_X11) rfl (by decide) kw_1190 (show decode cX11_init 194 = .ok (.getfield 47, 3) by decide +kernel) rfl, ?_⟩
  refine List.forall_mem_cons.mpr ⟨ok_iconst C (show decode cX11_init 197 = .ok (.iconst 5, 1) by decide +kernel) (by decide) rfl, ?_⟩
  refine List.forall_mem_cons.mpr ⟨ok_ldc2 C (show decode cX11_init 198 = .ok (.ldc2_w 97, 3) by decide +kernel) (gm kw_1160) rfl, ?_⟩
  refine List.forall_mem_cons.mpr ⟨ok_lastore C (show decode cX11_init 201 = .ok (.lastore, 1) by decide +kernel) rfl, ?_⟩
  refine List.forall_mem_cons.mpr ⟨ok_aload_n C (show decode cX11_init 202 = .ok (.aload_n 0, 1) by decide +kernel) rfl rfl, ?_⟩
  refine List.forall_mem_cons.mpr ⟨ok_getf C (wi_X11) rfl (by decide) kw_1190 (show decode cX11_init 203 = .ok (.getfield 47, 3) by decide +kernel) rfl, ?_⟩
  refine List.forall_mem_cons.mpr ⟨ok_bipush C (show decode cX11_init 206 = .ok (.bipush 6, 2) by decide +kernel) (by decide) rfl, ?_⟩
  refine List.forall_mem_cons.mpr ⟨ok_ldc2 C (show decode cX11_init 208 = .ok (.ldc2_w 99, 3) by decide +kernel) (gm kw_1161) rfl, ?_⟩
  refine List.forall_mem_cons.mpr ⟨ok_lastore C (show decode cX11_init 211 = .ok (.lastore, 1) by decide +kernel) rfl, ?_⟩
  refine List.forall_mem_cons.mpr ⟨ok_aload_n C (show decode cX11_init 212 = .ok (.aload_n 0, 1) by decide +kernel) rfl rfl, ?_⟩
  refine List.forall_mem_cons.mpr ⟨ok_getf C (wi_X11) rfl (by decide) kw_1190 (show decode cX11_init 213 = .ok (.getfield 47, 3) by decide +kernel) rfl, ?_⟩
  refine List.forall_mem_cons.mpr ⟨ok_bipush C (show decode cX11_init 216 = .ok (.bipush 7, 2) by decide +kernel) (by decide) rfl, ?_⟩
  refine List.forall_mem_cons.mpr ⟨ok_ldc2 C (show decode cX11_init 218 = .ok (.ldc2_w 101, 3) by decide +kernel) (gm kw_1162) rfl, ?_⟩
  refine List.forall_mem_cons.mpr ⟨ok_lastore C (show decode cX11_init 221 = .ok (.lastore, 1) by decide +kernel) rfl, ?_⟩
  refine List.forall_mem_cons.mpr ⟨ok_aload_n C (show decode cX11_init 222 = .ok (.aload_n 0, 1) by decide +kernel) rfl rfl, ?_⟩
  refine List.forall_mem_cons.mpr ⟨ok_getf C (wi_X11) rfl (by decide) kw_1190 (show decode cX11_init 223 = .ok (.getfield 47, 3) by decide +kernel) rfl, ?_⟩
  refine List.forall_mem_cons.mpr ⟨ok_bipush C (show decode cX11_init 226 = .ok (.bipush 8, 2) by decide +kernel) (by decide) rfl, ?_⟩
  refine List.forall_mem_cons.mpr ⟨ok_ldc2 C (show decode cX11_init 228 = .ok (.ldc2_w 103, 3) by decide +kernel) (gm kw_1163) rfl, ?_⟩
  refine List.forall_mem_cons.mpr ⟨ok_lastore C (show decode cX11_init 231 = .ok (.lastore, 1) by decide +kernel) rfl, ?_⟩
  refine List.forall_mem_cons.mpr ⟨ok_aload_n C (show decode cX11_init 232 = .ok (.aload_n 0, 1) by decide +kernel) rfl rfl, ?_⟩
  refine List.forall_mem_cons.mpr ⟨ok_getf C (wi_X11) rfl (by decide) kw_1190 (show decode cX11_init 233 = .ok (.getfield 47, 3) by decide +kernel) rfl, ?_⟩
  refine List.forall_mem_cons.mpr ⟨ok_bipush C (show decode cX11_init 236 = .ok (.bipush 9, 2) by decide +kernel) (by decide) rfl, ?_⟩
  refine List.forall_mem_cons.mpr ⟨ok_ldc2 C (show decode cX11_init 238 = .ok (.ldc2_w 105, 3) by decide +kernel) (gm kw_1164) rfl, ?_⟩
  refine List.forall_mem_cons.mpr ⟨ok_lastore C (show decode cX11_init 241 = .ok (.lastore, 1) by decide +kernel) rfl, ?_⟩
  refine List.forall_mem_cons.mpr ⟨ok_aload_n C (show decode cX11_init 242 = .ok (.aload_n 0, 1) by decide +kernel) rfl rfl, ?_⟩
  refine List.forall_mem_cons.mpr ⟨ok_getf C (wi_X11) rfl (by decide) kw_1190 (show decode cX11_init 243 = .ok (.getfield 47, 3) by decide +kernel) rfl, ?_⟩
  refine List.forall_mem_cons.mpr ⟨ok_bipush C (show decode cX11_init 246 = .ok (.bipush 10, 2) by decide +kernel) (by decide) rfl, ?_⟩
  refine List.forall_mem_cons.mpr ⟨ok_ldc2 C (show decode cX11_init 248 = .ok (.ldc2_w 107, 3) by decide +kernel) (gm kw_1165) rfl, ?_⟩
  refine List.forall_mem_cons.mpr ⟨ok_lastore C (show decode cX11_init 251 = .ok (.lastore, 1) by decide +kernel) rfl, ?_⟩
  refine List.forall_mem_cons.mpr ⟨ok_aload_n C (show decode cX11_init 252 = .ok (.aload_n 0, 1) by decide +kernel) rfl rfl, ?_⟩
  refine List.forall_mem_cons.mpr ⟨ok_getf C (wi_X11) rfl (by decide) kw_1190 (show decode cX11_init 253 = .ok (.getfield 47, 3) by decide +kernel) rfl, ?_⟩
  refine List.forall_mem_cons.mpr ⟨ok_bipush C (show decode cX11_init 256 = .ok (.bipush 11, 2) by decide +kernel) (by decide) rfl, ?_⟩
  refine List.forall_mem_cons.mpr ⟨ok_ldc2 C (show decode cX11_init 258 = .ok (.ldc2_w 109, 3) by decide +kernel) (gm kw_1166) rfl, ?_⟩
  refine List.forall_mem_cons.mpr ⟨ok_lastore C (show decode cX11_init 261 = .ok (.lastore, 1) by decide +kernel) rfl, ?_⟩
  refine List.forall_mem_cons.mpr ⟨ok_aload_n C (show decode cX11_init 262 = .ok (.aload_n 0, 1) by decide +kernel) rfl rfl, ?_⟩
  refine List.forall_mem_cons.mpr ⟨ok_getf C (wi_X11) rfl (by decide) kw_1190 (show decode cX11_init 263 = .ok (.getfield 47, 3) by decide +kernel) rfl, ?_⟩
  refine List.forall_mem_cons.mpr ⟨ok_bipush C (show decode cX11_init 266 = .ok (.bipush 12, 2) by decide +kernel) (by decide) rfl, ?_⟩
  refine List.forall_mem_cons.mpr ⟨ok_ldc2 C (show decode cX11_init 268 = .ok (.ldc2_w 111, 3) by decide +kernel) (gm kw_1167) rfl, ?_⟩
  refine List.forall_mem_cons.mpr ⟨ok_lastore C (show decode cX11_init 271 = .ok (.lastore, 1) by decide +kernel) rfl, ?_⟩
  refine List.forall_mem_cons.mpr ⟨ok_aload_n C (show decode cX11_init 272 = .ok (.aload_n 0, 1) by decide +kernel) rfl rfl, ?_⟩
  refine List.forall_mem_cons.mpr ⟨ok_getf C (wi_X11) rfl (by decide) kw_1190 (show decode cX11_init 273 = .ok (.getfield 47, 3) by decide +kernel) rfl, ?_⟩
  refine List.forall_mem_cons.mpr ⟨ok_bipush C (show decode cX11_init 276 = .ok (.bipush 13, 2) by decide +kernel) (by decide) rfl, ?_⟩
  refine List.forall_mem_cons.mpr ⟨ok_ldc2 C (show decode cX11_init 278 = .ok (.ldc2_w 113, 3) by decide +kernel) (gm kw_1168) rfl, ?_⟩
  refine List.forall_mem_cons.mpr ⟨ok_lastore C (show decode cX11_init 281 = .ok (.lastore, 1) by decide +kernel) rfl, ?_⟩
  refine List.forall_mem_cons.mpr ⟨ok_aload_n C (show decode cX11_init 282 = .ok (.aload_n 0, 1) by decide +kernel) rfl rfl, ?_⟩
  refine List.forall_mem_cons.mpr ⟨ok_getf C (wi_X11) rfl (by decide) kw_1190 (show decode cX11_init 283 = .ok (.getfield 47, 3) by decide +kernel) rfl, ?_⟩
  refine List.forall_mem_cons.mpr ⟨ok_bipush C (show decode cX11_init 286 = .ok (.bipush 14, 2) by decide +kernel) (by decide) rfl, ?_⟩
  refine List.forall_mem_cons.mpr ⟨ok_ldc2 C (show decode cX11_init 288 = .ok (.ldc2_w 115, 3) by decide +kernel) (gm kw_1169) rfl, ?_⟩
  refine List.forall_mem_cons.mpr ⟨ok_lastore C (show decode cX11_init 291 = .ok (.lastore, 1) by decide +kernel) rfl, ?_⟩
  refine List.forall_mem_cons.mpr ⟨ok_aload_n C (show decode cX11_init 292 = .ok (.aload_n 0, 1) by decide +kernel) rfl rfl, ?_⟩
  refine List.forall_mem_cons.mpr ⟨ok_getf C (wi_X11) rfl (by decide) kw_1190 (show decode cX11_init 293 = .ok (.getfield 47, 3) by decide +kernel) rfl, ?_⟩
  refine List.forall_mem_cons.mpr ⟨ok_bipush C (show decode cX11_init 296 = .ok (.bipush 15, 2) by decide +kernel) (by decide) rfl, ?_⟩
  refine List.forall_mem_cons.mpr ⟨ok_ldc2 C (show decode cX11_init 298 = .ok (.ldc2_w 117, 3) by decide +kernel) (gm kw_1170) rfl, ?_⟩
  refine List.forall_mem_cons.mpr ⟨ok_lastore C (show decode cX11_init 301 = .ok (.lastore, 1) by decide +kernel) rfl, ?_⟩
  refine List.forall_mem_cons.mpr ⟨ok_aload_n C (show decode cX11_init 302 = .ok (.aload_n 0, 1) by decide +kernel) rfl rfl, ?_⟩
  refine List.forall_mem_cons.mpr ⟨ok_getf C (wi_X11) rfl (by decide) kw_1190 (show decode cX11_init 303 = .ok (.getfield 47, 3) by decide +kernel) rfl, ?_⟩
  refine List.forall_mem_cons.mpr ⟨ok_bipush C (show decode cX11_init 306 = .ok (.bipush 16, 2) by decide +kernel) (by decide) rfl, ?_⟩
  refine List.forall_mem_cons.mpr ⟨ok_ldc2 C (show decode cX11_init 308 = .ok (.ldc2_w 119, 3) by decide +kernel) (gm kw_1171) rfl, ?_⟩
  refine List.forall_mem_cons.mpr ⟨ok_lastore C (show decode cX11_init 311 = .ok (.lastore, 1) by decide +kernel) rfl, ?_⟩
  refine List.forall_mem_cons.mpr ⟨ok_aload_n C (show decode cX11_init 312 = .ok (.aload_n 0, 1) by decide +kernel) rfl rfl, ?_⟩
  refine List.forall_mem_cons.mpr ⟨ok_getf C (wi_X11) rfl (by decide) kw_1190 (show decode cX11_init 313 = .ok (.getfield 47, 3) by decide +kernel) rfl, ?_⟩
  refine List.forall_mem_cons.mpr ⟨ok_bipush C (show decode cX11_init 316 = .ok (.bipush 17, 2) by decide +kernel) (by decide) rfl, ?_⟩
  refine List.forall_mem_cons.mpr ⟨ok_ldc2 C (show decode cX11_init 318 = .ok (.ldc2_w 121, 3) by decide +kernel) (gm kw_1172) rfl, ?_⟩
  refine List.forall_mem_cons.mpr ⟨ok_lastore C (show decode cX11_init 321 = .ok (.lastore, 1) by decide +kernel) rfl, ?_⟩
  refine List.forall_mem_cons.mpr ⟨ok_aload_n C (show decode cX11_init 322 = .ok (.aload_n 0, 1) by decide +kernel) rfl rfl, ?_⟩
  refine List.forall_mem_cons.mpr ⟨ok_getf C (wi_X11) rfl (by decide) kw_1190 (show decode cX11_init 323 = .ok (.getfield 47, 3) by decide +kernel) rfl, ?_⟩
  refine List.forall_mem_cons.mpr ⟨ok_bipush C (show decode cX11_init 326 = .ok (.bipush 18, 2) by decide +kernel) (by decide) rfl, ?_⟩
  refine List.forall_mem_cons.mpr ⟨ok_ldc2 C (show decode cX11_init 328 = .ok (.ldc2_w 123, 3) by decide +kernel) (gm kw_1173) rfl, ?_⟩
  refine List.forall_mem_cons.mpr ⟨ok_lastore C (show decode cX11_init 331 = .ok (.lastore, 1) by decide +kernel) rfl, ?_⟩
  refine List.forall_mem_cons.mpr ⟨ok_aload_n C (show decode cX11_init 332 = .ok (.aload_n 0, 1) by decide +kernel) rfl rfl, ?_⟩
  refine List.forall_mem_cons.mpr ⟨ok_getf C (wi_X11) rfl (by decide) kw_1190 (show decode cX11_init 333 = .ok (.getfield 47, 3) by decide +kernel) rfl, ?_⟩
  refine List.forall_mem_cons.mpr ⟨ok_bipush C (show decode cX11_init 336 = .ok (.bipush 19, 2) by decide +kernel) (by decide) rfl, ?_⟩
  refine List.forall_mem_cons.mpr ⟨ok_ldc2 C (show decode cX11_init 338 = .ok (.ldc2_w 125, 3) by decide +kernel) (gm kw_1174) rfl, ?_⟩
  refine List.forall_mem_cons.mpr ⟨ok_lastore C (show decode cX11_init 341 = .ok (.lastore, 1) by decide +kernel) rfl, ?_⟩
  refine List.forall_mem_cons.mpr ⟨ok_aload_n C (show decode cX11_init 342 = .ok (.aload_n 0, 1) by decide +kernel) rfl rfl, ?_⟩
  refine List.forall_mem_cons.mpr ⟨ok_getf C (wi_X11) rfl (by decide) kw_1190 (show decode cX11_init 343 = .ok (.getfield 47, 3) by decide +kernel) rfl, ?_⟩
  refine List.forall_mem_cons.mpr ⟨ok_bipush C (show decode cX11_init 346 = .ok (.bipush 20, 2) by decide +kernel) (by decide) rfl, ?_⟩
  refine List.forall_mem_cons.mpr ⟨ok_ldc2 C (show decode cX11_init 348 = .ok (.ldc2_w 127, 3) by decide +kernel) (gm kw_1175) rfl, ?_⟩
  refine List.forall_mem_cons.mpr ⟨ok_lastore C (show decode cX11_init 351 = .ok (.lastore, 1) by decide +kernel) rfl, ?_⟩
  refine List.forall_mem_cons.mpr ⟨ok_aload_n C (show decode cX11_init 352 = .ok (.aload_n 0, 1) by decide +kernel) rfl rfl, ?_⟩
  refine List.forall_mem_cons.mpr ⟨ok_getf C (wi_X11) rfl (by decide) kw_1190 (show decode cX11_init 353 = .ok (.getfield 47, 3) by decide +kernel) rfl, ?_⟩
  refine List.forall_mem_cons.mpr ⟨ok_bipush C (show decode cX11_init 356 = .ok (.bipush 21, 2) by decide +kernel) (by decide) rfl, ?_⟩
  refine List.forall_mem_cons.mpr ⟨ok_ldc2 C (show decode cX11_init 358 = .ok (.ldc2_w 129, 3) by decide +kernel) (gm kw_1176) rfl, ?_⟩
  refine List.forall_mem_cons.mpr ⟨ok_lastore C (show decode cX11_init 361 = .ok (.lastore, 1) by decide +kernel) rfl, ?_⟩
  refine List.forall_mem_cons.mpr ⟨ok_aload_n C (show decode cX11_init 362 = .ok (.aload_n 0, 1) by decide +kernel) rfl rfl, ?_⟩
  refine List.forall_mem_cons.mpr ⟨ok_getf C (wi_X11) rfl (by decide) kw_1190 (show decode cX11_init 363 = .ok (.getfield 47, 3) by decide +kernel) rfl, ?_⟩
  refine List.forall_mem_cons.mpr ⟨ok_bipush C (show decode cX11_init 366 = .ok (.bipush 22, 2) by decide +kernel) (by decide) rfl, ?_⟩
  refine List.forall_mem_cons.mpr ⟨ok_ldc2 C (show decode cX11_init 368 = .ok (.ldc2_w 131, 3) by decide +kernel) (gm kw_1177) rfl, ?_⟩
  refine List.forall_mem_cons.mpr ⟨ok_lastore C (show decode cX11_init 371 = .ok (.lastore, 1) by decide +kernel) rfl, ?_⟩
  refine List.forall_mem_cons.mpr ⟨ok_aload_n C (show decode cX11_init 372 = .ok (.aload_n 0, 1) by decide +kernel) rfl rfl, ?_⟩
  refine List.forall_mem_cons.mpr ⟨ok_getf C (wi_X11) rfl (by decide) kw_1190 (show decode cX11_init 373 = .ok (.getfield 47, 3) by decide +kernel) rfl, ?_⟩
  refine List.forall_mem_cons.mpr ⟨ok_bipush C (show decode cX11_init 376 = .ok (.bipush 23, 2) by decide +kernel) (by decide) rfl, ?_⟩
  refine List.forall_mem_cons.mpr ⟨ok_ldc2 C (show decode cX11_init 378 = .ok (.ldc2_w 133, 3) by decide +kernel) (gm kw_1178) rfl, ?_⟩
  refine List.forall_mem_cons.mpr ⟨ok_lastore C (show decode cX11_init 381 = .ok (.lastore, 1) by decide +kernel) rfl, ?_⟩
  refine List.forall_mem_cons.mpr ⟨ok_aload_n C (show decode cX11_init 382 = .ok (.aload_n 0, 1) by decide +kernel) rfl rfl, ?_⟩
  refine List.forall_mem_cons.mpr ⟨ok_getf C (wi_X11) rfl (by decide) kw_1190 (show decode cX11_init 383 = .ok (.getfield 47, 3) by decide +kernel) rfl, ?_⟩
  refine List.forall_mem_cons.mpr ⟨ok_bipush C (show decode cX11_init 386 = .ok (.bipush 24, 2) by decide +kernel) (by decide) rfl, ?_⟩
  refine List.forall_mem_cons.mpr ⟨ok_ldc2 C (show decode cX11_init 388 = .ok (.ldc2_w 135, 3) by decide +kernel) (gm kw_1179) rfl, ?_⟩
  refine List.forall_mem_cons.mpr ⟨ok_lastore C (show decode cX11_init 391 = .ok (.lastore, 1) by decide +kernel) rfl, ?_⟩
  refine List.forall_mem_cons.mpr ⟨ok_aload_n C (show decode cX11_init 392 = .ok (.aload_n 0, 1) by decide +kernel) rfl rfl, ?_⟩
  refine List.forall_mem_cons.mpr ⟨ok_getf C (wi_X11) rfl (by decide) kw_1186 (show decode cX11_init 393 = .ok (.getfield 33, 3) by decide +kernel) rfl, ?_⟩
  refine List.forall_mem_cons.mpr ⟨ok_iconst C (show decode cX11_init 396 = .ok (.iconst 2, 1) by decide +kernel) (by decide) rfl, ?_⟩
  refine List.forall_mem_cons.mpr ⟨ok_bipush C (show decode cX11_init 397 = .ok (.bipush 10, 2) by decide +kernel) (by decide) rfl, ?_⟩
  refine List.forall_mem_cons.mpr ⟨ok_iastore C (show decode cX11_init 399 = .ok (.iastore, 1) by decide +kernel) rfl, ?_⟩
  refine List.forall_mem_cons.mpr ⟨ok_vret C rfl (show decode cX11_init 400 = .ok (.return_, 1) by decide +kernel), ?_⟩
  exact fun _ h => absurd h List.not_mem_nil
def L_X11_peek : List (Nat × ab_A) := [
  (0, ab_nx 1 (ab_aload 0)),
  (1, ab_nx 4 (ab_getf 11 4)),
  (4, ab_nx 5 (ab_aload 0)),
  (5, ab_nx 8 (ab_getf 11 3)),
  (8, ab_icmp 11 27 (fun x y => decide (y ≤ x))),
  (11, ab_nx 12 (ab_aload 0)),
  (12, ab_nx 15 (ab_getf 11 1)),
  (15, ab_nx 16 (ab_aload 0)),
  (16, ab_nx 19 (ab_getf 11 4)),
  (19, ab_nx 20 (ab_ald 0)),
  (20, ab_nx 23 (ab_lit (.int 255))),
  (23, ab_nx 24 (ab_bin (fun x y => x &&& y))),
  (24, ab_goto 28),
  (27, ab_nx 28 (ab_lit (.int (-1)))),
  (28, ab_ret 0 0)]
set_option maxRecDepth 100000 in
set_option maxHeartbeats 4000000 in
theorem M_X11_peek {l : Launch} {b : ab_B} {D : va_G} {cA : Nat → ClassId} : ab_M l b D ab_cl cA (ab_E0 b) yX11_peek (Cond.code yX11_peek cX11_peek 1 (some .int) :: ab_G) ({ frames := 1, cells := 0, slots := 0, locals := 100 } : Room) (ab_X (ab_T L_X11_peek) 1) := by
  refine ab_meth (ret := (some .int)) L_X11_peek (by decide) rfl fun p e R s m args below meth c o C => ?_
  unfold L_X11_peek
  refine List.forall_mem_cons.mpr ⟨ok_aload_n C (show decode cX11_peek 0 = .ok (.aload_n 0, 1) by decide +kernel) rfl rfl, ?_⟩
  refine List.forall_mem_cons.mpr ⟨ok_getf C (wi_X11) rfl (by decide) kw_1184 (show decode cX11_peek 1 = .ok (.getfield 21, 3) by decide +kernel) rfl, ?_⟩
  refine List.forall_mem_cons.mpr ⟨ok_aload_n C (show decode cX11_peek 4 = .ok (.aload_n 0, 1) by decide +kernel) rfl rfl, ?_⟩
  refine List.forall_mem_cons.mpr ⟨ok_getf C (wi_X11) rfl (by decide) kw_1183 (show decode cX11_peek 5 = .ok (.getfield 18, 3) by decide +kernel) rfl, ?_⟩
  refine List.forall_mem_cons.mpr ⟨ok_icmpge C (show decode cX11_peek 8 = .ok (.if_icmp .ge 19, 3) by decide +kernel) (tg := 27) (by decide) rfl rfl, ?_⟩
  refine List.forall_mem_cons.mpr ⟨ok_aload_n C (show decode cX11_peek 11 = .ok (.aload_n 0, 1) by decide +kernel) rfl rfl, ?_⟩
  refine List.forall_mem_cons.mpr ⟨ok_getf C (wi_X11) rfl (by decide) kw_1181 (show decode cX11_peek 12 = .ok (.getfield 14, 3) by decide +kernel) rfl, ?_⟩
  refine List.forall_mem_cons.mpr ⟨ok_aload_n C (show decode cX11_peek 15 = .ok (.aload_n 0, 1) by decide +kernel) rfl rfl, ?_⟩
  refine List.forall_mem_cons.mpr ⟨ok_getf C (wi_X11) rfl (by decide) kw_1184 (show decode cX11_peek 16 = .ok (.getfield 21, 3) by decide +kernel) rfl, ?_⟩
  refine List.forall_mem_cons.mpr ⟨ok_baload C (show decode cX11_peek 19 = .ok (.baload, 1) by decide +kernel) rfl, ?_⟩
  refine List.forall_mem_cons.mpr ⟨ok_sipush C (show decode cX11_peek 20 = .ok (.sipush 255, 3) by decide +kernel) (by decide) rfl, ?_⟩
  refine List.forall_mem_cons.mpr ⟨ok_iand C (show decode cX11_peek 23 = .ok (.iand, 1) by decide +kernel) rfl, ?_⟩
  refine List.forall_mem_cons.mpr ⟨ok_goto C (show decode cX11_peek 24 = .ok (.goto 4, 3) by decide +kernel) (tg := 28) (by decide) rfl, ?_⟩
  refine List.forall_mem_cons.mpr ⟨ok_iconst C (show decode cX11_peek 27 = .ok (.iconst (-1), 1) by decide +kernel) (by decide) rfl, ?_⟩
  refine List.forall_mem_cons.mpr ⟨ok_ret C rfl (show decode cX11_peek 28 = .ok (.ireturn, 1) by decide +kernel), ?_⟩
  exact fun _ h => absurd h List.not_mem_nil
def L_X11_isSmall : List (Nat × ab_A) := [
  (0, ab_nx 1 (ab_iload 0)),
  (1, ab_nx 3 (ab_lit (.int 97))),
  (3, ab_icmp 6 16 (fun x y => decide (x < y))),
  (6, ab_nx 7 (ab_iload 0)),
  (7, ab_nx 9 (ab_lit (.int 122))),
  (9, ab_icmp 12 16 (fun x y => decide (y < x))),
  (12, ab_nx 13 (ab_lit (.int 1))),
  (13, ab_goto 17),
  (16, ab_nx 17 (ab_lit (.int 0))),
  (17, ab_zret 0 0)]
set_option maxRecDepth 100000 in
set_option maxHeartbeats 4000000 in
theorem M_X11_isSmall {l : Launch} {b : ab_B} {D : va_G} {cA : Nat → ClassId} : ab_M l b D ab_cl cA (ab_E0 b) yX11_isSmall (Cond.code yX11_isSmall cX11_isSmall 1 (some .boolean) :: ab_G) ({ frames := 1, cells := 0, slots := 0, locals := 100 } : Room) (ab_X (ab_T L_X11_isSmall) 1) := by
  refine ab_meth (ret := (some .boolean)) L_X11_isSmall (by decide) rfl fun p e R s m args below meth c o C => ?_
  unfold L_X11_isSmall
  refine List.forall_mem_cons.mpr ⟨ok_iload_n C (show decode cX11_isSmall 0 = .ok (.iload_n 0, 1) by decide +kernel) rfl rfl, ?_⟩
  refine List.forall_mem_cons.mpr ⟨ok_bipush C (show decode cX11_isSmall 1 = .ok (.bipush 97, 2) by decide +kernel) (by decide) rfl, ?_⟩
  refine List.forall_mem_cons.mpr ⟨ok_icmplt C (show decode cX11_isSmall 3 = .ok (.if_icmp .lt 13, 3) by decide +kernel) (tg := 16) (by decide) rfl rfl, ?_⟩
  refine List.forall_mem_cons.mpr ⟨ok_iload_n C (show decode cX11_isSmall 6 = .ok (.iload_n 0, 1) by decide +kernel) rfl rfl, ?_⟩
  refine List.forall_mem_cons.mpr ⟨ok_bipush C (show decode cX11_isSmall 7 = .ok (.bipush 122, 2) by decide +kernel) (by decide) rfl, ?_⟩
  refine List.forall_mem_cons.mpr ⟨ok_icmpgt C (show decode cX11_isSmall 9 = .ok (.if_icmp .gt 7, 3) by decide +kernel) (tg := 16) (by decide) rfl rfl, ?_⟩
  refine List.forall_mem_cons.mpr ⟨ok_iconst C (show decode cX11_isSmall 12 = .ok (.iconst 1, 1) by decide +kernel) (by decide) rfl, ?_⟩
  refine List.forall_mem_cons.mpr ⟨ok_goto C (show decode cX11_isSmall 13 = .ok (.goto 4, 3) by decide +kernel) (tg := 17) (by decide) rfl, ?_⟩
  refine List.forall_mem_cons.mpr ⟨ok_iconst C (show decode cX11_isSmall 16 = .ok (.iconst 0, 1) by decide +kernel) (by decide) rfl, ?_⟩
  refine List.forall_mem_cons.mpr ⟨ok_zret C rfl (show decode cX11_isSmall 17 = .ok (.ireturn, 1) by decide +kernel), ?_⟩
  exact fun _ h => absurd h List.not_mem_nil
def L_X11_isDigit : List (Nat × ab_A) := [
  (0, ab_nx 1 (ab_iload 0)),
  (1, ab_nx 3 (ab_lit (.int 48))),
  (3, ab_icmp 6 16 (fun x y => decide (x < y))),
  (6, ab_nx 7 (ab_iload 0)),
  (7, ab_nx 9 (ab_lit (.int 57))),
  (9, ab_icmp 12 16 (fun x y => decide (y < x))),
  (12, ab_nx 13 (ab_lit (.int 1))),
  (13, ab_goto 17),
  (16, ab_nx 17 (ab_lit (.int 0))),
  (17, ab_zret 0 0)]
set_option maxRecDepth 100000 in
set_option maxHeartbeats 4000000 in
theorem M_X11_isDigit {l : Launch} {b : ab_B} {D : va_G} {cA : Nat → ClassId} : ab_M l b D ab_cl cA (ab_E0 b) yX11_isDigit (Cond.code yX11_isDigit cX11_isDigit 1 (some .boolean) :: ab_G) ({ frames := 1, cells := 0, slots := 0, locals := 100 } : Room) (ab_X (ab_T L_X11_isDigit) 1) := by
  refine ab_meth (ret := (some .boolean)) L_X11_isDigit (by decide) rfl fun p e R s m args below meth c o C => ?_
  unfold L_X11_isDigit
  refine List.forall_mem_cons.mpr ⟨ok_iload_n C (show decode cX11_isDigit 0 = .ok (.iload_n 0, 1) by decide +kernel) rfl rfl, ?_⟩
  refine List.forall_mem_cons.mpr ⟨ok_bipush C (show decode cX11_isDigit 1 = .ok (.bipush 48, 2) by decide +kernel) (by decide) rfl, ?_⟩
  refine List.forall_mem_cons.mpr ⟨ok_icmplt C (show decode cX11_isDigit 3 = .ok (.if_icmp .lt 13, 3) by decide +kernel) (tg := 16) (by decide) rfl rfl, ?_⟩
  refine List.forall_mem_cons.mpr ⟨ok_iload_n C (show decode cX11_isDigit 6 = .ok (.iload_n 0, 1) by decide +kernel) rfl rfl, ?_⟩
  refine List.forall_mem_cons.mpr ⟨ok_bipush C (show decode cX11_isDigit 7 = .ok (.bipush 57, 2) by decide +kernel) (by decide) rfl, ?_⟩
  refine List.forall_mem_cons.mpr ⟨ok_icmpgt C (show decode cX11_isDigit 9 = .ok (.if_icmp .gt 7, 3) by decide +kernel) (tg := 16) (by decide) rfl rfl, ?_⟩
  refine List.forall_mem_cons.mpr ⟨ok_iconst C (show decode cX11_isDigit 12 = .ok (.iconst 1, 1) by decide +kernel) (by decide) rfl, ?_⟩
  refine List.forall_mem_cons.mpr ⟨ok_goto C (show decode cX11_isDigit 13 = .ok (.goto 4, 3) by decide +kernel) (tg := 17) (by decide) rfl, ?_⟩
  refine List.forall_mem_cons.mpr ⟨ok_iconst C (show decode cX11_isDigit 16 = .ok (.iconst 0, 1) by decide +kernel) (by decide) rfl, ?_⟩
  refine List.forall_mem_cons.mpr ⟨ok_zret C rfl (show decode cX11_isDigit 17 = .ok (.ireturn, 1) by decide +kernel), ?_⟩
  exact fun _ h => absurd h List.not_mem_nil
