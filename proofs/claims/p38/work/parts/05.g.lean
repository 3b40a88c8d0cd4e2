-- 32.m12.lean.txt
section
def L_X10_restore (f_X7_copyFrom : List Value → ab_H → Option ab_O) (f_X6_copyFrom : List Value → ab_H → Option ab_O) (f_X5_copyFrom : List Value → ab_H → Option ab_O) (f_X2_forget : List Value → ab_H → Option ab_O) : List (Nat × ab_A) := [
  (0, ab_nx 1 (ab_iload 1)),
  (1, ab_if 4 9 (fun x => decide (x < 0))),
  (4, ab_nx 5 (ab_iload 1)),
  (5, ab_nx 6 (ab_lit (.int 2))),
  (6, ab_icmp 9 11 (fun x y => decide (x < y))),
  (9, ab_nx 10 (ab_lit (.int 0))),
  (10, ab_zret 0 0),
  (11, ab_nx 12 (ab_aload 0)),
  (12, ab_nx 15 (ab_getf 10 9)),
  (15, ab_nx 16 (ab_iload 1)),
  (16, ab_nx 17 (ab_aald 4)),
  (17, ab_nx 18 (ab_astore 2)),
  (18, ab_nx 19 (ab_aload 2)),
  (19, ab_nonnull 22 24),
  (22, ab_nx 23 (ab_lit (.int 0))),
  (23, ab_zret 0 0),
  (24, ab_nx 25 (ab_aload 0)),
  (25, ab_nx 28 (ab_getf 10 13)),
  (28, ab_nx 29 (ab_aload 2)),
  (29, ab_nx 32 (ab_getf 3 0)),
  (32, ab_nx 35 (ab_callV 2 7 f_X7_copyFrom 0 0 0 0)),
  (35, ab_nx 36 (ab_aload 0)),
  (36, ab_nx 39 (ab_getf 10 4)),
  (39, ab_nx 40 (ab_aload 2)),
  (40, ab_nx 43 (ab_getf 3 1)),
  (43, ab_nx 46 (ab_callV 2 6 f_X6_copyFrom 0 0 0 0)),
  (46, ab_nx 47 (ab_aload 0)),
  (47, ab_nx 50 (ab_getf 10 15)),
  (50, ab_nx 51 (ab_aload 2)),
  (51, ab_nx 54 (ab_getf 3 2)),
  (54, ab_nx 57 (ab_callV 2 5 f_X5_copyFrom 0 0 0 0)),
  (57, ab_nx 58 (ab_aload 0)),
  (58, ab_nx 61 (ab_getf 10 3)),
  (61, ab_nx 64 (ab_callV 1 2 f_X2_forget 0 0 0 0)),
  (64, ab_nx 65 (ab_lit (.int 1))),
  (65, ab_zret 0 0)]
set_option maxRecDepth 100000 in
theorem dq32_0 : ([(0, .iload_n 1, 1), (1, .ifCond .lt 8, 3), (4, .iload_n 1, 1), (5, .iconst 2, 1), (6, .if_icmp .lt 5, 3), (9, .iconst 0, 1), (10, .ireturn, 1), (11, .aload_n 0, 1), (12, .getfield 66, 3), (15, .iload_n 1, 1), (16, .aaload, 1), (17, .astore_n 2, 1), (18, .aload_n 2, 1), (19, .ifnonnull 5, 3), (22, .iconst 0, 1), (23, .ireturn, 1)] : List (Nat × Instr × Nat)).all (fun q => decide (decode cX10_restore q.1 = .ok q.2)) = true := by decide +kernel
set_option maxRecDepth 100000 in
theorem dq32_1 : ([(24, .aload_n 0, 1), (25, .getfield 83, 3), (28, .aload_n 2, 1), (29, .getfield 373, 3), (32, .invokevirtual 376, 3), (35, .aload_n 0, 1), (36, .getfield 40, 3), (39, .aload_n 2, 1), (40, .getfield 378, 3), (43, .invokevirtual 284, 3), (46, .aload_n 0, 1), (47, .getfield 93, 3), (50, .aload_n 2, 1), (51, .getfield 381, 3), (54, .invokevirtual 384, 3), (57, .aload_n 0, 1)] : List (Nat × Instr × Nat)).all (fun q => decide (decode cX10_restore q.1 = .ok q.2)) = true := by decide +kernel
set_option maxRecDepth 100000 in
theorem dq32_2 : ([(58, .getfield 33, 3), (61, .invokevirtual 133, 3), (64, .iconst 1, 1), (65, .ireturn, 1)] : List (Nat × Instr × Nat)).all (fun q => decide (decode cX10_restore q.1 = .ok q.2)) = true := by decide +kernel
set_option maxRecDepth 100000 in
set_option maxHeartbeats 4000000 in
theorem M_X10_restore {l : Launch} {b : ab_B} {D : va_G} {cA : Nat → ClassId} {f_X7_copyFrom : List Value → ab_H → Option ab_O} (h_X7_copyFrom : ab_M l b D ab_cl cA (ab_E0 b) yX7_copyFrom (Cond.code yX7_copyFrom cX7_copyFrom 2 none :: ab_G) ({ frames := 2, cells := 0, slots := 0, locals := 200 } : Room) f_X7_copyFrom) {f_X6_copyFrom : List Value → ab_H → Option ab_O} (h_X6_copyFrom : ab_M l b D ab_cl cA (ab_E0 b) yX6_copyFrom (Cond.code yX6_copyFrom cX6_copyFrom 2 none :: ab_G) ({ frames := 2, cells := 0, slots := 0, locals := 200 } : Room) f_X6_copyFrom) {f_X5_copyFrom : List Value → ab_H → Option ab_O} (h_X5_copyFrom : ab_M l b D ab_cl cA (ab_E0 b) yX5_copyFrom (Cond.code yX5_copyFrom cX5_copyFrom 2 none :: ab_G) ({ frames := 2, cells := 0, slots := 0, locals := 200 } : Room) f_X5_copyFrom) {f_X2_forget : List Value → ab_H → Option ab_O} (h_X2_forget : ab_M l b D ab_cl cA (ab_E0 b) yX2_forget (Cond.code yX2_forget cX2_forget 1 none :: ab_G) ({ frames := 1, cells := 0, slots := 0, locals := 100 } : Room) f_X2_forget) : ab_M l b D ab_cl cA (ab_E0 b) yX10_restore (Cond.code yX10_restore cX10_restore 3 (some .boolean) :: ab_G) ({ frames := 3, cells := 0, slots := 0, locals := 300 } : Room) (ab_X (ab_T (L_X10_restore f_X7_copyFrom f_X6_copyFrom f_X5_copyFrom f_X2_forget)) 3) := by
  refine ab_meth (ret := (some .boolean)) (L_X10_restore f_X7_copyFrom f_X6_copyFrom f_X5_copyFrom f_X2_forget) (by decide) rfl fun p e R s m args below meth c o C => ?_
  unfold L_X10_restore
  refine List.forall_mem_cons.mpr ⟨ok_iload_n C (show decode cX10_restore 0 = .ok (.iload_n 1, 1) from dk_at dq32_0 (i := 0) rfl) rfl rfl, ?_⟩
  refine List.forall_mem_cons.mpr ⟨ok_iflt C (show decode cX10_restore 1 = .ok (.ifCond .lt 8, 3) from dk_at dq32_0 (i := 1) rfl) (tg := 9) (by decide) rfl rfl, ?_⟩
  refine List.forall_mem_cons.mpr ⟨ok_iload_n C (show decode cX10_restore 4 = .ok (.iload_n 1, 1) from dk_at dq32_0 (i := 2) rfl) rfl rfl, ?_⟩
  refine List.forall_mem_cons.mpr ⟨ok_iconst C (show decode cX10_restore 5 = .ok (.iconst 2, 1) from dk_at dq32_0 (i := 3) rfl) (by decide) rfl, ?_⟩
  refine List.forall_mem_cons.mpr ⟨ok_icmplt C (show decode cX10_restore 6 = .ok (.if_icmp .lt 5, 3) from dk_at dq32_0 (i := 4) rfl) (tg := 11) (by decide) rfl rfl, ?_⟩
  refine List.forall_mem_cons.mpr ⟨ok_iconst C (show decode cX10_restore 9 = .ok (.iconst 0, 1) from dk_at dq32_0 (i := 5) rfl) (by decide) rfl, ?_⟩
  refine List.forall_mem_cons.mpr ⟨ok_zret C rfl (show decode cX10_restore 10 = .ok (.ireturn, 1) from dk_at dq32_0 (i := 6) rfl), ?_⟩
  refine List.forall_mem_cons.mpr ⟨ok_aload_n C (show decode cX10_restore 11 = .ok (.aload_n 0, 1) from dk_at dq32_0 (i := 7) rfl) rfl rfl, ?_⟩
  refine List.forall_mem_cons.mpr ⟨ok_getf C (wi_X10) rfl (by decide) kw_324 (show decode cX10_restore 12 = .ok (.getfield 66, 3) from dk_at dq32_0 (i := 8) rfl) rfl, ?_⟩
  refine List.forall_mem_cons.mpr ⟨ok_iload_n C (show decode cX10_restore 15 = .ok (.iload_n 1, 1) from dk_at dq32_0 (i := 9) rfl) rfl rfl, ?_⟩
  refine List.forall_mem_cons.mpr ⟨ok_aaload C (t0 := 4) rfl (show decode cX10_restore 16 = .ok (.aaload, 1) from dk_at dq32_0 (i := 10) rfl) rfl, ?_⟩
  refine List.forall_mem_cons.mpr ⟨ok_astore_n C (show decode cX10_restore 17 = .ok (.astore_n 2, 1) from dk_at dq32_0 (i := 11) rfl) rfl (by decide) rfl, ?_⟩
  refine List.forall_mem_cons.mpr ⟨ok_aload_n C (show decode cX10_restore 18 = .ok (.aload_n 2, 1) from dk_at dq32_0 (i := 12) rfl) rfl rfl, ?_⟩
  refine List.forall_mem_cons.mpr ⟨ok_nonnull C (show decode cX10_restore 19 = .ok (.ifnonnull 5, 3) from dk_at dq32_0 (i := 13) rfl) (tg := 24) (by decide) rfl rfl, ?_⟩
  refine List.forall_mem_cons.mpr ⟨ok_iconst C (show decode cX10_restore 22 = .ok (.iconst 0, 1) from dk_at dq32_0 (i := 14) rfl) (by decide) rfl, ?_⟩
  refine List.forall_mem_cons.mpr ⟨ok_zret C rfl (show decode cX10_restore 23 = .ok (.ireturn, 1) from dk_at dq32_0 (i := 15) rfl), ?_⟩
  refine List.forall_mem_cons.mpr ⟨ok_aload_n C (show decode cX10_restore 24 = .ok (.aload_n 0, 1) from dk_at dq32_1 (i := 0) rfl) rfl rfl, ?_⟩
  refine List.forall_mem_cons.mpr ⟨ok_getf C (wi_X10) rfl (by decide) kw_328 (show decode cX10_restore 25 = .ok (.getfield 83, 3) from dk_at dq32_1 (i := 1) rfl) rfl, ?_⟩
  refine List.forall_mem_cons.mpr ⟨ok_aload_n C (show decode cX10_restore 28 = .ok (.aload_n 2, 1) from dk_at dq32_1 (i := 2) rfl) rfl rfl, ?_⟩
  refine List.forall_mem_cons.mpr ⟨ok_getf C (wi_X3) rfl (by decide) kw_1033 (show decode cX10_restore 29 = .ok (.getfield 373, 3) from dk_at dq32_1 (i := 3) rfl) rfl, ?_⟩
  refine List.forall_mem_cons.mpr ⟨ok_callV C h_X7_copyFrom ⟨rfl, rfl⟩ rfl kw_1048 kw_1045 kw_1046 kw_1047 kw_9 rfl ds_X7_copyFrom ⟨by decide, by decide⟩ (show decode cX10_restore 32 = .ok (.invokevirtual 376, 3) from dk_at dq32_1 (i := 4) rfl) rfl, ?_⟩
  refine List.forall_mem_cons.mpr ⟨ok_aload_n C (show decode cX10_restore 35 = .ok (.aload_n 0, 1) from dk_at dq32_1 (i := 5) rfl) rfl rfl, ?_⟩
  refine List.forall_mem_cons.mpr ⟨ok_getf C (wi_X10) rfl (by decide) kw_319 (show decode cX10_restore 36 = .ok (.getfield 40, 3) from dk_at dq32_1 (i := 6) rfl) rfl, ?_⟩
  refine List.forall_mem_cons.mpr ⟨ok_aload_n C (show decode cX10_restore 39 = .ok (.aload_n 2, 1) from dk_at dq32_1 (i := 7) rfl) rfl rfl, ?_⟩
  refine List.forall_mem_cons.mpr ⟨ok_getf C (wi_X3) rfl (by decide) kw_1035 (show decode cX10_restore 40 = .ok (.getfield 378, 3) from dk_at dq32_1 (i := 8) rfl) rfl, ?_⟩
  refine List.forall_mem_cons.mpr ⟨ok_callV C h_X6_copyFrom ⟨rfl, rfl⟩ rfl kw_724 kw_806 kw_722 kw_723 kw_6 rfl ds_X6_copyFrom ⟨by decide, by decide⟩ (show decode cX10_restore 43 = .ok (.invokevirtual 284, 3) from dk_at dq32_1 (i := 9) rfl) rfl, ?_⟩
  refine List.forall_mem_cons.mpr ⟨ok_aload_n C (show decode cX10_restore 46 = .ok (.aload_n 0, 1) from dk_at dq32_1 (i := 10) rfl) rfl rfl, ?_⟩
  refine List.forall_mem_cons.mpr ⟨ok_getf C (wi_X10) rfl (by decide) kw_330 (show decode cX10_restore 47 = .ok (.getfield 93, 3) from dk_at dq32_1 (i := 11) rfl) rfl, ?_⟩
  refine List.forall_mem_cons.mpr ⟨ok_aload_n C (show decode cX10_restore 50 = .ok (.aload_n 2, 1) from dk_at dq32_1 (i := 12) rfl) rfl rfl, ?_⟩
  refine List.forall_mem_cons.mpr ⟨ok_getf C (wi_X3) rfl (by decide) kw_1037 (show decode cX10_restore 51 = .ok (.getfield 381, 3) from dk_at dq32_1 (i := 13) rfl) rfl, ?_⟩
  refine List.forall_mem_cons.mpr ⟨ok_callV C h_X5_copyFrom ⟨rfl, rfl⟩ rfl kw_1053 kw_1050 kw_1051 kw_1052 kw_10 rfl ds_X5_copyFrom ⟨by decide, by decide⟩ (show decode cX10_restore 54 = .ok (.invokevirtual 384, 3) from dk_at dq32_1 (i := 14) rfl) rfl, ?_⟩
  refine List.forall_mem_cons.mpr ⟨ok_aload_n C (show decode cX10_restore 57 = .ok (.aload_n 0, 1) from dk_at dq32_1 (i := 15) rfl) rfl rfl, ?_⟩
  refine List.forall_mem_cons.mpr ⟨ok_getf C (wi_X10) rfl (by decide) kw_318 (show decode cX10_restore 58 = .ok (.getfield 33, 3) from dk_at dq32_2 (i := 0) rfl) rfl, ?_⟩
  refine List.forall_mem_cons.mpr ⟨ok_callV C h_X2_forget ⟨rfl, rfl⟩ rfl kw_580 kw_577 kw_578 kw_579 kw_5 rfl ds_X2_forget ⟨by decide, by decide⟩ (show decode cX10_restore 61 = .ok (.invokevirtual 133, 3) from dk_at dq32_2 (i := 1) rfl) rfl, ?_⟩
  refine List.forall_mem_cons.mpr ⟨ok_iconst C (show decode cX10_restore 64 = .ok (.iconst 1, 1) from dk_at dq32_2 (i := 2) rfl) (by decide) rfl, ?_⟩
  refine List.forall_mem_cons.mpr ⟨ok_zret C rfl (show decode cX10_restore 65 = .ok (.ireturn, 1) from dk_at dq32_2 (i := 3) rfl), ?_⟩
  exact fun _ h => absurd h List.not_mem_nil
def L_X11_throwsIf : List (Nat × ab_A) := [
  (0, ab_nx 1 (ab_aload 0)),
  (1, ab_nx 2 (ab_iload 1)),
  (2, ab_if 5 9 (fun x => decide (x = 0))),
  (5, ab_nx 6 (ab_lit (.int 1))),
  (6, ab_goto 10),
  (9, ab_nx 10 (ab_lit (.int 0))),
  (10, ab_nx 13 (ab_putf 11 0 0)),
  (13, ab_nx 14 (ab_iload 1)),
  (14, ab_zret 0 0)]
set_option maxRecDepth 100000 in
theorem dq32_3 : ([(0, .aload_n 0, 1), (1, .iload_n 1, 1), (2, .ifCond .eq 7, 3), (5, .iconst 1, 1), (6, .goto 4, 3), (9, .iconst 0, 1), (10, .putfield 1, 3), (13, .iload_n 1, 1), (14, .ireturn, 1)] : List (Nat × Instr × Nat)).all (fun q => decide (decode cX11_throwsIf q.1 = .ok q.2)) = true := by decide +kernel
set_option maxRecDepth 100000 in
set_option maxHeartbeats 4000000 in
theorem M_X11_throwsIf {l : Launch} {b : ab_B} {D : va_G} {cA : Nat → ClassId} : ab_M l b D ab_cl cA (ab_E0 b) yX11_throwsIf (Cond.code yX11_throwsIf cX11_throwsIf 2 (some .boolean) :: ab_G) ({ frames := 1, cells := 0, slots := 0, locals := 100 } : Room) (ab_X (ab_T L_X11_throwsIf) 2) := by
  refine ab_meth (ret := (some .boolean)) L_X11_throwsIf (by decide) rfl fun p e R s m args below meth c o C => ?_
  unfold L_X11_throwsIf
  refine List.forall_mem_cons.mpr ⟨ok_aload_n C (show decode cX11_throwsIf 0 = .ok (.aload_n 0, 1) from dk_at dq32_3 (i := 0) rfl) rfl rfl, ?_⟩
  refine List.forall_mem_cons.mpr ⟨ok_iload_n C (show decode cX11_throwsIf 1 = .ok (.iload_n 1, 1) from dk_at dq32_3 (i := 1) rfl) rfl rfl, ?_⟩
  refine List.forall_mem_cons.mpr ⟨ok_ifeq C (show decode cX11_throwsIf 2 = .ok (.ifCond .eq 7, 3) from dk_at dq32_3 (i := 2) rfl) (tg := 9) (by decide) rfl rfl, ?_⟩
  refine List.forall_mem_cons.mpr ⟨ok_iconst C (show decode cX11_throwsIf 5 = .ok (.iconst 1, 1) from dk_at dq32_3 (i := 3) rfl) (by decide) rfl, ?_⟩
  refine List.forall_mem_cons.mpr ⟨ok_goto C (show decode cX11_throwsIf 6 = .ok (.goto 4, 3) from dk_at dq32_3 (i := 4) rfl) (tg := 10) (by decide) rfl, ?_⟩
  refine List.forall_mem_cons.mpr ⟨ok_iconst C (show decode cX11_throwsIf 9 = .ok (.iconst 0, 1) from dk_at dq32_3 (i := 5) rfl) (by decide) rfl, ?_⟩
  refine List.forall_mem_cons.mpr ⟨ok_putf C (wi_X11) tyX11 tyX11_ok nmX11 rfl (by decide) kw_1180 (Or.inl rfl) (Or.inl ⟨rfl, rfl⟩) (show decode cX11_throwsIf 10 = .ok (.putfield 1, 3) from dk_at dq32_3 (i := 6) rfl) rfl, ?_⟩
  refine List.forall_mem_cons.mpr ⟨ok_iload_n C (show decode cX11_throwsIf 13 = .ok (.iload_n 1, 1) from dk_at dq32_3 (i := 7) rfl) rfl rfl, ?_⟩
  refine List.forall_mem_cons.mpr ⟨ok_zret C rfl (show decode cX11_throwsIf 14 = .ok (.ireturn, 1) from dk_at dq32_3 (i := 8) rfl), ?_⟩
  exact fun _ h => absurd h List.not_mem_nil
def L_X11_four : List (Nat × ab_A) := [
  (0, ab_nx 2 (ab_lit (.int 24))),
  (2, ab_nx 3 (ab_istore 2)),
  (3, ab_nx 4 (ab_iload 2)),
  (4, ab_if 7 36 (fun x => decide (x < 0))),
  (7, ab_nx 8 (ab_aload 0)),
  (8, ab_nx 11 (ab_getf 11 1)),
  (11, ab_nx 12 (ab_aload 0)),
  (12, ab_nx 15 (ab_getf 11 2)),
  (15, ab_nx 16 (ab_iload 1)),
  (16, ab_nx 17 (ab_iload 2)),
  (17, ab_nx 18 (ab_bin (fun x y => x >>> (y &&& 31)))),
  (18, ab_nx 19 (ab_un (fun x => x.toInt8.toInt32))),
  (19, ab_nx 20 (ab_ast 0)),
  (20, ab_nx 21 (ab_aload 0)),
  (21, ab_nx 22 ab_dup),
  (22, ab_nx 25 (ab_getf 11 2)),
  (25, ab_nx 26 (ab_lit (.int 1))),
  (26, ab_nx 27 (ab_bin (fun x y => x + y))),
  (27, ab_nx 30 (ab_putf 11 2 0)),
  (30, ab_nx 33 (ab_iinc 2 (-8))),
  (33, ab_goto 3),
  (36, ab_vret 0 0)]
set_option maxRecDepth 100000 in
theorem dq32_4 : ([(0, .bipush 24, 2), (2, .istore_n 2, 1), (3, .iload_n 2, 1), (4, .ifCond .lt 32, 3), (7, .aload_n 0, 1), (8, .getfield 14, 3), (11, .aload_n 0, 1), (12, .getfield 7, 3), (15, .iload_n 1, 1), (16, .iload_n 2, 1), (17, .ishr, 1), (18, .i2b, 1), (19, .bastore, 1), (20, .aload_n 0, 1), (21, .dup, 1), (22, .getfield 7, 3)] : List (Nat × Instr × Nat)).all (fun q => decide (decode cX11_four q.1 = .ok q.2)) = true := by decide +kernel
set_option maxRecDepth 100000 in
theorem dq32_5 : ([(25, .iconst 1, 1), (26, .iadd, 1), (27, .putfield 7, 3), (30, .iinc 2 (-8), 3), (33, .goto (-30), 3), (36, .return_, 1)] : List (Nat × Instr × Nat)).all (fun q => decide (decode cX11_four q.1 = .ok q.2)) = true := by decide +kernel
set_option maxRecDepth 100000 in
set_option maxHeartbeats 4000000 in
theorem M_X11_four {l : Launch} {b : ab_B} {D : va_G} {cA : Nat → ClassId} : ab_M l b D ab_cl cA (ab_E0 b) yX11_four (Cond.code yX11_four cX11_four 3 none :: ab_G) ({ frames := 1, cells := 0, slots := 0, locals := 100 } : Room) (ab_X (ab_T L_X11_four) 3) := by
  refine ab_meth (ret := none) L_X11_four (by decide) rfl fun p e R s m args below meth c o C => ?_
  unfold L_X11_four
  refine List.forall_mem_cons.mpr ⟨ok_bipush C (show decode cX11_four 0 = .ok (.bipush 24, 2) from dk_at dq32_4 (i := 0) rfl) (by decide) rfl, ?_⟩
  refine List.forall_mem_cons.mpr ⟨ok_istore_n C (show decode cX11_four 2 = .ok (.istore_n 2, 1) from dk_at dq32_4 (i := 1) rfl) rfl (by decide) rfl, ?_⟩
  refine List.forall_mem_cons.mpr ⟨ok_iload_n C (show decode cX11_four 3 = .ok (.iload_n 2, 1) from dk_at dq32_4 (i := 2) rfl) rfl rfl, ?_⟩
  refine List.forall_mem_cons.mpr ⟨ok_iflt C (show decode cX11_four 4 = .ok (.ifCond .lt 32, 3) from dk_at dq32_4 (i := 3) rfl) (tg := 36) (by decide) rfl rfl, ?_⟩
  refine List.forall_mem_cons.mpr ⟨ok_aload_n C (show decode cX11_four 7 = .ok (.aload_n 0, 1) from dk_at dq32_4 (i := 4) rfl) rfl rfl, ?_⟩
  refine List.forall_mem_cons.mpr ⟨ok_getf C (wi_X11) rfl (by decide) kw_1181 (show decode cX11_four 8 = .ok (.getfield 14, 3) from dk_at dq32_4 (i := 5) rfl) rfl, ?_⟩
  refine List.forall_mem_cons.mpr ⟨ok_aload_n C (show decode cX11_four 11 = .ok (.aload_n 0, 1) from dk_at dq32_4 (i := 6) rfl) rfl rfl, ?_⟩
  refine List.forall_mem_cons.mpr ⟨ok_getf C (wi_X11) rfl (by decide) kw_1182 (show decode cX11_four 12 = .ok (.getfield 7, 3) from dk_at dq32_4 (i := 7) rfl) rfl, ?_⟩
  refine List.forall_mem_cons.mpr ⟨ok_iload_n C (show decode cX11_four 15 = .ok (.iload_n 1, 1) from dk_at dq32_4 (i := 8) rfl) rfl rfl, ?_⟩
  refine List.forall_mem_cons.mpr ⟨ok_iload_n C (show decode cX11_four 16 = .ok (.iload_n 2, 1) from dk_at dq32_4 (i := 9) rfl) rfl rfl, ?_⟩
  refine List.forall_mem_cons.mpr ⟨ok_ishr C (show decode cX11_four 17 = .ok (.ishr, 1) from dk_at dq32_4 (i := 10) rfl) rfl, ?_⟩
  refine List.forall_mem_cons.mpr ⟨ok_i2b C (show decode cX11_four 18 = .ok (.i2b, 1) from dk_at dq32_4 (i := 11) rfl) rfl, ?_⟩
  refine List.forall_mem_cons.mpr ⟨ok_bastore C (show decode cX11_four 19 = .ok (.bastore, 1) from dk_at dq32_4 (i := 12) rfl) rfl, ?_⟩
  refine List.forall_mem_cons.mpr ⟨ok_aload_n C (show decode cX11_four 20 = .ok (.aload_n 0, 1) from dk_at dq32_4 (i := 13) rfl) rfl rfl, ?_⟩
  refine List.forall_mem_cons.mpr ⟨ok_dup C (show decode cX11_four 21 = .ok (.dup, 1) from dk_at dq32_4 (i := 14) rfl) rfl, ?_⟩
  refine List.forall_mem_cons.mpr ⟨ok_getf C (wi_X11) rfl (by decide) kw_1182 (show decode cX11_four 22 = .ok (.getfield 7, 3) from dk_at dq32_4 (i := 15) rfl) rfl, ?_⟩
  refine List.forall_mem_cons.mpr ⟨ok_iconst C (show decode cX11_four 25 = .ok (.iconst 1, 1) from dk_at dq32_5 (i := 0) rfl) (by decide) rfl, ?_⟩
  refine List.forall_mem_cons.mpr ⟨ok_iadd C (show decode cX11_four 26 = .ok (.iadd, 1) from dk_at dq32_5 (i := 1) rfl) rfl, ?_⟩
  refine List.forall_mem_cons.mpr ⟨ok_putf C (wi_X11) tyX11 tyX11_ok nmX11 rfl (by decide) kw_1182 (Or.inl rfl) (Or.inl ⟨rfl, rfl⟩) (show decode cX11_four 27 = .ok (.putfield 7, 3) from dk_at dq32_5 (i := 2) rfl) rfl, ?_⟩
  refine List.forall_mem_cons.mpr ⟨ok_iinc C (show decode cX11_four 30 = .ok (.iinc 2 (-8), 3) from dk_at dq32_5 (i := 3) rfl) (by decide) (by decide) rfl, ?_⟩
  refine List.forall_mem_cons.mpr ⟨ok_goto C (show decode cX11_four 33 = .ok (.goto (-30), 3) from dk_at dq32_5 (i := 4) rfl) (tg := 3) (by decide) rfl, ?_⟩
  refine List.forall_mem_cons.mpr ⟨ok_vret C rfl (show decode cX11_four 36 = .ok (.return_, 1) from dk_at dq32_5 (i := 5) rfl), ?_⟩
  exact fun _ h => absurd h List.not_mem_nil
def L_X11_feed (f_X11_four : List Value → ab_H → Option ab_O) : List (Nat × ab_A) := [
  (0, ab_nx 1 (ab_aload 0)),
  (1, ab_nx 2 (ab_lit (.int 0))),
  (2, ab_nx 5 (ab_putf 11 0 0)),
  (5, ab_nx 6 (ab_aload 0)),
  (6, ab_nx 9 (ab_getf 11 2)),
  (9, ab_nx 11 (ab_lit (.int 20))),
  (11, ab_nx 12 (ab_bin (fun x y => x + y))),
  (12, ab_nx 15 (ab_lit (.int 940))),
  (15, ab_icmp 18 20 (fun x y => decide (x ≤ y))),
  (18, ab_nx 19 (ab_lit (.int (-1)))),
  (19, ab_ret 0 0),
  (20, ab_nx 21 (ab_aload 0)),
  (21, ab_nx 22 (ab_iload 1)),
  (22, ab_nx 25 (ab_callV 2 11 f_X11_four 0 0 0 0)),
  (25, ab_nx 26 (ab_aload 0)),
  (26, ab_nx 27 (ab_iload 2)),
  (27, ab_nx 30 (ab_callV 2 11 f_X11_four 0 0 0 0)),
  (30, ab_nx 31 (ab_aload 0)),
  (31, ab_nx 32 (ab_iload 3)),
  (32, ab_nx 35 (ab_callV 2 11 f_X11_four 0 0 0 0)),
  (35, ab_nx 36 (ab_aload 0)),
  (36, ab_nx 38 (ab_iload 4)),
  (38, ab_nx 41 (ab_callV 2 11 f_X11_four 0 0 0 0)),
  (41, ab_nx 42 (ab_aload 0)),
  (42, ab_nx 44 (ab_iload 5)),
  (44, ab_nx 47 (ab_callV 2 11 f_X11_four 0 0 0 0)),
  (47, ab_nx 48 (ab_aload 0)),
  (48, ab_nx 51 (ab_getf 11 2)),
  (51, ab_ret 0 0)]
set_option maxRecDepth 100000 in
theorem dq32_6 : ([(0, .aload_n 0, 1), (1, .iconst 0, 1), (2, .putfield 1, 3), (5, .aload_n 0, 1), (6, .getfield 7, 3), (9, .bipush 20, 2), (11, .iadd, 1), (12, .sipush 940, 3), (15, .if_icmp .le 5, 3), (18, .iconst (-1), 1), (19, .ireturn, 1), (20, .aload_n 0, 1), (21, .iload_n 1, 1), (22, .invokevirtual 10, 3), (25, .aload_n 0, 1), (26, .iload_n 2, 1)] : List (Nat × Instr × Nat)).all (fun q => decide (decode cX11_feed q.1 = .ok q.2)) = true := by decide +kernel
set_option maxRecDepth 100000 in
theorem dq32_7 : ([(27, .invokevirtual 10, 3), (30, .aload_n 0, 1), (31, .iload_n 3, 1), (32, .invokevirtual 10, 3), (35, .aload_n 0, 1), (36, .iload 4, 2), (38, .invokevirtual 10, 3), (41, .aload_n 0, 1), (42, .iload 5, 2), (44, .invokevirtual 10, 3), (47, .aload_n 0, 1), (48, .getfield 7, 3), (51, .ireturn, 1)] : List (Nat × Instr × Nat)).all (fun q => decide (decode cX11_feed q.1 = .ok q.2)) = true := by decide +kernel
set_option maxRecDepth 100000 in
set_option maxHeartbeats 4000000 in
theorem M_X11_feed {l : Launch} {b : ab_B} {D : va_G} {cA : Nat → ClassId} {f_X11_four : List Value → ab_H → Option ab_O} (h_X11_four : ab_M l b D ab_cl cA (ab_E0 b) yX11_four (Cond.code yX11_four cX11_four 3 none :: ab_G) ({ frames := 1, cells := 0, slots := 0, locals := 100 } : Room) f_X11_four) : ab_M l b D ab_cl cA (ab_E0 b) yX11_feed (Cond.code yX11_feed cX11_feed 6 (some .int) :: ab_G) ({ frames := 2, cells := 0, slots := 0, locals := 200 } : Room) (ab_X (ab_T (L_X11_feed f_X11_four)) 6) := by
  refine ab_meth (ret := (some .int)) (L_X11_feed f_X11_four) (by decide) rfl fun p e R s m args below meth c o C => ?_
  unfold L_X11_feed
  refine List.forall_mem_cons.mpr ⟨ok_aload_n C (show decode cX11_feed 0 = .ok (.aload_n 0, 1) from dk_at dq32_6 (i := 0) rfl) rfl rfl, ?_⟩
  refine List.forall_mem_cons.mpr ⟨ok_iconst C (show decode cX11_feed 1 = .ok (.iconst 0, 1) from dk_at dq32_6 (i := 1) rfl) (by decide) rfl, ?_⟩
  refine List.forall_mem_cons.mpr ⟨ok_putf C (wi_X11) tyX11 tyX11_ok nmX11 rfl (by decide) kw_1180 (Or.inl rfl) (Or.inl ⟨rfl, rfl⟩) (show decode cX11_feed 2 = .ok (.putfield 1, 3) from dk_at dq32_6 (i := 2) rfl) rfl, ?_⟩
  refine List.forall_mem_cons.mpr ⟨ok_aload_n C (show decode cX11_feed 5 = .ok (.aload_n 0, 1) from dk_at dq32_6 (i := 3) rfl) rfl rfl, ?_⟩
  refine List.forall_mem_cons.mpr ⟨ok_getf C (wi_X11) rfl (by decide) kw_1182 (show decode cX11_feed 6 = .ok (.getfield 7, 3) from dk_at dq32_6 (i := 4) rfl) rfl, ?_⟩
  refine List.forall_mem_cons.mpr ⟨ok_bipush C (show decode cX11_feed 9 = .ok (.bipush 20, 2) from dk_at dq32_6 (i := 5) rfl) (by decide) rfl, ?_⟩
  refine List.forall_mem_cons.mpr ⟨ok_iadd C (show decode cX11_feed 11 = .ok (.iadd, 1) from dk_at dq32_6 (i := 6) rfl) rfl, ?_⟩
  refine List.forall_mem_cons.mpr ⟨ok_sipush C (show decode cX11_feed 12 = .ok (.sipush 940, 3) from dk_at dq32_6 (i := 7) rfl) (by decide) rfl, ?_⟩
  refine List.forall_mem_cons.mpr ⟨ok_icmple C (show decode cX11_feed 15 = .ok (.if_icmp .le 5, 3) from dk_at dq32_6 (i := 8) rfl) (tg := 20) (by decide) rfl rfl, ?_⟩
  refine List.forall_mem_cons.mpr ⟨ok_iconst C (show decode cX11_feed 18 = .ok (.iconst (-1), 1) from dk_at dq32_6 (i := 9) rfl) (by decide) rfl, ?_⟩
  refine List.forall_mem_cons.mpr ⟨ok_ret C rfl (show decode cX11_feed 19 = .ok (.ireturn, 1) from dk_at dq32_6 (i := 10) rfl), ?_⟩
  refine List.forall_mem_cons.mpr ⟨ok_aload_n C (show decode cX11_feed 20 = .ok (.aload_n 0, 1) from dk_at dq32_6 (i := 11) rfl) rfl rfl, ?_⟩
  refine List.forall_mem_cons.mpr ⟨ok_iload_n C (show decode cX11_feed 21 = .ok (.iload_n 1, 1) from dk_at dq32_6 (i := 12) rfl) rfl rfl, ?_⟩
  refine List.forall_mem_cons.mpr ⟨ok_callV C h_X11_four ⟨rfl, rfl⟩ rfl kw_1145 kw_1141 kw_1143 kp_47 kw_11 rfl ds_X11_four ⟨by decide, by decide⟩ (show decode cX11_feed 22 = .ok (.invokevirtual 10, 3) from dk_at dq32_6 (i := 13) rfl) rfl, ?_⟩
  refine List.forall_mem_cons.mpr ⟨ok_aload_n C (show decode cX11_feed 25 = .ok (.aload_n 0, 1) from dk_at dq32_6 (i := 14) rfl) rfl rfl, ?_⟩
  refine List.forall_mem_cons.mpr ⟨ok_iload_n C (show decode cX11_feed 26 = .ok (.iload_n 2, 1) from dk_at dq32_6 (i := 15) rfl) rfl rfl, ?_⟩
  refine List.forall_mem_cons.mpr ⟨ok_callV C h_X11_four ⟨rfl, rfl⟩ rfl kw_1145 kw_1141 kw_1143 kp_47 kw_11 rfl ds_X11_four ⟨by decide, by decide⟩ (show decode cX11_feed 27 = .ok (.invokevirtual 10, 3) from dk_at dq32_7 (i := 0) rfl) rfl, ?_⟩
  refine List.forall_mem_cons.mpr ⟨ok_aload_n C (show decode cX11_feed 30 = .ok (.aload_n 0, 1) from dk_at dq32_7 (i := 1) rfl) rfl rfl, ?_⟩
  refine List.forall_mem_cons.mpr ⟨ok_iload_n C (show decode cX11_feed 31 = .ok (.iload_n 3, 1) from dk_at dq32_7 (i := 2) rfl) rfl rfl, ?_⟩
  refine List.forall_mem_cons.mpr ⟨ok_callV C h_X11_four ⟨rfl, rfl⟩ rfl kw_1145 kw_1141 kw_1143 kp_47 kw_11 rfl ds_X11_four ⟨by decide, by decide⟩ (show decode cX11_feed 32 = .ok (.invokevirtual 10, 3) from dk_at dq32_7 (i := 3) rfl) rfl, ?_⟩
  refine List.forall_mem_cons.mpr ⟨ok_aload_n C (show decode cX11_feed 35 = .ok (.aload_n 0, 1) from dk_at dq32_7 (i := 4) rfl) rfl rfl, ?_⟩
  refine List.forall_mem_cons.mpr ⟨ok_iload C (show decode cX11_feed 36 = .ok (.iload 4, 2) from dk_at dq32_7 (i := 5) rfl) rfl, ?_⟩
  refine List.forall_mem_cons.mpr ⟨ok_callV C h_X11_four ⟨rfl, rfl⟩ rfl kw_1145 kw_1141 kw_1143 kp_47 kw_11 rfl ds_X11_four ⟨by decide, by decide⟩ (show decode cX11_feed 38 = .ok (.invokevirtual 10, 3) from dk_at dq32_7 (i := 6) rfl) rfl, ?_⟩
  refine List.forall_mem_cons.mpr ⟨ok_aload_n C (show decode cX11_feed 41 = .ok (.aload_n 0, 1) from dk_at dq32_7 (i := 7) rfl) rfl rfl, ?_⟩
  refine List.forall_mem_cons.mpr ⟨ok_iload C (show decode cX11_feed 42 = .ok (.iload 5, 2) from dk_at dq32_7 (i := 8) rfl) rfl, ?_⟩
  refine List.forall_mem_cons.mpr ⟨ok_callV C h_X11_four ⟨rfl, rfl⟩ rfl kw_1145 kw_1141 kw_1143 kp_47 kw_11 rfl ds_X11_four ⟨by decide, by decide⟩ (show decode cX11_feed 44 = .ok (.invokevirtual 10, 3) from dk_at dq32_7 (i := 9) rfl) rfl, ?_⟩
  refine List.forall_mem_cons.mpr ⟨ok_aload_n C (show decode cX11_feed 47 = .ok (.aload_n 0, 1) from dk_at dq32_7 (i := 10) rfl) rfl rfl, ?_⟩
  refine List.forall_mem_cons.mpr ⟨ok_getf C (wi_X11) rfl (by decide) kw_1182 (show decode cX11_feed 48 = .ok (.getfield 7, 3) from dk_at dq32_7 (i := 11) rfl) rfl, ?_⟩
  refine List.forall_mem_cons.mpr ⟨ok_ret C rfl (show decode cX11_feed 51 = .ok (.ireturn, 1) from dk_at dq32_7 (i := 12) rfl), ?_⟩
  exact fun _ h => absurd h List.not_mem_nil
def L_X11_end : List (Nat × ab_A) := [
  (0, ab_nx 1 (ab_aload 0)),
  (1, ab_nx 2 (ab_lit (.int 0))),
  (2, ab_nx 5 (ab_putf 11 0 0)),
  (5, ab_nx 6 (ab_iload 1)),
  (6, ab_if 9 17 (fun x => decide (x < 0))),
  (9, ab_nx 10 (ab_iload 1)),
  (10, ab_nx 11 (ab_aload 0)),
  (11, ab_nx 14 (ab_getf 11 2)),
  (14, ab_icmp 17 19 (fun x y => decide (x ≤ y))),
  (17, ab_nx 18 (ab_lit (.int 0))),
  (18, ab_zret 0 0),
  (19, ab_nx 20 (ab_aload 0)),
  (20, ab_nx 21 (ab_iload 1)),
  (21, ab_nx 24 (ab_putf 11 2 0)),
  (24, ab_nx 25 (ab_lit (.int 1))),
  (25, ab_zret 0 0)]
set_option maxRecDepth 100000 in
theorem dq32_8 : ([(0, .aload_n 0, 1), (1, .iconst 0, 1), (2, .putfield 1, 3), (5, .iload_n 1, 1), (6, .ifCond .lt 11, 3), (9, .iload_n 1, 1), (10, .aload_n 0, 1), (11, .getfield 7, 3), (14, .if_icmp .le 5, 3), (17, .iconst 0, 1), (18, .ireturn, 1), (19, .aload_n 0, 1), (20, .iload_n 1, 1), (21, .putfield 7, 3), (24, .iconst 1, 1), (25, .ireturn, 1)] : List (Nat × Instr × Nat)).all (fun q => decide (decode cX11_end q.1 = .ok q.2)) = true := by decide +kernel
set_option maxRecDepth 100000 in
set_option maxHeartbeats 4000000 in
theorem M_X11_end {l : Launch} {b : ab_B} {D : va_G} {cA : Nat → ClassId} : ab_M l b D ab_cl cA (ab_E0 b) yX11_end (Cond.code yX11_end cX11_end 2 (some .boolean) :: ab_G) ({ frames := 1, cells := 0, slots := 0, locals := 100 } : Room) (ab_X (ab_T L_X11_end) 2) := by
  refine ab_meth (ret := (some .boolean)) L_X11_end (by decide) rfl fun p e R s m args below meth c o C => ?_
  unfold L_X11_end
  refine List.forall_mem_cons.mpr ⟨ok_aload_n C (show decode cX11_end 0 = .ok (.aload_n 0, 1) from dk_at dq32_8 (i := 0) rfl) rfl rfl, ?_⟩
  refine List.forall_mem_cons.mpr ⟨ok_iconst C (show decode cX11_end 1 = .ok (.iconst 0, 1) from dk_at dq32_8 (i := 1) rfl) (by decide) rfl, ?_⟩
  refine List.forall_mem_cons.mpr ⟨ok_putf C (wi_X11) tyX11 tyX11_ok nmX11 rfl (by decide) kw_1180 (Or.inl rfl) (Or.inl ⟨rfl, rfl⟩) (show decode cX11_end 2 = .ok (.putfield 1, 3) from dk_at dq32_8 (i := 2) rfl) rfl, ?_⟩
  refine List.forall_mem_cons.mpr ⟨ok_iload_n C (show decode cX11_end 5 = .ok (.iload_n 1, 1) from dk_at dq32_8 (i := 3) rfl) rfl rfl, ?_⟩
  refine List.forall_mem_cons.mpr ⟨ok_iflt C (show decode cX11_end 6 = .ok (.ifCond .lt 11, 3) from dk_at dq32_8 (i := 4) rfl) (tg := 17) (by decide) rfl rfl, ?_⟩
  refine List.forall_mem_cons.mpr ⟨ok_iload_n C (show decode cX11_end 9 = .ok (.iload_n 1, 1) from dk_at dq32_8 (i := 5) rfl) rfl rfl, ?_⟩
  refine List.forall_mem_cons.mpr ⟨ok_aload_n C (show decode cX11_end 10 = .ok (.aload_n 0, 1) from dk_at dq32_8 (i := 6) rfl) rfl rfl, ?_⟩
  refine List.forall_mem_cons.mpr ⟨ok_getf C (wi_X11) rfl (by decide) kw_1182 (show decode cX11_end 11 = .ok (.getfield 7, 3) from dk_at dq32_8 (i := 7) rfl) rfl, ?_⟩
  refine List.forall_mem_cons.mpr ⟨ok_icmple C (show decode cX11_end 14 = .ok (.if_icmp .le 5, 3) from dk_at dq32_8 (i := 8) rfl) (tg := 19) (by decide) rfl rfl, ?_⟩
  refine List.forall_mem_cons.mpr ⟨ok_iconst C (show decode cX11_end 17 = .ok (.iconst 0, 1) from dk_at dq32_8 (i := 9) rfl) (by decide) rfl, ?_⟩
  refine List.forall_mem_cons.mpr ⟨ok_zret C rfl (show decode cX11_end 18 = .ok (.ireturn, 1) from dk_at dq32_8 (i := 10) rfl), ?_⟩
  refine List.forall_mem_cons.mpr ⟨ok_aload_n C (show decode cX11_end 19 = .ok (.aload_n 0, 1) from dk_at dq32_8 (i := 11) rfl) rfl rfl, ?_⟩
  refine List.forall_mem_cons.mpr ⟨ok_iload_n C (show decode cX11_end 20 = .ok (.iload_n 1, 1) from dk_at dq32_8 (i := 12) rfl) rfl rfl, ?_⟩
  refine List.forall_mem_cons.mpr ⟨ok_putf C (wi_X11) tyX11 tyX11_ok nmX11 rfl (by decide) kw_1182 (Or.inl rfl) (Or.inl ⟨rfl, rfl⟩) (show decode cX11_end 21 = .ok (.putfield 7, 3) from dk_at dq32_8 (i := 13) rfl) rfl, ?_⟩
  refine List.forall_mem_cons.mpr ⟨ok_iconst C (show decode cX11_end 24 = .ok (.iconst 1, 1) from dk_at dq32_8 (i := 14) rfl) (by decide) rfl, ?_⟩
  refine List.forall_mem_cons.mpr ⟨ok_zret C rfl (show decode cX11_end 25 = .ok (.ireturn, 1) from dk_at dq32_8 (i := 15) rfl), ?_⟩
  exact fun _ h => absurd h List.not_mem_nil
def L_X11_taken : List (Nat × ab_A) := [
  (0, ab_nx 1 (ab_aload 0)),
  (1, ab_nx 2 (ab_aload 0)),
  (2, ab_nx 5 (ab_getf 11 2)),
  (5, ab_nx 8 (ab_putf 11 3 0)),
  (8, ab_nx 9 (ab_aload 0)),
  (9, ab_nx 10 (ab_lit (.int 0))),
  (10, ab_nx 13 (ab_putf 11 2 0)),
  (13, ab_nx 14 (ab_aload 0)),
  (14, ab_nx 15 (ab_lit (.int 0))),
  (15, ab_nx 18 (ab_putf 11 4 0)),
  (18, ab_nx 19 (ab_aload 0)),
  (19, ab_nx 20 (ab_iload 1)),
  (20, ab_nx 23 (ab_putf 11 5 0)),
  (23, ab_vret 0 0)]
set_option maxRecDepth 100000 in
theorem dq32_9 : ([(0, .aload_n 0, 1), (1, .aload_n 0, 1), (2, .getfield 7, 3), (5, .putfield 18, 3), (8, .aload_n 0, 1), (9, .iconst 0, 1), (10, .putfield 7, 3), (13, .aload_n 0, 1), (14, .iconst 0, 1), (15, .putfield 21, 3), (18, .aload_n 0, 1), (19, .iload_n 1, 1), (20, .putfield 24, 3), (23, .return_, 1)] : List (Nat × Instr × Nat)).all (fun q => decide (decode cX11_taken q.1 = .ok q.2)) = true := by decide +kernel
set_option maxRecDepth 100000 in
set_option maxHeartbeats 4000000 in
theorem M_X11_taken {l : Launch} {b : ab_B} {D : va_G} {cA : Nat → ClassId} : ab_M l b D ab_cl cA (ab_E0 b) yX11_taken (Cond.code yX11_taken cX11_taken 2 none :: ab_G) ({ frames := 1, cells := 0, slots := 0, locals := 100 } : Room) (ab_X (ab_T L_X11_taken) 2) := by
  refine ab_meth (ret := none) L_X11_taken (by decide) rfl fun p e R s m args below meth c o C => ?_
  unfold L_X11_taken
  refine List.forall_mem_cons.mpr ⟨ok_aload_n C (show decode cX11_taken 0 = .ok (.aload_n 0, 1) from dk_at dq32_9 (i := 0) rfl) rfl rfl, ?_⟩
  refine List.forall_mem_cons.mpr ⟨ok_aload_n C (show decode cX11_taken 1 = .ok (.aload_n 0, 1) from dk_at dq32_9 (i := 1) rfl) rfl rfl, ?_⟩
  refine List.forall_mem_cons.mpr ⟨ok_getf C (wi_X11) rfl (by decide) kw_1182 (show decode cX11_taken 2 = .ok (.getfield 7, 3) from dk_at dq32_9 (i := 2) rfl) rfl, ?_⟩
  refine List.forall_mem_cons.mpr ⟨ok_putf C (wi_X11) tyX11 tyX11_ok nmX11 rfl (by decide) kw_1183 (Or.inl rfl) (Or.inl ⟨rfl, rfl⟩) (show decode cX11_taken 5 = .ok (.putfield 18, 3) from dk_at dq32_9 (i := 3) rfl) rfl, ?_⟩
  refine List.forall_mem_cons.mpr ⟨ok_aload_n C (show decode cX11_taken 8 = .ok (.aload_n 0, 1) from dk_at dq32_9 (i := 4) rfl) rfl rfl, ?_⟩
  refine List.forall_mem_cons.mpr ⟨ok_iconst C (show decode cX11_taken 9 = .ok (.iconst 0, 1) from dk_at dq32_9 (i := 5) rfl) (by decide) rfl, ?_⟩
  refine List.forall_mem_cons.mpr ⟨ok_putf C (wi_X11) tyX11 tyX11_ok nmX11 rfl (by decide) kw_1182 (Or.inl rfl) (Or.inl ⟨rfl, rfl⟩) (show decode cX11_taken 10 = .ok (.putfield 7, 3) from dk_at dq32_9 (i := 6) rfl) rfl, ?_⟩
  refine List.forall_mem_cons.mpr ⟨ok_aload_n C (show decode cX11_taken 13 = .ok (.aload_n 0, 1) from dk_at dq32_9 (i := 7) rfl) rfl rfl, ?_⟩
  refine List.forall_mem_cons.mpr ⟨ok_iconst C (show decode cX11_taken 14 = .ok (.iconst 0, 1) from dk_at dq32_9 (i := 8) rfl) (by decide) rfl, ?_⟩
  refine List.forall_mem_cons.mpr ⟨ok_putf C (wi_X11) tyX11 tyX11_ok nmX11 rfl (by decide) kw_1184 (Or.inl rfl) (Or.inl ⟨rfl, rfl⟩) (show decode cX11_taken 15 = .ok (.putfield 21, 3) from dk_at dq32_9 (i := 9) rfl) rfl, ?_⟩
  refine List.forall_mem_cons.mpr ⟨ok_aload_n C (show decode cX11_taken 18 = .ok (.aload_n 0, 1) from dk_at dq32_9 (i := 10) rfl) rfl rfl, ?_⟩
  refine List.forall_mem_cons.mpr ⟨ok_iload_n C (show decode cX11_taken 19 = .ok (.iload_n 1, 1) from dk_at dq32_9 (i := 11) rfl) rfl rfl, ?_⟩
  refine List.forall_mem_cons.mpr ⟨ok_putf C (wi_X11) tyX11 tyX11_ok nmX11 rfl (by decide) kw_1185 (Or.inl rfl) (Or.inl ⟨rfl, rfl⟩) (show decode cX11_taken 20 = .ok (.putfield 24, 3) from dk_at dq32_9 (i := 12) rfl) rfl, ?_⟩
  refine List.forall_mem_cons.mpr ⟨ok_vret C rfl (show decode cX11_taken 23 = .ok (.return_, 1) from dk_at dq32_9 (i := 13) rfl), ?_⟩
  exact fun _ h => absurd h List.not_mem_nil
def L_X11_isIn : List (Nat × ab_A) := [
  (0, ab_nx 1 (ab_iload 0)),
  (1, ab_nx 2 (ab_iload 1)),
  (2, ab_icmp 5 14 (fun x y => decide (x < y))),
  (5, ab_nx 6 (ab_iload 0)),
  (6, ab_nx 7 (ab_iload 2)),
  (7, ab_icmp 10 14 (fun x y => decide (y < x))),
  (10, ab_nx 11 (ab_lit (.int 1))),
  (11, ab_goto 15),
  (14, ab_nx 15 (ab_lit (.int 0))),
  (15, ab_zret 0 0)]
set_option maxRecDepth 100000 in
theorem dq32_10 : ([(0, .iload_n 0, 1), (1, .iload_n 1, 1), (2, .if_icmp .lt 12, 3), (5, .iload_n 0, 1), (6, .iload_n 2, 1), (7, .if_icmp .gt 7, 3), (10, .iconst 1, 1), (11, .goto 4, 3), (14, .iconst 0, 1), (15, .ireturn, 1)] : List (Nat × Instr × Nat)).all (fun q => decide (decode cX11_isIn q.1 = .ok q.2)) = true := by decide +kernel
set_option maxRecDepth 100000 in
set_option maxHeartbeats 4000000 in
theorem M_X11_isIn {l : Launch} {b : ab_B} {D : va_G} {cA : Nat → ClassId} : ab_M l b D ab_cl cA (ab_E0 b) yX11_isIn (Cond.code yX11_isIn cX11_isIn 3 (some .boolean) :: ab_G) ({ frames := 1, cells := 0, slots := 0, locals := 100 } : Room) (ab_X (ab_T L_X11_isIn) 3) := by
  refine ab_meth (ret := (some .boolean)) L_X11_isIn (by decide) rfl fun p e R s m args below meth c o C => ?_
  unfold L_X11_isIn
  refine List.forall_mem_cons.mpr ⟨ok_iload_n C (show decode cX11_isIn 0 = .ok (.iload_n 0, 1) from dk_at dq32_10 (i := 0) rfl) rfl rfl, ?_⟩
  refine List.forall_mem_cons.mpr ⟨ok_iload_n C (show decode cX11_isIn 1 = .ok (.iload_n 1, 1) from dk_at dq32_10 (i := 1) rfl) rfl rfl, ?_⟩
  refine List.forall_mem_cons.mpr ⟨ok_icmplt C (show decode cX11_isIn 2 = .ok (.if_icmp .lt 12, 3) from dk_at dq32_10 (i := 2) rfl) (tg := 14) (by decide) rfl rfl, ?_⟩
  refine List.forall_mem_cons.mpr ⟨ok_iload_n C (show decode cX11_isIn 5 = .ok (.iload_n 0, 1) from dk_at dq32_10 (i := 3) rfl) rfl rfl, ?_⟩
  refine List.forall_mem_cons.mpr ⟨ok_iload_n C (show decode cX11_isIn 6 = .ok (.iload_n 2, 1) from dk_at dq32_10 (i := 4) rfl) rfl rfl, ?_⟩
  refine List.forall_mem_cons.mpr ⟨ok_icmpgt C (show decode cX11_isIn 7 = .ok (.if_icmp .gt 7, 3) from dk_at dq32_10 (i := 5) rfl) (tg := 14) (by decide) rfl rfl, ?_⟩
  refine List.forall_mem_cons.mpr ⟨ok_iconst C (show decode cX11_isIn 10 = .ok (.iconst 1, 1) from dk_at dq32_10 (i := 6) rfl) (by decide) rfl, ?_⟩
  refine List.forall_mem_cons.mpr ⟨ok_goto C (show decode cX11_isIn 11 = .ok (.goto 4, 3) from dk_at dq32_10 (i := 7) rfl) (tg := 15) (by decide) rfl, ?_⟩
  refine List.forall_mem_cons.mpr ⟨ok_iconst C (show decode cX11_isIn 14 = .ok (.iconst 0, 1) from dk_at dq32_10 (i := 8) rfl) (by decide) rfl, ?_⟩
  refine List.forall_mem_cons.mpr ⟨ok_zret C rfl (show decode cX11_isIn 15 = .ok (.ireturn, 1) from dk_at dq32_10 (i := 9) rfl), ?_⟩
  exact fun _ h => absurd h List.not_mem_nil
def L_X11_bitOf : List (Nat × ab_A) := [
  (0, ab_nx 1 (ab_iload 0)),
  (1, ab_nx 2 (ab_iload 1)),
  (2, ab_nx 3 (ab_bin (fun x y => x >>> (y &&& 31)))),
  (3, ab_nx 4 (ab_lit (.int 1))),
  (4, ab_nx 5 (ab_bin (fun x y => x &&& y))),
  (5, ab_nx 6 (ab_lit (.int 1))),
  (6, ab_icmp 9 13 (fun x y => !decide (x = y))),
  (9, ab_nx 10 (ab_lit (.int 1))),
  (10, ab_goto 14),
  (13, ab_nx 14 (ab_lit (.int 0))),
  (14, ab_zret 0 0)]
set_option maxRecDepth 100000 in
theorem dq32_11 : ([(0, .iload_n 0, 1), (1, .iload_n 1, 1), (2, .ishr, 1), (3, .iconst 1, 1), (4, .iand, 1), (5, .iconst 1, 1), (6, .if_icmp .ne 7, 3), (9, .iconst 1, 1), (10, .goto 4, 3), (13, .iconst 0, 1), (14, .ireturn, 1)] : List (Nat × Instr × Nat)).all (fun q => decide (decode cX11_bitOf q.1 = .ok q.2)) = true := by decide +kernel
set_option maxRecDepth 100000 in
set_option maxHeartbeats 4000000 in
theorem M_X11_bitOf {l : Launch} {b : ab_B} {D : va_G} {cA : Nat → ClassId} : ab_M l b D ab_cl cA (ab_E0 b) yX11_bitOf (Cond.code yX11_bitOf cX11_bitOf 2 (some .boolean) :: ab_G) ({ frames := 1, cells := 0, slots := 0, locals := 100 } : Room) (ab_X (ab_T L_X11_bitOf) 2) := by
  refine ab_meth (ret := (some .boolean)) L_X11_bitOf (by decide) rfl fun p e R s m args below meth c o C => ?_
  unfold L_X11_bitOf
  refine List.forall_mem_cons.mpr ⟨ok_iload_n C (show decode cX11_bitOf 0 = .ok (.iload_n 0, 1) from dk_at dq32_11 (i := 0) rfl) rfl rfl, ?_⟩
  refine List.forall_mem_cons.mpr ⟨ok_iload_n C (show decode cX11_bitOf 1 = .ok (.iload_n 1, 1) from dk_at dq32_11 (i := 1) rfl) rfl rfl, ?_⟩
  refine List.forall_mem_cons.mpr ⟨ok_ishr C (show decode cX11_bitOf 2 = .ok (.ishr, 1) from dk_at dq32_11 (i := 2) rfl) rfl, ?_⟩
  refine List.forall_mem_cons.mpr ⟨ok_iconst C (show decode cX11_bitOf 3 = .ok (.iconst 1, 1) from dk_at dq32_11 (i := 3) rfl) (by decide) rfl, ?_⟩
  refine List.forall_mem_cons.mpr ⟨ok_iand C (show decode cX11_bitOf 4 = .ok (.iand, 1) from dk_at dq32_11 (i := 4) rfl) rfl, ?_⟩
  refine List.forall_mem_cons.mpr ⟨ok_iconst C (show decode cX11_bitOf 5 = .ok (.iconst 1, 1) from dk_at dq32_11 (i := 5) rfl) (by decide) rfl, ?_⟩
  refine List.forall_mem_cons.mpr ⟨ok_icmpne C (show decode cX11_bitOf 6 = .ok (.if_icmp .ne 7, 3) from dk_at dq32_11 (i := 6) rfl) (tg := 13) (by decide) rfl rfl, ?_⟩
  refine List.forall_mem_cons.mpr ⟨ok_iconst C (show decode cX11_bitOf 9 = .ok (.iconst 1, 1) from dk_at dq32_11 (i := 7) rfl) (by decide) rfl, ?_⟩
  refine List.forall_mem_cons.mpr ⟨ok_goto C (show decode cX11_bitOf 10 = .ok (.goto 4, 3) from dk_at dq32_11 (i := 8) rfl) (tg := 14) (by decide) rfl, ?_⟩
  refine List.forall_mem_cons.mpr ⟨ok_iconst C (show decode cX11_bitOf 13 = .ok (.iconst 0, 1) from dk_at dq32_11 (i := 9) rfl) (by decide) rfl, ?_⟩
  refine List.forall_mem_cons.mpr ⟨ok_zret C rfl (show decode cX11_bitOf 14 = .ok (.ireturn, 1) from dk_at dq32_11 (i := 10) rfl), ?_⟩
  exact fun _ h => absurd h List.not_mem_nil
def L_X11_lesser : List (Nat × ab_A) := [
  (0, ab_nx 1 (ab_iload 0)),
  (1, ab_nx 2 (ab_iload 1)),
  (2, ab_icmp 5 9 (fun x y => decide (y ≤ x))),
  (5, ab_nx 6 (ab_iload 0)),
  (6, ab_goto 10),
  (9, ab_nx 10 (ab_iload 1)),
  (10, ab_ret 0 0)]
set_option maxRecDepth 100000 in
theorem dq32_12 : ([(0, .iload_n 0, 1), (1, .iload_n 1, 1), (2, .if_icmp .ge 7, 3), (5, .iload_n 0, 1), (6, .goto 4, 3), (9, .iload_n 1, 1), (10, .ireturn, 1)] : List (Nat × Instr × Nat)).all (fun q => decide (decode cX11_lesser q.1 = .ok q.2)) = true := by decide +kernel
set_option maxRecDepth 100000 in
set_option maxHeartbeats 4000000 in
theorem M_X11_lesser {l : Launch} {b : ab_B} {D : va_G} {cA : Nat → ClassId} : ab_M l b D ab_cl cA (ab_E0 b) yX11_lesser (Cond.code yX11_lesser cX11_lesser 2 (some .int) :: ab_G) ({ frames := 1, cells := 0, slots := 0, locals := 100 } : Room) (ab_X (ab_T L_X11_lesser) 2) := by
  refine ab_meth (ret := (some .int)) L_X11_lesser (by decide) rfl fun p e R s m args below meth c o C => ?_
  unfold L_X11_lesser
  refine List.forall_mem_cons.mpr ⟨ok_iload_n C (show decode cX11_lesser 0 = .ok (.iload_n 0, 1) from dk_at dq32_12 (i := 0) rfl) rfl rfl, ?_⟩
  refine List.forall_mem_cons.mpr ⟨ok_iload_n C (show decode cX11_lesser 1 = .ok (.iload_n 1, 1) from dk_at dq32_12 (i := 1) rfl) rfl rfl, ?_⟩
  refine List.forall_mem_cons.mpr ⟨ok_icmpge C (show decode cX11_lesser 2 = .ok (.if_icmp .ge 7, 3) from dk_at dq32_12 (i := 2) rfl) (tg := 9) (by decide) rfl rfl, ?_⟩
  refine List.forall_mem_cons.mpr ⟨ok_iload_n C (show decode cX11_lesser 5 = .ok (.iload_n 0, 1) from dk_at dq32_12 (i := 3) rfl) rfl rfl, ?_⟩
  refine List.forall_mem_cons.mpr ⟨ok_goto C (show decode cX11_lesser 6 = .ok (.goto 4, 3) from dk_at dq32_12 (i := 4) rfl) (tg := 10) (by decide) rfl, ?_⟩
  refine List.forall_mem_cons.mpr ⟨ok_iload_n C (show decode cX11_lesser 9 = .ok (.iload_n 1, 1) from dk_at dq32_12 (i := 5) rfl) rfl rfl, ?_⟩
  refine List.forall_mem_cons.mpr ⟨ok_ret C rfl (show decode cX11_lesser 10 = .ok (.ireturn, 1) from dk_at dq32_12 (i := 6) rfl), ?_⟩
  exact fun _ h => absurd h List.not_mem_nil
def L_X11_bits : List (Nat × ab_A) := [
  (0, ab_nx 1 (ab_lit (.int 0))),
  (1, ab_nx 2 (ab_istore 1)),
  (2, ab_nx 3 (ab_iload 0)),
  (3, ab_nx 4 (ab_istore 2)),
  (4, ab_nx 5 (ab_iload 2)),
  (5, ab_if 8 20 (fun x => decide (x = 0))),
  (8, ab_nx 11 (ab_iinc 1 1)),
  (11, ab_nx 12 (ab_iload 2)),
  (12, ab_nx 13 (ab_iload 2)),
  (13, ab_nx 14 (ab_lit (.int 1))),
  (14, ab_nx 15 (ab_bin (fun x y => x - y))),
  (15, ab_nx 16 (ab_bin (fun x y => x &&& y))),
  (16, ab_nx 17 (ab_istore 2)),
  (17, ab_goto 4),
  (20, ab_nx 21 (ab_iload 1)),
  (21, ab_ret 0 0)]
set_option maxRecDepth 100000 in
theorem dq32_13 : ([(0, .iconst 0, 1), (1, .istore_n 1, 1), (2, .iload_n 0, 1), (3, .istore_n 2, 1), (4, .iload_n 2, 1), (5, .ifCond .eq 15, 3), (8, .iinc 1 1, 3), (11, .iload_n 2, 1), (12, .iload_n 2, 1), (13, .iconst 1, 1), (14, .isub, 1), (15, .iand, 1), (16, .istore_n 2, 1), (17, .goto (-13), 3), (20, .iload_n 1, 1), (21, .ireturn, 1)] : List (Nat × Instr × Nat)).all (fun q => decide (decode cX11_bits q.1 = .ok q.2)) = true := by decide +kernel
set_option maxRecDepth 100000 in
set_option maxHeartbeats 4000000 in
theorem M_X11_bits {l : Launch} {b : ab_B} {D : va_G} {cA : Nat → ClassId} : ab_M l b D ab_cl cA (ab_E0 b) yX11_bits (Cond.code yX11_bits cX11_bits 3 (some .int) :: ab_G) ({ frames := 1, cells := 0, slots := 0, locals := 100 } : Room) (ab_X (ab_T L_X11_bits) 3) := by
  refine ab_meth (ret := (some .int)) L_X11_bits (by decide) rfl fun p e R s m args below meth c o C => ?_
  unfold L_X11_bits
  refine List.forall_mem_cons.mpr ⟨ok_iconst C (show decode cX11_bits 0 = .ok (.iconst 0, 1) from dk_at dq32_13 (i := 0) rfl) (by decide) rfl, ?_⟩
  refine List.forall_mem_cons.mpr ⟨ok_istore_n C (show decode cX11_bits 1 = .ok (.istore_n 1, 1) from dk_at dq32_13 (i := 1) rfl) rfl (by decide) rfl, ?_⟩
  refine List.forall_mem_cons.mpr ⟨ok_iload_n C (show decode cX11_bits 2 = .ok (.iload_n 0, 1) from dk_at dq32_13 (i := 2) rfl) rfl rfl, ?_⟩
  refine List.forall_mem_cons.mpr ⟨ok_istore_n C (show decode cX11_bits 3 = .ok (.istore_n 2, 1) from dk_at dq32_13 (i := 3) rfl) rfl (by decide) rfl, ?_⟩
  refine List.forall_mem_cons.mpr ⟨ok_iload_n C (show decode cX11_bits 4 = .ok (.iload_n 2, 1) from dk_at dq32_13 (i := 4) rfl) rfl rfl, ?_⟩
  refine List.forall_mem_cons.mpr ⟨ok_ifeq C (show decode cX11_bits 5 = .ok (.ifCond .eq 15, 3) from dk_at dq32_13 (i := 5) rfl) (tg := 20) (by decide) rfl rfl, ?_⟩
  refine List.forall_mem_cons.mpr ⟨ok_iinc C (show decode cX11_bits 8 = .ok (.iinc 1 1, 3) from dk_at dq32_13 (i := 6) rfl) (by decide) (by decide) rfl, ?_⟩
  refine List.forall_mem_cons.mpr ⟨ok_iload_n C (show decode cX11_bits 11 = .ok (.iload_n 2, 1) from dk_at dq32_13 (i := 7) rfl) rfl rfl, ?_⟩
  refine List.forall_mem_cons.mpr ⟨ok_iload_n C (show decode cX11_bits 12 = .ok (.iload_n 2, 1) from dk_at dq32_13 (i := 8) rfl) rfl rfl, ?_⟩
  refine List.forall_mem_cons.mpr ⟨ok_iconst C (show decode cX11_bits 13 = .ok (.iconst 1, 1) from dk_at dq32_13 (i := 9) rfl) (by decide) rfl, ?_⟩
  refine List.forall_mem_cons.mpr ⟨ok_isub C (show decode cX11_bits 14 = .ok (.isub, 1) from dk_at dq32_13 (i := 10) rfl) rfl, ?_⟩
  refine List.forall_mem_cons.mpr ⟨ok_iand C (show decode cX11_bits 15 = .ok (.iand, 1) from dk_at dq32_13 (i := 11) rfl) rfl, ?_⟩
  refine List.forall_mem_cons.mpr ⟨ok_istore_n C (show decode cX11_bits 16 = .ok (.istore_n 2, 1) from dk_at dq32_13 (i := 12) rfl) rfl (by decide) rfl, ?_⟩
  refine List.forall_mem_cons.mpr ⟨ok_goto C (show decode cX11_bits 17 = .ok (.goto (-13), 3) from dk_at dq32_13 (i := 13) rfl) (tg := 4) (by decide) rfl, ?_⟩
  refine List.forall_mem_cons.mpr ⟨ok_iload_n C (show decode cX11_bits 20 = .ok (.iload_n 1, 1) from dk_at dq32_13 (i := 14) rfl) rfl rfl, ?_⟩
  refine List.forall_mem_cons.mpr ⟨ok_ret C rfl (show decode cX11_bits 21 = .ok (.ireturn, 1) from dk_at dq32_13 (i := 15) rfl), ?_⟩
  exact fun _ h => absurd h List.not_mem_nil
def L_X11_octet : List (Nat × ab_A) := [
  (0, ab_nx 1 (ab_aload 0)),
  (1, ab_nx 4 (ab_getf 11 1)),
  (4, ab_nx 5 (ab_iload 1)),
  (5, ab_nx 6 (ab_ald 0)),
  (6, ab_nx 9 (ab_lit (.int 255))),
  (9, ab_nx 10 (ab_bin (fun x y => x &&& y))),
  (10, ab_ret 0 0)]
set_option maxRecDepth 100000 in
theorem dq32_14 : ([(0, .aload_n 0, 1), (1, .getfield 14, 3), (4, .iload_n 1, 1), (5, .baload, 1), (6, .sipush 255, 3), (9, .iand, 1), (10, .ireturn, 1)] : List (Nat × Instr × Nat)).all (fun q => decide (decode cX11_octet q.1 = .ok q.2)) = true := by decide +kernel
set_option maxRecDepth 100000 in
set_option maxHeartbeats 4000000 in
theorem M_X11_octet {l : Launch} {b : ab_B} {D : va_G} {cA : Nat → ClassId} : ab_M l b D ab_cl cA (ab_E0 b) yX11_octet (Cond.code yX11_octet cX11_octet 2 (some .int) :: ab_G) ({ frames := 1, cells := 0, slots := 0, locals := 100 } : Room) (ab_X (ab_T L_X11_octet) 2) := by
  refine ab_meth (ret := (some .int)) L_X11_octet (by decide) rfl fun p e R s m args below meth c o C => ?_
  unfold L_X11_octet
  refine List.forall_mem_cons.mpr ⟨ok_aload_n C (show decode cX11_octet 0 = .ok (.aload_n 0, 1) from dk_at dq32_14 (i := 0) rfl) rfl rfl, ?_⟩
  refine List.forall_mem_cons.mpr ⟨ok_getf C (wi_X11) rfl (by decide) kw_1181 (show decode cX11_octet 1 = .ok (.getfield 14, 3) from dk_at dq32_14 (i := 1) rfl) rfl, ?_⟩
  refine List.forall_mem_cons.mpr ⟨ok_iload_n C (show decode cX11_octet 4 = .ok (.iload_n 1, 1) from dk_at dq32_14 (i := 2) rfl) rfl rfl, ?_⟩
  refine List.forall_mem_cons.mpr ⟨ok_baload C (show decode cX11_octet 5 = .ok (.baload, 1) from dk_at dq32_14 (i := 3) rfl) rfl, ?_⟩
  refine List.forall_mem_cons.mpr ⟨ok_sipush C (show decode cX11_octet 6 = .ok (.sipush 255, 3) from dk_at dq32_14 (i := 4) rfl) (by decide) rfl, ?_⟩
  refine List.forall_mem_cons.mpr ⟨ok_iand C (show decode cX11_octet 9 = .ok (.iand, 1) from dk_at dq32_14 (i := 5) rfl) rfl, ?_⟩
  refine List.forall_mem_cons.mpr ⟨ok_ret C rfl (show decode cX11_octet 10 = .ok (.ireturn, 1) from dk_at dq32_14 (i := 6) rfl), ?_⟩
  exact fun _ h => absurd h List.not_mem_nil
def L_X11_init : List (Nat × ab_A) := [
  (0, ab_nx 1 (ab_aload 0)),
  (1, ab_nx 4 ab_obj),
  (4, ab_nx 5 (ab_aload 0)),
  (5, ab_nx 8 (ab_lit (.int 940))),
  (8, ab_nx 10 (ab_newa 0 (fun n => (n, .inl (fun _ => 0))) 17 3972)),
  (10, ab_nx 13 (ab_putf 11 1 2)),
  (13, ab_nx 14 (ab_aload 0)),
  (14, ab_nx 17 (ab_lit (.int 434))),
  (17, ab_nx 19 (ab_newa 1 (fun n => (n, .inl (fun _ => 0))) 17 3972)),
  (19, ab_nx 22 (ab_putf 11 6 2)),
  (22, ab_nx 23 (ab_aload 0)),
  (23, ab_nx 25 (ab_lit (.int 120))),
  (25, ab_nx 27 (ab_newa 1 (fun n => (n, .inl (fun _ => 0))) 17 3972)),
  (27, ab_nx 30 (ab_putf 11 7 2)),
  (30, ab_nx 31 (ab_aload 0)),
  (31, ab_nx 34 (ab_lit (.int 160))),
  (34, ab_nx 36 (ab_newa 1 (fun n => (n, .inl (fun _ => 0))) 17 3972)),
  (36, ab_nx 39 (ab_putf 11 8 2)),
  (39, ab_nx 40 (ab_aload 0)),
  (40, ab_nx 42 (ab_lit (.int 28))),
  (42, ab_nx 44 (ab_newa 2 (fun n => (n, .inr (.inl (fun _ => 0)))) 17 3972)),
  (44, ab_nx 47 (ab_putf 11 9 2)),
  (47, ab_nx 48 (ab_aload 0)),
  (48, ab_nx 50 (ab_lit (.int 25))),
  (50, ab_nx 52 (ab_newa 2 (fun n => (n, .inr (.inl (fun _ => 0)))) 17 3972)),
  (52, ab_nx 55 (ab_putf 11 10 2)),
  (55, ab_nx 56 (ab_aload 0)),
  (56, ab_nx 57 (ab_lit (.int 4))),
  (57, ab_nx 59 (ab_newa 1 (fun n => (n, .inl (fun _ => 0))) 17 3972)),
  (59, ab_nx 62 (ab_putf 11 21 2)),
  (62, ab_nx 63 (ab_aload 0)),
  (63, ab_nx 66 (ab_lit (.int 1064))),
  (66, ab_nx 68 (ab_newa 1 (fun n => (n, .inl (fun _ => 0))) 17 3972)),
  (68, ab_nx 71 (ab_putf 11 23 2)),
  (71, ab_nx 72 (ab_aload 0)),
  (72, ab_nx 75 (ab_lit (.int 133))),
  (75, ab_nx 77 (ab_newa 1 (fun n => (n, .inl (fun _ => 0))) 17 3972)),
  (77, ab_nx 80 (ab_putf 11 24 2)),
  (80, ab_nx 81 (ab_aload 0)),
  (81, ab_nx 83 (ab_lit (.int 60))),
  (83, ab_nx 85 (ab_newa 1 (fun n => (n, .inl (fun _ => 0))) 17 3972)),
  (85, ab_nx 88 (ab_putf 11 26 2)),
  (88, ab_nx 89 (ab_aload 0)),
  (89, ab_nx 91 (ab_lit (.int 12))),
  (91, ab_nx 93 (ab_newa 1 (fun n => (n, .inl (fun _ => 0))) 17 3972)),
  (93, ab_nx 96 (ab_putf 11 27 2)),
  (96, ab_nx 97 (ab_aload 0)),
  (97, ab_nx 98 (ab_lit (.int (-1)))),
  (98, ab_nx 101 (ab_putf 11 28 0)),
  (101, ab_nx 102 (ab_aload 0)),
  (102, ab_nx 103 (ab_lit (.int 4))),
  (103, ab_nx 105 (ab_newa 1 (fun n => (n, .inl (fun _ => 0))) 17 3972)),
  (105, ab_nx 108 (ab_putf 11 31 2)),
  (108, ab_nx 109 (ab_aload 0)),
  (109, ab_nx 111 (ab_lit (.int 45))),
  (111, ab_nx 113 (ab_newa 1 (fun n => (n, .inl (fun _ => 0))) 17 3972)),
  (113, ab_nx 116 (ab_putf 11 33 2)),
  (116, ab_nx 117 (ab_aload 0)),
  (117, ab_nx 119 (ab_lit (.int 45))),
  (119, ab_nx 121 (ab_newa 3 (fun n => (n, .inl (fun _ => 0))) 17 3972)),
  (121, ab_nx 124 (ab_putf 11 39 2)),
  (124, ab_nx 125 (ab_aload 0)),
  (125, ab_nx 128 (ab_lit (.int 868))),
  (128, ab_nx 130 (ab_newa 1 (fun n => (n, .inl (fun _ => 0))) 17 3972)),
  (130, ab_nx 133 (ab_putf 11 40 2)),
  (133, ab_nx 134 (ab_aload 0)),
  (134, ab_nx 136 (ab_lit (.int 28))),
  (136, ab_nx 138 (ab_newa 2 (fun n => (n, .inr (.inl (fun _ => 0)))) 17 3972)),
  (138, ab_nx 141 (ab_putf 11 41 2)),
  (141, ab_nx 142 (ab_aload 0)),
  (142, ab_nx 143 (ab_lit (.int 2))),
  (143, ab_nx 145 (ab_newa 3 (fun n => (n, .inl (fun _ => 0))) 17 3972)),
  (145, ab_nx 148 (ab_putf 11 42 2)),
  (148, ab_nx 149 (ab_aload 0)),
  (149, ab_nx 152 (ab_getf 11 10)),
  (152, ab_nx 153 (ab_lit (.int 0))),
  (153, ab_nx 156 (ab_lit (.long 1819238756))),
  (156, ab_nx 157 ab_last),
  (157, ab_nx 158 (ab_aload 0)),
  (158, ab_nx 161 (ab_getf 11 10)),
  (161, ab_nx 162 (ab_lit (.int 1))),
  (162, ab_nx 165 (ab_lit (.long 1735356260))),
  (165, ab_nx 166 ab_last),
  (166, ab_nx 167 (ab_aload 0)),
  (167, ab_nx 170 (ab_getf 11 10)),
  (170, ab_nx 171 (ab_lit (.int 2))),
  (171, ab_nx 174 (ab_lit (.long 495874696043))),
  (174, ab_nx 175 ab_last),
  (175, ab_nx 176 (ab_aload 0)),
  (176, ab_nx 179 (ab_getf 11 10)),
  (179, ab_nx 180 (ab_lit (.int 3))),
  (180, ab_nx 183 (ab_lit (.long 512735736947))),
  (183, ab_nx 184 ab_last),
  (184, ab_nx 185 (ab_aload 0)),
  (185, ab_nx 188 (ab_getf 11 10)),
  (188, ab_nx 189 (ab_lit (.int 4))),
  (189, ab_nx 192 (ab_lit (.long 1700885619))),
  (192, ab_nx 193 ab_last),
  (193, ab_nx 194 (ab_aload 0)),
  (194, ab_nx 197 (ab_getf 11 10)),
  (197, ab_nx 198 (ab_lit (.int 5))),
  (198, ab_nx 201 (ab_lit (.long 469785863539))),
  (201, ab_nx 202 ab_last),
  (202, ab_nx 203 (ab_aload 0)),
  (203, ab_nx 206 (ab_getf 11 10)),
  (206, ab_nx 208 (ab_lit (.int 6))),
  (208, ab_nx 211 (ab_lit (.long 7168366))),
  (211, ab_nx 212 ab_last),
  (212, ab_nx 213 (ab_aload 0)),
  (213, ab_nx 216 (ab_getf 11 10)),
  (216, ab_nx 218 (ab_lit (.int 7))),
  (218, ab_nx 221 (ab_lit (.long 120299675936115))),
  (221, ab_nx 222 ab_last),
  (222, ab_nx 223 (ab_aload 0)),
  (223, ab_nx 226 (ab_getf 11 10)),
  (226, ab_nx 228 (ab_lit (.int 8))),
  (228, ab_nx 231 (ab_lit (.long 114827585545331))),
  (231, ab_nx 232 ab_last),
  (232, ab_nx 233 (ab_aload 0)),
  (233, ab_nx 236 (ab_getf 11 10)),
  (236, ab_nx 238 (ab_lit (.int 9))),
  (238, ab_nx 241 (ab_lit (.long 422541682035))),
  (241, ab_nx 242 ab_last),
  (242, ab_nx 243 (ab_aload 0)),
  (243, ab_nx 246 (ab_getf 11 10)),
  (246, ab_nx 248 (ab_lit (.int 10))),
  (248, ab_nx 251 (ab_lit (.long 131260432541043))),
  (251, ab_nx 252 ab_last),
  (252, ab_nx 253 (ab_aload 0)),
  (253, ab_nx 256 (ab_getf 11 10)),
  (256, ab_nx 258 (ab_lit (.int 11))),
  (258, ab_nx 261 (ab_lit (.long 1684628851))),
  (261, ab_nx 262 ab_last),
  (262, ab_nx 263 (ab_aload 0)),
  (263, ab_nx 266 (ab_getf 11 10)),
  (266, ab_nx 268 (ab_lit (.int 12))),
  (268, ab_nx 271 (ab_lit (.long 6578553))),
  (271, ab_nx 272 ab_last),
  (272, ab_nx 273 (ab_aload 0)),
  (273, ab_nx 276 (ab_getf 11 10)),
  (276, ab_nx 278 (ab_lit (.int 13))),
  (278, ab_nx 281 (ab_lit (.long 28530))),
  (281, ab_nx 282 ab_last),
  (282, ab_nx 283 (ab_aload 0)),
  (283, ab_nx 286 (ab_getf 11 10)),
  (286, ab_nx 288 (ab_lit (.int 14))),
  (288, ab_nx 291 (ab_lit (.long 6385252))),
  (291, ab_nx 292 ab_last),
  (292, ab_nx 293 (ab_aload 0)),
  (293, ab_nx 296 (ab_getf 11 10)),
  (296, ab_nx 298 (ab_lit (.int 15))),
  (298, ab_nx 301 (ab_lit (.long 7237492))),
  (301, ab_nx 302 ab_last),
  (302, ab_nx 303 (ab_aload 0)),
  (303, ab_nx 306 (ab_getf 11 10)),
  (306, ab_nx 308 (ab_lit (.int 16))),
  (308, ab_nx 311 (ab_lit (.long 119165535610212))),
  (311, ab_nx 312 ab_last),
  (312, ab_nx 313 (ab_aload 0)),
  (313, ab_nx 316 (ab_getf 11 10)),
  (316, ab_nx 318 (ab_lit (.int 17))),
  (318, ab_nx 321 (ab_lit (.long 29395861899601252))),
  (321, ab_nx 322 ab_last),
  (322, ab_nx 323 (ab_aload 0)),
  (323, ab_nx 326 (ab_getf 11 10)),
  (326, ab_nx 328 (ab_lit (.int 18))),
  (328, ab_nx 331 (ab_lit (.long 1835099237))),
  (331, ab_nx 332 ab_last),
  (332, ab_nx 333 (ab_aload 0)),
  (333, ab_nx 336 (ab_getf 11 10)),
  (336, ab_nx 338 (ab_lit (.int 19))),
  (338, ab_nx 341 (ab_lit (.long 435426714990))),
  (341, ab_nx 342 ab_last),
  (342, ab_nx 343 (ab_aload 0)),
  (343, ab_nx 346 (ab_getf 11 10)),
  (346, ab_nx 348 (ab_lit (.int 20))),
  (348, ab_nx 351 (ab_lit (.long 439721161573))),
  (351, ab_nx 352 ab_last),
  (352, ab_nx 353 (ab_aload 0)),
  (353, ab_nx 356 (ab_getf 11 10)),
  (356, ab_nx 358 (ab_lit (.int 21))),
  (358, ab_nx 361 (ab_lit (.long 1852137842))),
  (361, ab_nx 362 ab_last),
  (362, ab_nx 363 (ab_aload 0)),
  (363, ab_nx 366 (ab_getf 11 10)),
  (366, ab_nx 368 (ab_lit (.int 22))),
  (368, ab_nx 371 (ab_lit (.long 6709618))),
  (371, ab_nx 372 ab_last),
  (372, ab_nx 373 (ab_aload 0)),
  (373, ab_nx 376 (ab_getf 11 10)),
  (376, ab_nx 378 (ab_lit (.int 23))),
  (378, ab_nx 381 (ab_lit (.long 27991845698233700))),
  (381, ab_nx 382 ab_last),
  (382, ab_nx 383 (ab_aload 0)),
  (383, ab_nx 386 (ab_getf 11 10)),
  (386, ab_nx 388 (ab_lit (.int 24))),
  (388, ab_nx 391 (ab_lit (.long 121450625394034))),
  (391, ab_nx 392 ab_last),
  (392, ab_nx 393 (ab_aload 0)),
  (393, ab_nx 396 (ab_getf 11 6)),
  (396, ab_nx 397 (ab_lit (.int 2))),
  (397, ab_nx 399 (ab_lit (.int 10))),
  (399, ab_nx 400 (ab_ast 1)),
  (400, ab_vret 17 3972)]
set_option maxRecDepth 100000 in
theorem dq32_15 : ([(0, .aload_n 0, 1), (1, .invokespecial 27, 3), (4, .aload_n 0, 1), (5, .sipush 940, 3), (8, .newarray .byte, 2), (10, .putfield 14, 3), (13, .aload_n 0, 1), (14, .sipush 434, 3), (17, .newarray .int, 2), (19, .putfield 33, 3), (22, .aload_n 0, 1), (23, .bipush 120, 2), (25, .newarray .int, 2), (27, .putfield 37, 3), (30, .aload_n 0, 1), (31, .sipush 160, 3)] : List (Nat × Instr × Nat)).all (fun q => decide (decode cX11_init q.1 = .ok q.2)) = true := by decide +kernel
set_option maxRecDepth 100000 in
theorem dq32_16 : ([(34, .newarray .int, 2), (36, .putfield 40, 3), (39, .aload_n 0, 1), (40, .bipush 28, 2), (42, .newarray .long, 2), (44, .putfield 43, 3), (47, .aload_n 0, 1), (48, .bipush 25, 2), (50, .newarray .long, 2), (52, .putfield 47, 3), (55, .aload_n 0, 1), (56, .iconst 4, 1), (57, .newarray .int, 2), (59, .putfield 50, 3), (62, .aload_n 0, 1), (63, .sipush 1064, 3)] : List (Nat × Instr × Nat)).all (fun q => decide (decode cX11_init q.1 = .ok q.2)) = true := by decide +kernel
set_option maxRecDepth 100000 in
theorem dq32_17 : ([(66, .newarray .int, 2), (68, .putfield 53, 3), (71, .aload_n 0, 1), (72, .sipush 133, 3), (75, .newarray .int, 2), (77, .putfield 56, 3), (80, .aload_n 0, 1), (81, .bipush 60, 2), (83, .newarray .int, 2), (85, .putfield 59, 3), (88, .aload_n 0, 1), (89, .bipush 12, 2), (91, .newarray .int, 2), (93, .putfield 62, 3), (96, .aload_n 0, 1), (97, .iconst (-1), 1)] : List (Nat × Instr × Nat)).all (fun q => decide (decode cX11_init q.1 = .ok q.2)) = true := by decide +kernel
set_option maxRecDepth 100000 in
theorem dq32_18 : ([(98, .putfield 65, 3), (101, .aload_n 0, 1), (102, .iconst 4, 1), (103, .newarray .int, 2), (105, .putfield 68, 3), (108, .aload_n 0, 1), (109, .bipush 45, 2), (111, .newarray .int, 2), (113, .putfield 71, 3), (116, .aload_n 0, 1), (117, .bipush 45, 2), (119, .newarray .boolean, 2), (121, .putfield 74, 3), (124, .aload_n 0, 1), (125, .sipush 868, 3), (128, .newarray .int, 2)] : List (Nat × Instr × Nat)).all (fun q => decide (decode cX11_init q.1 = .ok q.2)) = true := by decide +kernel
set_option maxRecDepth 100000 in
theorem dq32_19 : ([(130, .putfield 78, 3), (133, .aload_n 0, 1), (134, .bipush 28, 2), (136, .newarray .long, 2), (138, .putfield 81, 3), (141, .aload_n 0, 1), (142, .iconst 2, 1), (143, .newarray .boolean, 2), (145, .putfield 84, 3), (148, .aload_n 0, 1), (149, .getfield 47, 3), (152, .iconst 0, 1), (153, .ldc2_w 87, 3), (156, .lastore, 1), (157, .aload_n 0, 1), (158, .getfield 47, 3)] : List (Nat × Instr × Nat)).all (fun q => decide (decode cX11_init q.1 = .ok q.2)) = true := by decide +kernel
set_option maxRecDepth 100000 in
theorem dq32_20 : ([(161, .iconst 1, 1), (162, .ldc2_w 89, 3), (165, .lastore, 1), (166, .aload_n 0, 1), (167, .getfield 47, 3), (170, .iconst 2, 1), (171, .ldc2_w 91, 3), (174, .lastore, 1), (175, .aload_n 0, 1), (176, .getfield 47, 3), (179, .iconst 3, 1), (180, .ldc2_w 93, 3), (183, .lastore, 1), (184, .aload_n 0, 1), (185, .getfield 47, 3), (188, .iconst 4, 1)] : List (Nat × Instr × Nat)).all (fun q => decide (decode cX11_init q.1 = .ok q.2)) = true := by decide +kernel
set_option maxRecDepth 100000 in
theorem dq32_21 : ([(189, .ldc2_w 95, 3), (192, .lastore, 1), (193, .aload_n 0, 1), (194, .getfield 47, 3), (197, .iconst 5, 1), (198, .ldc2_w 97, 3), (201, .lastore, 1), (202, .aload_n 0, 1), (203, .getfield 47, 3), (206, .bipush 6, 2), (208, .ldc2_w 99, 3), (211, .lastore, 1), (212, .aload_n 0, 1), (213, .getfield 47, 3), (216, .bipush 7, 2), (218, .ldc2_w 101, 3)] : List (Nat × Instr × Nat)).all (fun q => decide (decode cX11_init q.1 = .ok q.2)) = true := by decide +kernel
set_option maxRecDepth 100000 in
theorem dq32_22 : ([(221, .lastore, 1), (222, .aload_n 0, 1), (223, .getfield 47, 3), (226, .bipush 8, 2), (228, .ldc2_w 103, 3), (231, .lastore, 1), (232, .aload_n 0, 1), (233, .getfield 47, 3), (236, .bipush 9, 2), (238, .ldc2_w 105, 3), (241, .lastore, 1), (242, .aload_n 0, 1), (243, .getfield 47, 3), (246, .bipush 10, 2), (248, .ldc2_w 107, 3), (251, .lastore, 1)] : List (Nat × Instr × Nat)).all (fun q => decide (decode cX11_init q.1 = .ok q.2)) = true := by decide +kernel
set_option maxRecDepth 100000 in
theorem dq32_23 : ([(252, .aload_n 0, 1), (253, .getfield 47, 3), (256, .bipush 11, 2), (258, .ldc2_w 109, 3), (261, .lastore, 1), (262, .aload_n 0, 1), (263, .getfield 47, 3), (266, .bipush 12, 2), (268, .ldc2_w 111, 3), (271, .lastore, 1), (272, .aload_n 0, 1), (273, .getfield 47, 3), (276, .bipush 13, 2), (278, .ldc2_w 113, 3), (281, .lastore, 1), (282, .aload_n 0, 1)] : List (Nat × Instr × Nat)).all (fun q => decide (decode cX11_init q.1 = .ok q.2)) = true := by decide +kernel
set_option maxRecDepth 100000 in
theorem dq32_24 : ([(283, .getfield 47, 3), (286, .bipush 14, 2), (288, .ldc2_w 115, 3), (291, .lastore, 1), (292, .aload_n 0, 1), (293, .getfield 47, 3), (296, .bipush 15, 2), (298, .ldc2_w 117, 3), (301, .lastore, 1), (302, .aload_n 0, 1), (303, .getfield 47, 3), (306, .bipush 16, 2), (308, .ldc2_w 119, 3), (311, .lastore, 1), (312, .aload_n 0, 1), (313, .getfield 47, 3)] : List (Nat × Instr × Nat)).all (fun q => decide (decode cX11_init q.1 = .ok q.2)) = true := by decide +kernel
set_option maxRecDepth 100000 in
theorem dq32_25 : ([(316, .bipush 17, 2), (318, .ldc2_w 121, 3), (321, .lastore, 1), (322, .aload_n 0, 1), (323, .getfield 47, 3), (326, .bipush 18, 2), (328, .ldc2_w 123, 3), (331, .lastore, 1), (332, .aload_n 0, 1), (333, .getfield 47, 3), (336, .bipush 19, 2), (338, .ldc2_w 125, 3), (341, .lastore, 1), (342, .aload_n 0, 1), (343, .getfield 47, 3), (346, .bipush 20, 2)] : List (Nat × Instr × Nat)).all (fun q => decide (decode cX11_init q.1 = .ok q.2)) = true := by decide +kernel
set_option maxRecDepth 100000 in
theorem dq32_26 : ([(348, .ldc2_w 127, 3), (351, .lastore, 1), (352, .aload_n 0, 1), (353, .getfield 47, 3), (356, .bipush 21, 2), (358, .ldc2_w 129, 3), (361, .lastore, 1), (362, .aload_n 0, 1), (363, .getfield 47, 3), (366, .bipush 22, 2), (368, .ldc2_w 131, 3), (371, .lastore, 1), (372, .aload_n 0, 1), (373, .getfield 47, 3), (376, .bipush 23, 2), (378, .ldc2_w 133, 3)] : List (Nat × Instr × Nat)).all (fun q => decide (decode cX11_init q.1 = .ok q.2)) = true := by decide +kernel
set_option maxRecDepth 100000 in
theorem dq32_27 : ([(381, .lastore, 1), (382, .aload_n 0, 1), (383, .getfield 47, 3), (386, .bipush 24, 2), (388, .ldc2_w 135, 3), (391, .lastore, 1), (392, .aload_n 0, 1), (393, .getfield 33, 3), (396, .iconst 2, 1), (397, .bipush 10, 2), (399, .iastore, 1), (400, .return_, 1)] : List (Nat × Instr × Nat)).all (fun q => decide (decode cX11_init q.1 = .ok q.2)) = true := by decide +kernel
set_option maxRecDepth 100000 in
set_option maxHeartbeats 4000000 in
theorem M_X11_init {l : Launch} {b : ab_B} {D : va_G} {cA : Nat → ClassId} : ab_M l b D ab_cl cA (ab_E0 b) yX11_init (Cond.code yX11_init cX11_init 1 none :: ab_G) ({ frames := 2, cells := 17, slots := 3972, locals := 200 } : Room) (ab_X (ab_T L_X11_init) 1) := by
  refine ab_meth (ret := none) L_X11_init (by decide) rfl fun p e R s m args below meth c o C => ?_
  unfold L_X11_init
  refine List.forall_mem_cons.mpr ⟨ok_aload_n C (show decode cX11_init 0 = .ok (.aload_n 0, 1) from dk_at dq32_15 (i := 0) rfl) rfl rfl, ?_⟩
  refine List.forall_mem_cons.mpr ⟨ok_obj C kw_1154 kw_30 kw_31 ⟨by decide, by decide⟩ (show decode cX11_init 1 = .ok (.invokespecial 27, 3) from dk_at dq32_15 (i := 1) rfl) rfl, ?_⟩
  refine List.forall_mem_cons.mpr ⟨ok_aload_n C (show decode cX11_init 4 = .ok (.aload_n 0, 1) from dk_at dq32_15 (i := 2) rfl) rfl rfl, ?_⟩
  refine List.forall_mem_cons.mpr ⟨ok_sipush C (show decode cX11_init 5 = .ok (.sipush 940, 3) from dk_at dq32_15 (i := 3) rfl) (by decide) rfl, ?_⟩
  refine List.forall_mem_cons.mpr ⟨ok_newa_byte C kw_49 (show decode cX11_init 8 = .ok (.newarray .byte, 2) from dk_at dq32_15 (i := 4) rfl) rfl, ?_⟩
  refine List.forall_mem_cons.mpr ⟨ok_putf C (wi_X11) tyX11 tyX11_ok nmX11 rfl (by decide) kw_1181 (Or.inr ⟨rfl, cx_name C, rfl⟩) (Or.inr (Or.inr (Or.inl ⟨rfl, Or.inr ⟨_, rfl⟩⟩))) (show decode cX11_init 10 = .ok (.putfield 14, 3) from dk_at dq32_15 (i := 5) rfl) rfl, ?_⟩
  refine List.forall_mem_cons.mpr ⟨ok_aload_n C (show decode cX11_init 13 = .ok (.aload_n 0, 1) from dk_at dq32_15 (i := 6) rfl) rfl rfl, ?_⟩
  refine List.forall_mem_cons.mpr ⟨ok_sipush C (show decode cX11_init 14 = .ok (.sipush 434, 3) from dk_at dq32_15 (i := 7) rfl) (by decide) rfl, ?_⟩
  refine List.forall_mem_cons.mpr ⟨ok_newa_int C kw_97 (show decode cX11_init 17 = .ok (.newarray .int, 2) from dk_at dq32_15 (i := 8) rfl) rfl, ?_⟩
  refine List.forall_mem_cons.mpr ⟨ok_putf C (wi_X11) tyX11 tyX11_ok nmX11 rfl (by decide) kw_1186 (Or.inr ⟨rfl, cx_name C, rfl⟩) (Or.inr (Or.inr (Or.inl ⟨rfl, Or.inr ⟨_, rfl⟩⟩))) (show decode cX11_init 19 = .ok (.putfield 33, 3) from dk_at dq32_15 (i := 9) rfl) rfl, ?_⟩
  refine List.forall_mem_cons.mpr ⟨ok_aload_n C (show decode cX11_init 22 = .ok (.aload_n 0, 1) from dk_at dq32_15 (i := 10) rfl) rfl rfl, ?_⟩
  refine List.forall_mem_cons.mpr ⟨ok_bipush C (show decode cX11_init 23 = .ok (.bipush 120, 2) from dk_at dq32_15 (i := 11) rfl) (by decide) rfl, ?_⟩
  refine List.forall_mem_cons.mpr ⟨ok_newa_int C kw_97 (show decode cX11_init 25 = .ok (.newarray .int, 2) from dk_at dq32_15 (i := 12) rfl) rfl, ?_⟩
  refine List.forall_mem_cons.mpr ⟨ok_putf C (wi_X11) tyX11 tyX11_ok nmX11 rfl (by decide) kw_1187 (Or.inr ⟨rfl, cx_name C, rfl⟩) (Or.inr (Or.inr (Or.inl ⟨rfl, Or.inr ⟨_, rfl⟩⟩))) (show decode cX11_init 27 = .ok (.putfield 37, 3) from dk_at dq32_15 (i := 13) rfl) rfl, ?_⟩
  refine List.forall_mem_cons.mpr ⟨ok_aload_n C (show decode cX11_init 30 = .ok (.aload_n 0, 1) from dk_at dq32_15 (i := 14) rfl) rfl rfl, ?_⟩
  refine List.forall_mem_cons.mpr ⟨ok_sipush C (show decode cX11_init 31 = .ok (.sipush 160, 3) from dk_at dq32_15 (i := 15) rfl) (by decide) rfl, ?_⟩
  refine List.forall_mem_cons.mpr ⟨ok_newa_int C kw_97 (show decode cX11_init 34 = .ok (.newarray .int, 2) from dk_at dq32_16 (i := 0) rfl) rfl, ?_⟩
  refine List.forall_mem_cons.mpr ⟨ok_putf C (wi_X11) tyX11 tyX11_ok nmX11 rfl (by decide) kw_1188 (Or.inr ⟨rfl, cx_name C, rfl⟩) (Or.inr (Or.inr (Or.inl ⟨rfl, Or.inr ⟨_, rfl⟩⟩))) (show decode cX11_init 36 = .ok (.putfield 40, 3) from dk_at dq32_16 (i := 1) rfl) rfl, ?_⟩
  refine List.forall_mem_cons.mpr ⟨ok_aload_n C (show decode cX11_init 39 = .ok (.aload_n 0, 1) from dk_at dq32_16 (i := 2) rfl) rfl rfl, ?_⟩
  refine List.forall_mem_cons.mpr ⟨ok_bipush C (show decode cX11_init 40 = .ok (.bipush 28, 2) from dk_at dq32_16 (i := 3) rfl) (by decide) rfl, ?_⟩
  refine List.forall_mem_cons.mpr ⟨ok_newa_long C kw_98 (show decode cX11_init 42 = .ok (.newarray .long, 2) from dk_at dq32_16 (i := 4) rfl) rfl, ?_⟩
  refine List.forall_mem_cons.mpr ⟨ok_putf C (wi_X11) tyX11 tyX11_ok nmX11 rfl (by decide) kw_1189 (Or.inr ⟨rfl, cx_name C, rfl⟩) (Or.inr (Or.inr (Or.inl ⟨rfl, Or.inr ⟨_, rfl⟩⟩))) (show decode cX11_init 44 = .ok (.putfield 43, 3) from dk_at dq32_16 (i := 5) rfl) rfl, ?_⟩
  refine List.forall_mem_cons.mpr ⟨ok_aload_n C (show decode cX11_init 47 = .ok (.aload_n 0, 1) from dk_at dq32_16 (i := 6) rfl) rfl rfl, ?_⟩
  refine List.forall_mem_cons.mpr ⟨ok_bipush C (show decode cX11_init 48 = .ok (.bipush 25, 2) from dk_at dq32_16 (i := 7) rfl) (by decide) rfl, ?_⟩
  refine List.forall_mem_cons.mpr ⟨ok_newa_long C kw_98 (show decode cX11_init 50 = .ok (.newarray .long, 2) from dk_at dq32_16 (i := 8) rfl) rfl, ?_⟩
  refine List.forall_mem_cons.mpr ⟨ok_putf C (wi_X11) tyX11 tyX11_ok nmX11 rfl (by decide) kw_1190 (Or.inr ⟨rfl, cx_name C, rfl⟩) (Or.inr (Or.inr (Or.inl ⟨rfl, Or.inr ⟨_, rfl⟩⟩))) (show decode cX11_init 52 = .ok (.putfield 47, 3) from dk_at dq32_16 (i := 9) rfl) rfl, ?_⟩
  refine List.forall_mem_cons.mpr ⟨ok_aload_n C (show decode cX11_init 55 = .ok (.aload_n 0, 1) from dk_at dq32_16 (i := 10) rfl) rfl rfl, ?_⟩
  refine List.forall_mem_cons.mpr ⟨ok_iconst C (show decode cX11_init 56 = .ok (.iconst 4, 1) from dk_at dq32_16 (i := 11) rfl) (by decide) rfl, ?_⟩
  refine List.forall_mem_cons.mpr ⟨ok_newa_int C kw_97 (show decode cX11_init 57 = .ok (.newarray .int, 2) from dk_at dq32_16 (i := 12) rfl) rfl, ?_⟩
  refine List.forall_mem_cons.mpr ⟨ok_putf C (wi_X11) tyX11 tyX11_ok nmX11 rfl (by decide) kw_1201 (Or.inr ⟨rfl, cx_name C, rfl⟩) (Or.inr (Or.inr (Or.inl ⟨rfl, Or.inr ⟨_, rfl⟩⟩))) (show decode cX11_init 59 = .ok (.putfield 50, 3) from dk_at dq32_16 (i := 13) rfl) rfl, ?_⟩
  refine List.forall_mem_cons.mpr ⟨ok_aload_n C (show decode cX11_init 62 = .ok (.aload_n 0, 1) from dk_at dq32_16 (i := 14) rfl) rfl rfl, ?_⟩
  refine List.forall_mem_cons.mpr ⟨ok_sipush C (show decode cX11_init 63 = .ok (.sipush 1064, 3) from dk_at dq32_16 (i := 15) rfl) (by decide) rfl, ?_⟩
  refine List.forall_mem_cons.mpr ⟨ok_newa_int C kw_97 (show decode cX11_init 66 = .ok (.newarray .int, 2) from dk_at dq32_17 (i := 0) rfl) rfl, ?_⟩
  refine List.forall_mem_cons.mpr ⟨ok_putf C (wi_X11) tyX11 tyX11_ok nmX11 rfl (by decide) kw_1203 (Or.inr ⟨rfl, cx_name C, rfl⟩) (Or.inr (Or.inr (Or.inl ⟨rfl, Or.inr ⟨_, rfl⟩⟩))) (show decode cX11_init 68 = .ok (.putfield 53, 3) from dk_at dq32_17 (i := 1) rfl) rfl, ?_⟩
  refine List.forall_mem_cons.mpr ⟨ok_aload_n C (show decode cX11_init 71 = .ok (.aload_n 0, 1) from dk_at dq32_17 (i := 2) rfl) rfl rfl, ?_⟩
  refine List.forall_mem_cons.mpr ⟨ok_sipush C (show decode cX11_init 72 = .ok (.sipush 133, 3) from dk_at dq32_17 (i := 3) rfl) (by decide) rfl, ?_⟩
  refine List.forall_mem_cons.mpr ⟨ok_newa_int C kw_97 (show decode cX11_init 75 = .ok (.newarray .int, 2) from dk_at dq32_17 (i := 4) rfl) rfl, ?_⟩
  refine List.forall_mem_cons.mpr ⟨ok_putf C (wi_X11) tyX11 tyX11_ok nmX11 rfl (by decide) kw_1204 (Or.inr ⟨rfl, cx_name C, rfl⟩) (Or.inr (Or.inr (Or.inl ⟨rfl, Or.inr ⟨_, rfl⟩⟩))) (show decode cX11_init 77 = .ok (.putfield 56, 3) from dk_at dq32_17 (i := 5) rfl) rfl, ?_⟩
  refine List.forall_mem_cons.mpr ⟨ok_aload_n C (show decode cX11_init 80 = .ok (.aload_n 0, 1) from dk_at dq32_17 (i := 6) rfl) rfl rfl, ?_⟩
  refine List.forall_mem_cons.mpr ⟨ok_bipush C (show decode cX11_init 81 = .ok (.bipush 60, 2) from dk_at dq32_17 (i := 7) rfl) (by decide) rfl, ?_⟩
  refine List.forall_mem_cons.mpr ⟨ok_newa_int C kw_97 (show decode cX11_init 83 = .ok (.newarray .int, 2) from dk_at dq32_17 (i := 8) rfl) rfl, ?_⟩
  refine List.forall_mem_cons.mpr ⟨ok_putf C (wi_X11) tyX11 tyX11_ok nmX11 rfl (by decide) kw_1206 (Or.inr ⟨rfl, cx_name C, rfl⟩) (Or.inr (Or.inr (Or.inl ⟨rfl, Or.inr ⟨_, rfl⟩⟩))) (show decode cX11_init 85 = .ok (.putfield 59, 3) from dk_at dq32_17 (i := 9) rfl) rfl, ?_⟩
  refine List.forall_mem_cons.mpr ⟨ok_aload_n C (show decode cX11_init 88 = .ok (.aload_n 0, 1) from dk_at dq32_17 (i := 10) rfl) rfl rfl, ?_⟩
  refine List.forall_mem_cons.mpr ⟨ok_bipush C (show decode cX11_init 89 = .ok (.bipush 12, 2) from dk_at dq32_17 (i := 11) rfl) (by decide) rfl, ?_⟩
  refine List.forall_mem_cons.mpr ⟨ok_newa_int C kw_97 (show decode cX11_init 91 = .ok (.newarray .int, 2) from dk_at dq32_17 (i := 12) rfl) rfl, ?_⟩
  refine List.forall_mem_cons.mpr ⟨ok_putf C (wi_X11) tyX11 tyX11_ok nmX11 rfl (by decide) kw_1207 (Or.inr ⟨rfl, cx_name C, rfl⟩) (Or.inr (Or.inr (Or.inl ⟨rfl, Or.inr ⟨_, rfl⟩⟩))) (show decode cX11_init 93 = .ok (.putfield 62, 3) from dk_at dq32_17 (i := 13) rfl) rfl, ?_⟩
  refine List.forall_mem_cons.mpr ⟨ok_aload_n C (show decode cX11_init 96 = .ok (.aload_n 0, 1) from dk_at dq32_17 (i := 14) rfl) rfl rfl, ?_⟩
  refine List.forall_mem_cons.mpr ⟨ok_iconst C (show decode cX11_init 97 = .ok (.iconst (-1), 1) from dk_at dq32_17 (i := 15) rfl) (by decide) rfl, ?_⟩
  refine List.forall_mem_cons.mpr ⟨ok_putf C (wi_X11) tyX11 tyX11_ok nmX11 rfl (by decide) kw_1208 (Or.inl rfl) (Or.inl ⟨rfl, rfl⟩) (show decode cX11_init 98 = .ok (.putfield 65, 3) from dk_at dq32_18 (i := 0) rfl) rfl, ?_⟩
  refine List.forall_mem_cons.mpr ⟨ok_aload_n C (show decode cX11_init 101 = .ok (.aload_n 0, 1) from dk_at dq32_18 (i := 1) rfl) rfl rfl, ?_⟩
  refine List.forall_mem_cons.mpr ⟨ok_iconst C (show decode cX11_init 102 = .ok (.iconst 4, 1) from dk_at dq32_18 (i := 2) rfl) (by decide) rfl, ?_⟩
  refine List.forall_mem_cons.mpr ⟨ok_newa_int C kw_97 (show decode cX11_init 103 = .ok (.newarray .int, 2) from dk_at dq32_18 (i := 3) rfl) rfl, ?_⟩
  refine List.forall_mem_cons.mpr ⟨ok_putf C (wi_X11) tyX11 tyX11_ok nmX11 rfl (by decide) kw_1211 (Or.inr ⟨rfl, cx_name C, rfl⟩) (Or.inr (Or.inr (Or.inl ⟨rfl, Or.inr ⟨_, rfl⟩⟩))) (show decode cX11_init 105 = .ok (.putfield 68, 3) from dk_at dq32_18 (i := 4) rfl) rfl, ?_⟩
  refine List.forall_mem_cons.mpr ⟨ok_aload_n C (show decode cX11_init 108 = .ok (.aload_n 0, 1) from dk_at dq32_18 (i := 5) rfl) rfl rfl, ?_⟩
  refine List.forall_mem_cons.mpr ⟨ok_bipush C (show decode cX11_init 109 = .ok (.bipush 45, 2) from dk_at dq32_18 (i := 6) rfl) (by decide) rfl, ?_⟩
  refine List.forall_mem_cons.mpr ⟨ok_newa_int C kw_97 (show decode cX11_init 111 = .ok (.newarray .int, 2) from dk_at dq32_18 (i := 7) rfl) rfl, ?_⟩
  refine List.forall_mem_cons.mpr ⟨ok_putf C (wi_X11) tyX11 tyX11_ok nmX11 rfl (by decide) kw_1213 (Or.inr ⟨rfl, cx_name C, rfl⟩) (Or.inr (Or.inr (Or.inl ⟨rfl, Or.inr ⟨_, rfl⟩⟩))) (show decode cX11_init 113 = .ok (.putfield 71, 3) from dk_at dq32_18 (i := 8) rfl) rfl, ?_⟩
  refine List.forall_mem_cons.mpr ⟨ok_aload_n C (show decode cX11_init 116 = .ok (.aload_n 0, 1) from dk_at dq32_18 (i := 9) rfl) rfl rfl, ?_⟩
  refine List.forall_mem_cons.mpr ⟨ok_bipush C (show decode cX11_init 117 = .ok (.bipush 45, 2) from dk_at dq32_18 (i := 10) rfl) (by decide) rfl, ?_⟩
  refine List.forall_mem_cons.mpr ⟨ok_newa_boolean C kw_1310 (show decode cX11_init 119 = .ok (.newarray .boolean, 2) from dk_at dq32_18 (i := 11) rfl) rfl, ?_⟩
  refine List.forall_mem_cons.mpr ⟨ok_putf C (wi_X11) tyX11 tyX11_ok nmX11 rfl (by decide) kw_1219 (Or.inr ⟨rfl, cx_name C, rfl⟩) (Or.inr (Or.inr (Or.inl ⟨rfl, Or.inr ⟨_, rfl⟩⟩))) (show decode cX11_init 121 = .ok (.putfield 74, 3) from dk_at dq32_18 (i := 12) rfl) rfl, ?_⟩
  refine List.forall_mem_cons.mpr ⟨ok_aload_n C (show decode cX11_init 124 = .ok (.aload_n 0, 1) from dk_at dq32_18 (i := 13) rfl) rfl rfl, ?_⟩
  refine List.forall_mem_cons.mpr ⟨ok_sipush C (show decode cX11_init 125 = .ok (.sipush 868, 3) from dk_at dq32_18 (i := 14) rfl) (by decide) rfl, ?_⟩
  refine List.forall_mem_cons.mpr ⟨ok_newa_int C kw_97 (show decode cX11_init 128 = .ok (.newarray .int, 2) from dk_at dq32_18 (i := 15) rfl) rfl, ?_⟩
  refine List.forall_mem_cons.mpr ⟨ok_putf C (wi_X11) tyX11 tyX11_ok nmX11 rfl (by decide) kw_1220 (Or.inr ⟨rfl, cx_name C, rfl⟩) (Or.inr (Or.inr (Or.inl ⟨rfl, Or.inr ⟨_, rfl⟩⟩))) (show decode cX11_init 130 = .ok (.putfield 78, 3) from dk_at dq32_19 (i := 0) rfl) rfl, ?_⟩
  refine List.forall_mem_cons.mpr ⟨ok_aload_n C (show decode cX11_init 133 = .ok (.aload_n 0, 1) from dk_at dq32_19 (i := 1) rfl) rfl rfl, ?_⟩
  refine List.forall_mem_cons.mpr ⟨ok_bipush C (show decode cX11_init 134 = .ok (.bipush 28, 2) from dk_at dq32_19 (i := 2) rfl) (by decide) rfl, ?_⟩
  refine List.forall_mem_cons.mpr ⟨ok_newa_long C kw_98 (show decode cX11_init 136 = .ok (.newarray .long, 2) from dk_at dq32_19 (i := 3) rfl) rfl, ?_⟩
  refine List.forall_mem_cons.mpr ⟨ok_putf C (wi_X11) tyX11 tyX11_ok nmX11 rfl (by decide) kw_1221 (Or.inr ⟨rfl, cx_name C, rfl⟩) (Or.inr (Or.inr (Or.inl ⟨rfl, Or.inr ⟨_, rfl⟩⟩))) (show decode cX11_init 138 = .ok (.putfield 81, 3) from dk_at dq32_19 (i := 4) rfl) rfl, ?_⟩
  refine List.forall_mem_cons.mpr ⟨ok_aload_n C (show decode cX11_init 141 = .ok (.aload_n 0, 1) from dk_at dq32_19 (i := 5) rfl) rfl rfl, ?_⟩
  refine List.forall_mem_cons.mpr ⟨ok_iconst C (show decode cX11_init 142 = .ok (.iconst 2, 1) from dk_at dq32_19 (i := 6) rfl) (by decide) rfl, ?_⟩
  refine List.forall_mem_cons.mpr ⟨ok_newa_boolean C kw_1310 (show decode cX11_init 143 = .ok (.newarray .boolean, 2) from dk_at dq32_19 (i := 7) rfl) rfl, ?_⟩
  refine List.forall_mem_cons.mpr ⟨ok_putf C (wi_X11) tyX11 tyX11_ok nmX11 rfl (by decide) kw_1222 (Or.inr ⟨rfl, cx_name C, rfl⟩) (Or.inr (Or.inr (Or.inl ⟨rfl, Or.inr ⟨_, rfl⟩⟩))) (show decode cX11_init 145 = .ok (.putfield 84, 3) from dk_at dq32_19 (i := 8) rfl) rfl, ?_⟩
  refine List.forall_mem_cons.mpr ⟨ok_aload_n C (show decode cX11_init 148 = .ok (.aload_n 0, 1) from dk_at dq32_19 (i := 9) rfl) rfl rfl, ?_⟩
  refine List.forall_mem_cons.mpr ⟨ok_getf C (wi_X11) rfl (by decide) kw_1190 (show decode cX11_init 149 = .ok (.getfield 47, 3) from dk_at dq32_19 (i := 10) rfl) rfl, ?_⟩
  refine List.forall_mem_cons.mpr ⟨ok_iconst C (show decode cX11_init 152 = .ok (.iconst 0, 1) from dk_at dq32_19 (i := 11) rfl) (by decide) rfl, ?_⟩
  refine List.forall_mem_cons.mpr ⟨ok_ldc2 C (show decode cX11_init 153 = .ok (.ldc2_w 87, 3) from dk_at dq32_19 (i := 12) rfl) (gm kw_1155) rfl, ?_⟩
  refine List.forall_mem_cons.mpr ⟨ok_lastore C (show decode cX11_init 156 = .ok (.lastore, 1) from dk_at dq32_19 (i := 13) rfl) rfl, ?_⟩
  refine List.forall_mem_cons.mpr ⟨ok_aload_n C (show decode cX11_init 157 = .ok (.aload_n 0, 1) from dk_at dq32_19 (i := 14) rfl) rfl rfl, ?_⟩
  refine List.forall_mem_cons.mpr ⟨ok_getf C (wi_X11) rfl (by decide) kw_1190 (show decode cX11_init 158 = .ok (.getfield 47, 3) from dk_at dq32_19 (i := 15) rfl) rfl, ?_⟩
  refine List.forall_mem_cons.mpr ⟨ok_iconst C (show decode cX11_init 161 = .ok (.iconst 1, 1) from dk_at dq32_20 (i := 0) rfl) (by decide) rfl, ?_⟩
  refine List.forall_mem_cons.mpr ⟨ok_ldc2 C (show decode cX11_init 162 = .ok (.ldc2_w 89, 3) from dk_at dq32_20 (i := 1) rfl) (gm kw_1156) rfl, ?_⟩
  refine List.forall_mem_cons.mpr ⟨ok_lastore C (show decode cX11_init 165 = .ok (.lastore, 1) from dk_at dq32_20 (i := 2) rfl) rfl, ?_⟩
  refine List.forall_mem_cons.mpr ⟨ok_aload_n C (show decode cX11_init 166 = .ok (.aload_n 0, 1) from dk_at dq32_20 (i := 3) rfl) rfl rfl, ?_⟩
  refine List.forall_mem_cons.mpr ⟨ok_getf C (wi_X11) rfl (by decide) kw_1190 (show decode cX11_init 167 = .ok (.getfield 47, 3) from dk_at dq32_20 (i := 4) rfl) rfl, ?_⟩
  refine List.forall_mem_cons.mpr ⟨ok_iconst C (show decode cX11_init 170 = .ok (.iconst 2, 1) from dk_at dq32_20 (i := 5) rfl) (by decide) rfl, ?_⟩
  refine List.forall_mem_cons.mpr ⟨ok_ldc2 C (show decode cX11_init 171 = .ok (.ldc2_w 91, 3) from dk_at dq32_20 (i := 6) rfl) (gm kw_1157) rfl, ?_⟩
  refine List.forall_mem_cons.mpr ⟨ok_lastore C (show decode cX11_init 174 = .ok (.lastore, 1) from dk_at dq32_20 (i := 7) rfl) rfl, ?_⟩
  refine List.forall_mem_cons.mpr ⟨ok_aload_n C (show decode cX11_init 175 = .ok (.aload_n 0, 1) from dk_at dq32_20 (i := 8) rfl) rfl rfl, ?_⟩
  refine List.forall_mem_cons.mpr ⟨ok_getf C (wi_X11) rfl (by decide) kw_1190 (show decode cX11_init 176 = .ok (.getfield 47, 3) from dk_at dq32_20 (i := 9) rfl) rfl, ?_⟩
  refine List.forall_mem_cons.mpr ⟨ok_iconst C (show decode cX11_init 179 = .ok (.iconst 3, 1) from dk_at dq32_20 (i := 10) rfl) (by decide) rfl, ?_⟩
  refine List.forall_mem_cons.mpr ⟨ok_ldc2 C (show decode cX11_init 180 = .ok (.ldc2_w 93, 3) from dk_at dq32_20 (i := 11) rfl) (gm kw_1158) rfl, ?_⟩
  refine List.forall_mem_cons.mpr ⟨ok_lastore C (show decode cX11_init 183 = .ok (.lastore, 1) from dk_at dq32_20 (i := 12) rfl) rfl, ?_⟩
  refine List.forall_mem_cons.mpr ⟨ok_aload_n C (show decode cX11_init 184 = .ok (.aload_n 0, 1) from dk_at dq32_20 (i := 13) rfl) rfl rfl, ?_⟩
  refine List.forall_mem_cons.mpr ⟨ok_getf C (wi_X11) rfl (by decide) kw_1190 (show decode cX11_init 185 = .ok (.getfield 47, 3) from dk_at dq32_20 (i := 14) rfl) rfl, ?_⟩
  refine List.forall_mem_cons.mpr ⟨ok_iconst C (show decode cX11_init 188 = .ok (.iconst 4, 1) from dk_at dq32_20 (i := 15) rfl) (by decide) rfl, ?_⟩
  refine List.forall_mem_cons.mpr ⟨ok_ldc2 C (show decode cX11_init 189 = .ok (.ldc2_w 95, 3) from dk_at dq32_21 (i := 0) rfl) (gm kw_1159) rfl, ?_⟩
  refine List.forall_mem_cons.mpr ⟨ok_lastore C (show decode cX11_init 192 = .ok (.lastore, 1) from dk_at dq32_21 (i := 1) rfl) rfl, ?_⟩
  refine List.forall_mem_cons.mpr ⟨ok_aload_n C (show decode cX11_init 193 = .ok (.aload_n 0, 1) from dk_at dq32_21 (i := 2) rfl) rfl rfl, ?_⟩
  refine List.forall_mem_cons.mpr ⟨ok_getf C (wi_X11) rfl (by decide) kw_1190 (show decode cX11_init 194 = .ok (.getfield 47, 3) from dk_at dq32_21 (i := 3) rfl) rfl, ?_⟩
  refine List.forall_mem_cons.mpr ⟨ok_iconst C (show decode cX11_init 197 = .ok (.iconst 5, 1) from dk_at dq32_21 (i := 4) rfl) (by decide) rfl, ?_⟩
  refine List.forall_mem_cons.mpr ⟨ok_ldc2 C (show decode cX11_init 198 = .ok (.ldc2_w 97, 3) from dk_at dq32_21 (i := 5) rfl) (gm kw_1160) rfl, ?_⟩
  refine List.forall_mem_cons.mpr ⟨ok_lastore C (show decode cX11_init 201 = .ok (.lastore, 1) from dk_at dq32_21 (i := 6) rfl) rfl, ?_⟩
  refine List.forall_mem_cons.mpr ⟨ok_aload_n C (show decode cX11_init 202 = .ok (.aload_n 0, 1) from dk_at dq32_21 (i := 7) rfl) rfl rfl, ?_⟩
  refine List.forall_mem_cons.mpr ⟨ok_getf C (wi_X11) rfl (by decide) kw_1190 (show decode cX11_init 203 = .ok (.getfield 47, 3) from dk_at dq32_21 (i := 8) rfl) rfl, ?_⟩
  refine List.forall_mem_cons.mpr ⟨ok_bipush C (show decode cX11_init 206 = .ok (.bipush 6, 2) from dk_at dq32_21 (i := 9) rfl) (by decide) rfl, ?_⟩
  refine List.forall_mem_cons.mpr ⟨ok_ldc2 C (show decode cX11_init 208 = .ok (.ldc2_w 99, 3) from dk_at dq32_21 (i := 10) rfl) (gm kw_1161) rfl, ?_⟩
  refine List.forall_mem_cons.mpr ⟨ok_lastore C (show decode cX11_init 211 = .ok (.lastore, 1) from dk_at dq32_21 (i := 11) rfl) rfl, ?_⟩
  refine List.forall_mem_cons.mpr ⟨ok_aload_n C (show decode cX11_init 212 = .ok (.aload_n 0, 1) from dk_at dq32_21 (i := 12) rfl) rfl rfl, ?_⟩
  refine List.forall_mem_cons.mpr ⟨ok_getf C (wi_X11) rfl (by decide) kw_1190 (show decode cX11_init 213 = .ok (.getfield 47, 3) from dk_at dq32_21 (i := 13) rfl) rfl, ?_⟩
  refine List.forall_mem_cons.mpr ⟨ok_bipush C (show decode cX11_init 216 = .ok (.bipush 7, 2) from dk_at dq32_21 (i := 14) rfl) (by decide) rfl, ?_⟩
  refine List.forall_mem_cons.mpr ⟨ok_ldc2 C (show decode cX11_init 218 = .ok (.ldc2_w 101, 3) from dk_at dq32_21 (i := 15) rfl) (gm kw_1162) rfl, ?_⟩
  refine List.forall_mem_cons.mpr ⟨ok_lastore C (show decode cX11_init 221 = .ok (.lastore, 1) from dk_at dq32_22 (i := 0) rfl) rfl, ?_⟩
  refine List.forall_mem_cons.mpr ⟨ok_aload_n C (show decode cX11_init 222 = .ok (.aload_n 0, 1) from dk_at dq32_22 (i := 1) rfl) rfl rfl, ?_⟩
  refine List.forall_mem_cons.mpr ⟨ok_getf C (wi_X11) rfl (by decide) kw_1190 (show decode cX11_init 223 = .ok (.getfield 47, 3) from dk_at dq32_22 (i := 2) rfl) rfl, ?_⟩
  refine List.forall_mem_cons.mpr ⟨ok_bipush C (show decode cX11_init 226 = .ok (.bipush 8, 2) from dk_at dq32_22 (i := 3) rfl) (by decide) rfl, ?_⟩
  refine List.forall_mem_cons.mpr ⟨ok_ldc2 C (show decode cX11_init 228 = .ok (.ldc2_w 103, 3) from dk_at dq32_22 (i := 4) rfl) (gm kw_1163) rfl, ?_⟩
  refine List.forall_mem_cons.mpr ⟨ok_lastore C (show decode cX11_init 231 = .ok (.lastore, 1) from dk_at dq32_22 (i := 5) rfl) rfl, ?_⟩
  refine List.forall_mem_cons.mpr ⟨ok_aload_n C (show decode cX11_init 232 = .ok (.aload_n 0, 1) from dk_at dq32_22 (i := 6) rfl) rfl rfl, ?_⟩
  refine List.forall_mem_cons.mpr ⟨ok_getf C (wi_X11) rfl (by decide) kw_1190 (show decode cX11_init 233 = .ok (.getfield 47, 3) from dk_at dq32_22 (i := 7) rfl) rfl, ?_⟩
  refine List.forall_mem_cons.mpr ⟨ok_bipush C (show decode cX11_init 236 = .ok (.bipush 9, 2) from dk_at dq32_22 (i := 8) rfl) (by decide) rfl, ?_⟩
  refine List.forall_mem_cons.mpr ⟨ok_ldc2 C (show decode cX11_init 238 = .ok (.ldc2_w 105, 3) from dk_at dq32_22 (i := 9) rfl) (gm kw_1164) rfl, ?_⟩
  refine List.forall_mem_cons.mpr ⟨ok_lastore C (show decode cX11_init 241 = .ok (.lastore, 1) from dk_at dq32_22 (i := 10) rfl) rfl, ?_⟩
  refine List.forall_mem_cons.mpr ⟨ok_aload_n C (show decode cX11_init 242 = .ok (.aload_n 0, 1) from dk_at dq32_22 (i := 11) rfl) rfl rfl, ?_⟩
  refine List.forall_mem_cons.mpr ⟨ok_getf C (wi_X11) rfl (by decide) kw_1190 (show decode cX11_init 243 = .ok (.getfield 47, 3) from dk_at dq32_22 (i := 12) rfl) rfl, ?_⟩
  refine List.forall_mem_cons.mpr ⟨ok_bipush C (show decode cX11_init 246 = .ok (.bipush 10, 2) from dk_at dq32_22 (i := 13) rfl) (by decide) rfl, ?_⟩
  refine List.forall_mem_cons.mpr ⟨ok_ldc2 C (show decode cX11_init 248 = .ok (.ldc2_w 107, 3) from dk_at dq32_22 (i := 14) rfl) (gm kw_1165) rfl, ?_⟩
  refine List.forall_mem_cons.mpr ⟨ok_lastore C (show decode cX11_init 251 = .ok (.lastore, 1) from dk_at dq32_22 (i := 15) rfl) rfl, ?_⟩
  refine List.forall_mem_cons.mpr ⟨ok_aload_n C (show decode cX11_init 252 = .ok (.aload_n 0, 1) from dk_at dq32_23 (i := 0) rfl) rfl rfl, ?_⟩
  refine List.forall_mem_cons.mpr ⟨ok_getf C (wi_X11) rfl (by decide) kw_1190 (show decode cX11_init 253 = .ok (.getfield 47, 3) from dk_at dq32_23 (i := 1) rfl) rfl, ?_⟩
  refine List.forall_mem_cons.mpr ⟨ok_bipush C (show decode cX11_init 256 = .ok (.bipush 11, 2) from dk_at dq32_23 (i := 2) rfl) (by decide) rfl, ?_⟩
  refine List.forall_mem_cons.mpr ⟨ok_ldc2 C (show decode cX11_init 258 = .ok (.ldc2_w 109, 3) from dk_at dq32_23 (i := 3) rfl) (gm kw_1166) rfl, ?_⟩
  refine List.forall_mem_cons.mpr ⟨ok_lastore C (show decode cX11_init 261 = .ok (.lastore, 1) from dk_at dq32_23 (i := 4) rfl) rfl, ?_⟩
  refine List.forall_mem_cons.mpr ⟨ok_aload_n C (show decode cX11_init 262 = .ok (.aload_n 0, 1) from dk_at dq32_23 (i := 5) rfl) rfl rfl, ?_⟩
  refine List.forall_mem_cons.mpr ⟨ok_getf C (wi_X11) rfl (by decide) kw_1190 (show decode cX11_init 263 = .ok (.getfield 47, 3) from dk_at dq32_23 (i := 6) rfl) rfl, ?_⟩
  refine List.forall_mem_cons.mpr ⟨ok_bipush C (show decode cX11_init 266 = .ok (.bipush 12, 2) from dk_at dq32_23 (i := 7) rfl) (by decide) rfl, ?_⟩
  refine List.forall_mem_cons.mpr ⟨ok_ldc2 C (show decode cX11_init 268 = .ok (.ldc2_w 111, 3) from dk_at dq32_23 (i := 8) rfl) (gm kw_1167) rfl, ?_⟩
  refine List.forall_mem_cons.mpr ⟨ok_lastore C (show decode cX11_init 271 = .ok (.lastore, 1) from dk_at dq32_23 (i := 9) rfl) rfl, ?_⟩
  refine List.forall_mem_cons.mpr ⟨ok_aload_n C (show decode cX11_init 272 = .ok (.aload_n 0, 1) from dk_at dq32_23 (i := 10) rfl) rfl rfl, ?_⟩
  refine List.forall_mem_cons.mpr ⟨ok_getf C (wi_X11) rfl (by decide) kw_1190 (show decode cX11_init 273 = .ok (.getfield 47, 3) from dk_at dq32_23 (i := 11) rfl) rfl, ?_⟩
  refine List.forall_mem_cons.mpr ⟨ok_bipush C (show decode cX11_init 276 = .ok (.bipush 13, 2) from dk_at dq32_23 (i := 12) rfl) (by decide) rfl, ?_⟩
  refine List.forall_mem_cons.mpr ⟨ok_ldc2 C (show decode cX11_init 278 = .ok (.ldc2_w 113, 3) from dk_at dq32_23 (i := 13) rfl) (gm kw_1168) rfl, ?_⟩
  refine List.forall_mem_cons.mpr ⟨ok_lastore C (show decode cX11_init 281 = .ok (.lastore, 1) from dk_at dq32_23 (i := 14) rfl) rfl, ?_⟩
  refine List.forall_mem_cons.mpr ⟨ok_aload_n C (show decode cX11_init 282 = .ok (.aload_n 0, 1) from dk_at dq32_23 (i := 15) rfl) rfl rfl, ?_⟩
  refine List.forall_mem_cons.mpr ⟨ok_getf C (wi_X11) rfl (by decide) kw_1190 (show decode cX11_init 283 = .ok (.getfield 47, 3) from dk_at dq32_24 (i := 0) rfl) rfl, ?_⟩
  refine List.forall_mem_cons.mpr ⟨ok_bipush C (show decode cX11_init 286 = .ok (.bipush 14, 2) from dk_at dq32_24 (i := 1) rfl) (by decide) rfl, ?_⟩
  refine List.forall_mem_cons.mpr ⟨ok_ldc2 C (show decode cX11_init 288 = .ok (.ldc2_w 115, 3) from dk_at dq32_24 (i := 2) rfl) (gm kw_1169) rfl, ?_⟩
  refine List.forall_mem_cons.mpr ⟨ok_lastore C (show decode cX11_init 291 = .ok (.lastore, 1) from dk_at dq32_24 (i := 3) rfl) rfl, ?_⟩
  refine List.forall_mem_cons.mpr ⟨ok_aload_n C (show decode cX11_init 292 = .ok (.aload_n 0, 1) from dk_at dq32_24 (i := 4) rfl) rfl rfl, ?_⟩
  refine List.forall_mem_cons.mpr ⟨ok_getf C (wi_X11) rfl (by decide) kw_1190 (show decode cX11_init 293 = .ok (.getfield 47, 3) from dk_at dq32_24 (i := 5) rfl) rfl, ?_⟩
  refine List.forall_mem_cons.mpr ⟨ok_bipush C (show decode cX11_init 296 = .ok (.bipush 15, 2) from dk_at dq32_24 (i := 6) rfl) (by decide) rfl, ?_⟩
  refine List.forall_mem_cons.mpr ⟨ok_ldc2 C (show decode cX11_init 298 = .ok (.ldc2_w 117, 3) from dk_at dq32_24 (i := 7) rfl) (gm kw_1170) rfl, ?_⟩
  refine List.forall_mem_cons.mpr ⟨ok_lastore C (show decode cX11_init 301 = .ok (.lastore, 1) from dk_at dq32_24 (i := 8) rfl) rfl, ?_⟩
  refine List.forall_mem_cons.mpr ⟨ok_aload_n C (show decode cX11_init 302 = .ok (.aload_n 0, 1) from dk_at dq32_24 (i := 9) rfl) rfl rfl, ?_⟩
  refine List.forall_mem_cons.mpr ⟨ok_getf C (wi_X11) rfl (by decide) kw_1190 (show decode cX11_init 303 = .ok (.getfield 47, 3) from dk_at dq32_24 (i := 10) rfl) rfl, ?_⟩
  refine List.forall_mem_cons.mpr ⟨ok_bipush C (show decode cX11_init 306 = .ok (.bipush 16, 2) from dk_at dq32_24 (i := 11) rfl) (by decide) rfl, ?_⟩
  refine List.forall_mem_cons.mpr ⟨ok_ldc2 C (show decode cX11_init 308 = .ok (.ldc2_w 119, 3) from dk_at dq32_24 (i := 12) rfl) (gm kw_1171) rfl, ?_⟩
  refine List.forall_mem_cons.mpr ⟨ok_lastore C (show decode cX11_init 311 = .ok (.lastore, 1) from dk_at dq32_24 (i := 13) rfl) rfl, ?_⟩
  refine List.forall_mem_cons.mpr ⟨ok_aload_n C (show decode cX11_init 312 = .ok (.aload_n 0, 1) from dk_at dq32_24 (i := 14) rfl) rfl rfl, ?_⟩
  refine List.forall_mem_cons.mpr ⟨ok_getf C (wi_X11) rfl (by decide) kw_1190 (show decode cX11_init 313 = .ok (.getfield 47, 3) from dk_at dq32_24 (i := 15) rfl) rfl, ?_⟩
  refine List.forall_mem_cons.mpr ⟨ok_bipush C (show decode cX11_init 316 = .ok (.bipush 17, 2) from dk_at dq32_25 (i := 0) rfl) (by decide) rfl, ?_⟩
  refine List.forall_mem_cons.mpr ⟨ok_ldc2 C (show decode cX11_init 318 = .ok (.ldc2_w 121, 3) from dk_at dq32_25 (i := 1) rfl) (gm kw_1172) rfl, ?_⟩
  refine List.forall_mem_cons.mpr ⟨ok_lastore C (show decode cX11_init 321 = .ok (.lastore, 1) from dk_at dq32_25 (i := 2) rfl) rfl, ?_⟩
  refine List.forall_mem_cons.mpr ⟨ok_aload_n C (show decode cX11_init 322 = .ok (.aload_n 0, 1) from dk_at dq32_25 (i := 3) rfl) rfl rfl, ?_⟩
  refine List.forall_mem_cons.mpr ⟨ok_getf C (wi_X11) rfl (by decide) kw_1190 (show decode cX11_init 323 = .ok (.getfield 47, 3) from dk_at dq32_25 (i := 4) rfl) rfl, ?_⟩
  refine List.forall_mem_cons.mpr ⟨ok_bipush C (show decode cX11_init 326 = .ok (.bipush 18, 2) from dk_at dq32_25 (i := 5) rfl) (by decide) rfl, ?_⟩
  refine List.forall_mem_cons.mpr ⟨ok_ldc2 C (show decode cX11_init 328 = .ok (.ldc2_w 123, 3) from dk_at dq32_25 (i := 6) rfl) (gm kw_1173) rfl, ?_⟩
  refine List.forall_mem_cons.mpr ⟨ok_lastore C (show decode cX11_init 331 = .ok (.lastore, 1) from dk_at dq32_25 (i := 7) rfl) rfl, ?_⟩
  refine List.forall_mem_cons.mpr ⟨ok_aload_n C (show decode cX11_init 332 = .ok (.aload_n 0, 1) from dk_at dq32_25 (i := 8) rfl) rfl rfl, ?_⟩
  refine List.forall_mem_cons.mpr ⟨ok_getf C (wi_X11) rfl (by decide) kw_1190 (show decode cX11_init 333 = .ok (.getfield 47, 3) from dk_at dq32_25 (i := 9) rfl) rfl, ?_⟩
  refine List.forall_mem_cons.mpr ⟨ok_bipush C (show decode cX11_init 336 = .ok (.bipush 19, 2) from dk_at dq32_25 (i := 10) rfl) (by decide) rfl, ?_⟩
  refine List.forall_mem_cons.mpr ⟨ok_ldc2 C (show decode cX11_init 338 = .ok (.ldc2_w 125, 3) from dk_at dq32_25 (i := 11) rfl) (gm kw_1174) rfl, ?_⟩
  refine List.forall_mem_cons.mpr ⟨ok_lastore C (show decode cX11_init 341 = .ok (.lastore, 1) from dk_at dq32_25 (i := 12) rfl) rfl, ?_⟩
  refine List.forall_mem_cons.mpr ⟨ok_aload_n C (show decode cX11_init 342 = .ok (.aload_n 0, 1) from dk_at dq32_25 (i := 13) rfl) rfl rfl, ?_⟩
  refine List.forall_mem_cons.mpr ⟨ok_getf C (wi_X11) rfl (by decide) kw_1190 (show decode cX11_init 343 = .ok (.getfield 47, 3) from dk_at dq32_25 (i := 14) rfl) rfl, ?_⟩
  refine List.forall_mem_cons.mpr ⟨ok_bipush C (show decode cX11_init 346 = .ok (.bipush 20, 2) from dk_at dq32_25 (i := 15) rfl) (by decide) rfl, ?_⟩
  refine List.forall_mem_cons.mpr ⟨ok_ldc2 C (show decode cX11_init 348 = .ok (.ldc2_w 127, 3) from dk_at dq32_26 (i := 0) rfl) (gm kw_1175) rfl, ?_⟩
  refine List.forall_mem_cons.mpr ⟨ok_lastore C (show decode cX11_init 351 = .ok (.lastore, 1) from dk_at dq32_26 (i := 1) rfl) rfl, ?_⟩
  refine List.forall_mem_cons.mpr ⟨ok_aload_n C (show decode cX11_init 352 = .ok (.aload_n 0, 1) from dk_at dq32_26 (i := 2) rfl) rfl rfl, ?_⟩
  refine List.forall_mem_cons.mpr ⟨ok_getf C (wi_X11) rfl (by decide) kw_1190 (show decode cX11_init 353 = .ok (.getfield 47, 3) from dk_at dq32_26 (i := 3) rfl) rfl, ?_⟩
  refine List.forall_mem_cons.mpr ⟨ok_bipush C (show decode cX11_init 356 = .ok (.bipush 21, 2) from dk_at dq32_26 (i := 4) rfl) (by decide) rfl, ?_⟩
  refine List.forall_mem_cons.mpr ⟨ok_ldc2 C (show decode cX11_init 358 = .ok (.ldc2_w 129, 3) from dk_at dq32_26 (i := 5) rfl) (gm kw_1176) rfl, ?_⟩
  refine List.forall_mem_cons.mpr ⟨ok_lastore C (show decode cX11_init 361 = .ok (.lastore, 1) from dk_at dq32_26 (i := 6) rfl) rfl, ?_⟩
  refine List.forall_mem_cons.mpr ⟨ok_aload_n C (show decode cX11_init 362 = .ok (.aload_n 0, 1) from dk_at dq32_26 (i := 7) rfl) rfl rfl, ?_⟩
  refine List.forall_mem_cons.mpr ⟨ok_getf C (wi_X11) rfl (by decide) kw_1190 (show decode cX11_init 363 = .ok (.getfield 47, 3) from dk_at dq32_26 (i := 8) rfl) rfl, ?_⟩
  refine List.forall_mem_cons.mpr ⟨ok_bipush C (show decode cX11_init 366 = .ok (.bipush 22, 2) from dk_at dq32_26 (i := 9) rfl) (by decide) rfl, ?_⟩
  refine List.forall_mem_cons.mpr ⟨ok_ldc2 C (show decode cX11_init 368 = .ok (.ldc2_w 131, 3) from dk_at dq32_26 (i := 10) rfl) (gm kw_1177) rfl, ?_⟩
  refine List.forall_mem_cons.mpr ⟨ok_lastore C (show decode cX11_init 371 = .ok (.lastore, 1) from dk_at dq32_26 (i := 11) rfl) rfl, ?_⟩
  refine List.forall_mem_cons.mpr ⟨ok_aload_n C (show decode cX11_init 372 = .ok (.aload_n 0, 1) from dk_at dq32_26 (i := 12) rfl) rfl rfl, ?_⟩
  refine List.forall_mem_cons.mpr ⟨ok_getf C (wi_X11) rfl (by decide) kw_1190 (show decode cX11_init 373 = .ok (.getfield 47, 3) from dk_at dq32_26 (i := 13) rfl) rfl, ?_⟩
  refine List.forall_mem_cons.mpr ⟨ok_bipush C (show decode cX11_init 376 = .ok (.bipush 23, 2) from dk_at dq32_26 (i := 14) rfl) (by decide) rfl, ?_⟩
  refine List.forall_mem_cons.mpr ⟨ok_ldc2 C (show decode cX11_init 378 = .ok (.ldc2_w 133, 3) from dk_at dq32_26 (i := 15) rfl) (gm kw_1178) rfl, ?_⟩
  refine List.forall_mem_cons.mpr ⟨ok_lastore C (show decode cX11_init 381 = .ok (.lastore, 1) from dk_at dq32_27 (i := 0) rfl) rfl, ?_⟩
  refine List.forall_mem_cons.mpr ⟨ok_aload_n C (show decode cX11_init 382 = .ok (.aload_n 0, 1) from dk_at dq32_27 (i := 1) rfl) rfl rfl, ?_⟩
  refine List.forall_mem_cons.mpr ⟨ok_getf C (wi_X11) rfl (by decide) kw_1190 (show decode cX11_init 383 = .ok (.getfield 47, 3) from dk_at dq32_27 (i := 2) rfl) rfl, ?_⟩
  refine List.forall_mem_cons.mpr ⟨ok_bipush C (show decode cX11_init 386 = .ok (.bipush 24, 2) from dk_at dq32_27 (i := 3) rfl) (by decide) rfl, ?_⟩
  refine List.forall_mem_cons.mpr ⟨ok_ldc2 C (show decode cX11_init 388 = .ok (.ldc2_w 135, 3) from dk_at dq32_27 (i := 4) rfl) (gm kw_1179) rfl, ?_⟩
  refine List.forall_mem_cons.mpr ⟨ok_lastore C (show decode cX11_init 391 = .ok (.lastore, 1) from dk_at dq32_27 (i := 5) rfl) rfl, ?_⟩
  refine List.forall_mem_cons.mpr ⟨ok_aload_n C (show decode cX11_init 392 = .ok (.aload_n 0, 1) from dk_at dq32_27 (i := 6) rfl) rfl rfl, ?_⟩
  refine List.forall_mem_cons.mpr ⟨ok_getf C (wi_X11) rfl (by decide) kw_1186 (show decode cX11_init 393 = .ok (.getfield 33, 3) from dk_at dq32_27 (i := 7) rfl) rfl, ?_⟩
  refine List.forall_mem_cons.mpr ⟨ok_iconst C (show decode cX11_init 396 = .ok (.iconst 2, 1) from dk_at dq32_27 (i := 8) rfl) (by decide) rfl, ?_⟩
  refine List.forall_mem_cons.mpr ⟨ok_bipush C (show decode cX11_init 397 = .ok (.bipush 10, 2) from dk_at dq32_27 (i := 9) rfl) (by decide) rfl, ?_⟩
  refine List.forall_mem_cons.mpr ⟨ok_iastore C (show decode cX11_init 399 = .ok (.iastore, 1) from dk_at dq32_27 (i := 10) rfl) rfl, ?_⟩
  refine List.forall_mem_cons.mpr ⟨ok_vret C rfl (show decode cX11_init 400 = .ok (.return_, 1) from dk_at dq32_27 (i := 11) rfl), ?_⟩
  exact fun _ h => absurd h List.not_mem_nil
def L_X11_peek : List (Nat × ab_A) := [
  (0, ab_nx 1 (ab_aload 0)),
  (1, ab_nx 4 (ab_getf 11 4)),
  (4, ab_nx 5 (ab_aload 0)),
  (5, ab_nx 8 (ab_getf 11 3)),
  (8, ab_icmp 11 27 (fun x y => decide (y ≤ x))),
  (11, ab_nx 12 (ab_aload 0)),
  (12, ab_nx 15 (ab_getf 11 1)),
  (15, ab_nx 16 (ab_aload 0)),
  (16, ab_nx 19 (ab_getf 11 4)),
  (19, ab_nx 20 (ab_ald 0)),
  (20, ab_nx 23 (ab_lit (.int 255))),
  (23, ab_nx 24 (ab_bin (fun x y => x &&& y))),
  (24, ab_goto 28),
  (27, ab_nx 28 (ab_lit (.int (-1)))),
  (28, ab_ret 0 0)]
set_option maxRecDepth 100000 in
theorem dq32_28 : ([(0, .aload_n 0, 1), (1, .getfield 21, 3), (4, .aload_n 0, 1), (5, .getfield 18, 3), (8, .if_icmp .ge 19, 3), (11, .aload_n 0, 1), (12, .getfield 14, 3), (15, .aload_n 0, 1), (16, .getfield 21, 3), (19, .baload, 1), (20, .sipush 255, 3), (23, .iand, 1), (24, .goto 4, 3), (27, .iconst (-1), 1), (28, .ireturn, 1)] : List (Nat × Instr × Nat)).all (fun q => decide (decode cX11_peek q.1 = .ok q.2)) = true := by decide +kernel
set_option maxRecDepth 100000 in
set_option maxHeartbeats 4000000 in
theorem M_X11_peek {l : Launch} {b : ab_B} {D : va_G} {cA : Nat → ClassId} : ab_M l b D ab_cl cA (ab_E0 b) yX11_peek (Cond.code yX11_peek cX11_peek 1 (some .int) :: ab_G) ({ frames := 1, cells := 0, slots := 0, locals := 100 } : Room) (ab_X (ab_T L_X11_peek) 1) := by
  refine ab_meth (ret := (some .int)) L_X11_peek (by decide) rfl fun p e R s m args below meth c o C => ?_
  unfold L_X11_peek
  refine List.forall_mem_cons.mpr ⟨ok_aload_n C (show decode cX11_peek 0 = .ok (.aload_n 0, 1) from dk_at dq32_28 (i := 0) rfl) rfl rfl, ?_⟩
  refine List.forall_mem_cons.mpr ⟨ok_getf C (wi_X11) rfl (by decide) kw_1184 (show decode cX11_peek 1 = .ok (.getfield 21, 3) from dk_at dq32_28 (i := 1) rfl) rfl, ?_⟩
  refine List.forall_mem_cons.mpr ⟨ok_aload_n C (show decode cX11_peek 4 = .ok (.aload_n 0, 1) from dk_at dq32_28 (i := 2) rfl) rfl rfl, ?_⟩
  refine List.forall_mem_cons.mpr ⟨ok_getf C (wi_X11) rfl (by decide) kw_1183 (show decode cX11_peek 5 = .ok (.getfield 18, 3) from dk_at dq32_28 (i := 3) rfl) rfl, ?_⟩
  refine List.forall_mem_cons.mpr ⟨ok_icmpge C (show decode cX11_peek 8 = .ok (.if_icmp .ge 19, 3) from dk_at dq32_28 (i := 4) rfl) (tg := 27) (by decide) rfl rfl, ?_⟩
  refine List.forall_mem_cons.mpr ⟨ok_aload_n C (show decode cX11_peek 11 = .ok (.aload_n 0, 1) from dk_at dq32_28 (i := 5) rfl) rfl rfl, ?_⟩
  refine List.forall_mem_cons.mpr ⟨ok_getf C (wi_X11) rfl (by decide) kw_1181 (show decode cX11_peek 12 = .ok (.getfield 14, 3) from dk_at dq32_28 (i := 6) rfl) rfl, ?_⟩
  refine List.forall_mem_cons.mpr ⟨ok_aload_n C (show decode cX11_peek 15 = .ok (.aload_n 0, 1) from dk_at dq32_28 (i := 7) rfl) rfl rfl, ?_⟩
  refine List.forall_mem_cons.mpr ⟨ok_getf C (wi_X11) rfl (by decide) kw_1184 (show decode cX11_peek 16 = .ok (.getfield 21, 3) from dk_at dq32_28 (i := 8) rfl) rfl, ?_⟩
  refine List.forall_mem_cons.mpr ⟨ok_baload C (show decode cX11_peek 19 = .ok (.baload, 1) from dk_at dq32_28 (i := 9) rfl) rfl, ?_⟩
  refine List.forall_mem_cons.mpr ⟨ok_sipush C (show decode cX11_peek 20 = .ok (.sipush 255, 3) from dk_at dq32_28 (i := 10) rfl) (by decide) rfl, ?_⟩
  refine List.forall_mem_cons.mpr ⟨ok_iand C (show decode cX11_peek 23 = .ok (.iand, 1) from dk_at dq32_28 (i := 11) rfl) rfl, ?_⟩
  refine List.forall_mem_cons.mpr ⟨ok_goto C (show decode cX11_peek 24 = .ok (.goto 4, 3) from dk_at dq32_28 (i := 12) rfl) (tg := 28) (by decide) rfl, ?_⟩
  refine List.forall_mem_cons.mpr ⟨ok_iconst C (show decode cX11_peek 27 = .ok (.iconst (-1), 1) from dk_at dq32_28 (i := 13) rfl) (by decide) rfl, ?_⟩
  refine List.forall_mem_cons.mpr ⟨ok_ret C rfl (show decode cX11_peek 28 = .ok (.ireturn, 1) from dk_at dq32_28 (i := 14) rfl), ?_⟩
  exact fun _ h => absurd h List.not_mem_nil
def L_X11_isSmall : List (Nat × ab_A) := [
  (0, ab_nx 1 (ab_iload 0)),
  (1, ab_nx 3 (ab_lit (.int 97))),
  (3, ab_icmp 6 16 (fun x y => decide (x < y))),
  (6, ab_nx 7 (ab_iload 0)),
  (7, ab_nx 9 (ab_lit (.int 122))),
  (9, ab_icmp 12 16 (fun x y => decide (y < x))),
  (12, ab_nx 13 (ab_lit (.int 1))),
  (13, ab_goto 17),
  (16, ab_nx 17 (ab_lit (.int 0))),
  (17, ab_zret 0 0)]
set_option maxRecDepth 100000 in
theorem dq32_29 : ([(0, .iload_n 0, 1), (1, .bipush 97, 2), (3, .if_icmp .lt 13, 3), (6, .iload_n 0, 1), (7, .bipush 122, 2), (9, .if_icmp .gt 7, 3), (12, .iconst 1, 1), (13, .goto 4, 3), (16, .iconst 0, 1), (17, .ireturn, 1)] : List (Nat × Instr × Nat)).all (fun q => decide (decode cX11_isSmall q.1 = .ok q.2)) = true := by decide +kernel
set_option maxRecDepth 100000 in
set_option maxHeartbeats 4000000 in
theorem M_X11_isSmall {l : Launch} {b : ab_B} {D : va_G} {cA : Nat → ClassId} : ab_M l b D ab_cl cA (ab_E0 b) yX11_isSmall (Cond.code yX11_isSmall cX11_isSmall 1 (some .boolean) :: ab_G) ({ frames := 1, cells := 0, slots := 0, locals := 100 } : Room) (ab_X (ab_T L_X11_isSmall) 1) := by
  refine ab_meth (ret := (some .boolean)) L_X11_isSmall (by decide) rfl fun p e R s m args below meth c o C => ?_
  unfold L_X11_isSmall
  refine List.forall_mem_cons.mpr ⟨ok_iload_n C (show decode cX11_isSmall 0 = .ok (.iload_n 0, 1) from dk_at dq32_29 (i := 0) rfl) rfl rfl, ?_⟩
  refine List.forall_mem_cons.mpr ⟨ok_bipush C (show decode cX11_isSmall 1 = .ok (.bipush 97, 2) from dk_at dq32_29 (i := 1) rfl) (by decide) rfl, ?_⟩
  refine List.forall_mem_cons.mpr ⟨ok_icmplt C (show decode cX11_isSmall 3 = .ok (.if_icmp .lt 13, 3) from dk_at dq32_29 (i := 2) rfl) (tg := 16) (by decide) rfl rfl, ?_⟩
  refine List.forall_mem_cons.mpr ⟨ok_iload_n C (show decode cX11_isSmall 6 = .ok (.iload_n 0, 1) from dk_at dq32_29 (i := 3) rfl) rfl rfl, ?_⟩
  refine List.forall_mem_cons.mpr ⟨ok_bipush C (show decode cX11_isSmall 7 = .ok (.bipush 122, 2) from dk_at dq32_29 (i := 4) rfl) (by decide) rfl, ?_⟩
  refine List.forall_mem_cons.mpr ⟨ok_icmpgt C (show decode cX11_isSmall 9 = .ok (.if_icmp .gt 7, 3) from dk_at dq32_29 (i := 5) rfl) (tg := 16) (by decide) rfl rfl, ?_⟩
  refine List.forall_mem_cons.mpr ⟨ok_iconst C (show decode cX11_isSmall 12 = .ok (.iconst 1, 1) from dk_at dq32_29 (i := 6) rfl) (by decide) rfl, ?_⟩
  refine List.forall_mem_cons.mpr ⟨ok_goto C (show decode cX11_isSmall 13 = .ok (.goto 4, 3) from dk_at dq32_29 (i := 7) rfl) (tg := 17) (by decide) rfl, ?_⟩
  refine List.forall_mem_cons.mpr ⟨ok_iconst C (show decode cX11_isSmall 16 = .ok (.iconst 0, 1) from dk_at dq32_29 (i := 8) rfl) (by decide) rfl, ?_⟩
  refine List.forall_mem_cons.mpr ⟨ok_zret C rfl (show decode cX11_isSmall 17 = .ok (.ireturn, 1) from dk_at dq32_29 (i := 9) rfl), ?_⟩
  exact fun _ h => absurd h List.not_mem_nil
def L_X11_isDigit : List (Nat × ab_A) := [
  (0, ab_nx 1 (ab_iload 0)),
  (1, ab_nx 3 (ab_lit (.int 48))),
  (3, ab_icmp 6 16 (fun x y => decide (x < y))),
  (6, ab_nx 7 (ab_iload 0)),
  (7, ab_nx 9 (ab_lit (.int 57))),
  (9, ab_icmp 12 16 (fun x y => decide (y < x))),
  (12, ab_nx 13 (ab_lit (.int 1))),
  (13, ab_goto 17),
  (16, ab_nx 17 (ab_lit (.int 0))),
  (17, ab_zret 0 0)]
set_option maxRecDepth 100000 in
theorem dq32_30 : ([(0, .iload_n 0, 1), (1, .bipush 48, 2), (3, .if_icmp .lt 13, 3), (6, .iload_n 0, 1), (7, .bipush 57, 2), (9, .if_icmp .gt 7, 3), (12, .iconst 1, 1), (13, .goto 4, 3), (16, .iconst 0, 1), (17, .ireturn, 1)] : List (Nat × Instr × Nat)).all (fun q => decide (decode cX11_isDigit q.1 = .ok q.2)) = true := by decide +kernel
set_option maxRecDepth 100000 in
set_option maxHeartbeats 4000000 in
theorem M_X11_isDigit {l : Launch} {b : ab_B} {D : va_G} {cA : Nat → ClassId} : ab_M l b D ab_cl cA (ab_E0 b) yX11_isDigit (Cond.code yX11_isDigit cX11_isDigit 1 (some .boolean) :: ab_G) ({ frames := 1, cells := 0, slots := 0, locals := 100 } : Room) (ab_X (ab_T L_X11_isDigit) 1) := by
  refine ab_meth (ret := (some .boolean)) L_X11_isDigit (by decide) rfl fun p e R s m args below meth c o C => ?_
  unfold L_X11_isDigit
  refine List.forall_mem_cons.mpr ⟨ok_iload_n C (show decode cX11_isDigit 0 = .ok (.iload_n 0, 1) from dk_at dq32_30 (i := 0) rfl) rfl rfl, ?_⟩
  refine List.forall_mem_cons.mpr ⟨ok_bipush C (show decode cX11_isDigit 1 = .ok (.bipush 48, 2) from dk_at dq32_30 (i := 1) rfl) (by decide) rfl, ?_⟩
  refine List.forall_mem_cons.mpr ⟨ok_icmplt C (show decode cX11_isDigit 3 = .ok (.if_icmp .lt 13, 3) from dk_at dq32_30 (i := 2) rfl) (tg := 16) (by decide) rfl rfl, ?_⟩
  refine List.forall_mem_cons.mpr ⟨ok_iload_n C (show decode cX11_isDigit 6 = .ok (.iload_n 0, 1) from dk_at dq32_30 (i := 3) rfl) rfl rfl, ?_⟩
  refine List.forall_mem_cons.mpr ⟨ok_bipush C (show decode cX11_isDigit 7 = .ok (.bipush 57, 2) from dk_at dq32_30 (i := 4) rfl) (by decide) rfl, ?_⟩
  refine List.forall_mem_cons.mpr ⟨ok_icmpgt C (show decode cX11_isDigit 9 = .ok (.if_icmp .gt 7, 3) from dk_at dq32_30 (i := 5) rfl) (tg := 16) (by decide) rfl rfl, ?_⟩
  refine List.forall_mem_cons.mpr ⟨ok_iconst C (show decode cX11_isDigit 12 = .ok (.iconst 1, 1) from dk_at dq32_30 (i := 6) rfl) (by decide) rfl, ?_⟩
  refine List.forall_mem_cons.mpr ⟨ok_goto C (show decode cX11_isDigit 13 = .ok (.goto 4, 3) from dk_at dq32_30 (i := 7) rfl) (tg := 17) (by decide) rfl, ?_⟩
  refine List.forall_mem_cons.mpr ⟨ok_iconst C (show decode cX11_isDigit 16 = .ok (.iconst 0, 1) from dk_at dq32_30 (i := 8) rfl) (by decide) rfl, ?_⟩
  refine List.forall_mem_cons.mpr ⟨ok_zret C rfl (show decode cX11_isDigit 17 = .ok (.ireturn, 1) from dk_at dq32_30 (i := 9) rfl), ?_⟩
  exact fun _ h => absurd h List.not_mem_nil
end
-- 33.m13.lean.txt
section
def L_X11_next (f_X11_peek : List Value → ab_H → Option ab_O) (f_X11_isSmall : List Value → ab_H → Option ab_O) (f_X11_isDigit : List Value → ab_H → Option ab_O) : List (Nat × ab_A) := [
  (0, ab_nx 1 (ab_aload 0)),
  (1, ab_nx 4 (ab_callV 1 11 f_X11_peek 0 0 0 0)),
  (4, ab_nx 6 (ab_lit (.int 32))),
  (6, ab_icmp 9 18 (fun x y => decide (x = y))),
  (9, ab_nx 10 (ab_aload 0)),
  (10, ab_nx 13 (ab_callV 1 11 f_X11_peek 0 0 0 0)),
  (13, ab_nx 15 (ab_lit (.int 10))),
  (15, ab_icmp 18 31 (fun x y => !decide (x = y))),
  (18, ab_nx 19 (ab_aload 0)),
  (19, ab_nx 20 ab_dup),
  (20, ab_nx 23 (ab_getf 11 4)),
  (23, ab_nx 24 (ab_lit (.int 1))),
  (24, ab_nx 25 (ab_bin (fun x y => x + y))),
  (25, ab_nx 28 (ab_putf 11 4 0)),
  (28, ab_goto 0),
  (31, ab_nx 32 (ab_aload 0)),
  (32, ab_nx 33 (ab_aload 0)),
  (33, ab_nx 36 (ab_getf 11 4)),
  (36, ab_nx 39 (ab_putf 11 12 0)),
  (39, ab_nx 40 (ab_aload 0)),
  (40, ab_nx 41 (ab_lit (.int 0))),
  (41, ab_nx 44 (ab_putf 11 13 0)),
  (44, ab_nx 45 (ab_aload 0)),
  (45, ab_nx 48 (ab_getf 11 3)),
  (48, ab_nx 49 (ab_aload 0)),
  (49, ab_nx 52 (ab_getf 11 5)),
  (52, ab_icmp 55 80 (fun x y => decide (x ≤ y))),
  (55, ab_nx 56 (ab_aload 0)),
  (56, ab_nx 59 (ab_getf 11 4)),
  (59, ab_nx 60 (ab_aload 0)),
  (60, ab_nx 63 (ab_getf 11 5)),
  (63, ab_icmp 66 80 (fun x y => decide (x < y))),
  (66, ab_nx 67 (ab_aload 0)),
  (67, ab_nx 68 (ab_aload 0)),
  (68, ab_nx 71 (ab_getf 11 5)),
  (71, ab_nx 74 (ab_putf 11 12 0)),
  (74, ab_nx 75 (ab_aload 0)),
  (75, ab_nx 76 (ab_lit (.int 4))),
  (76, ab_nx 79 (ab_putf 11 11 0)),
  (79, ab_vret 0 0),
  (80, ab_nx 81 (ab_aload 0)),
  (81, ab_nx 84 (ab_callV 1 11 f_X11_peek 0 0 0 0)),
  (84, ab_nx 85 (ab_istore 1)),
  (85, ab_nx 86 (ab_iload 1)),
  (86, ab_if 89 95 (fun x => decide (0 ≤ x))),
  (89, ab_nx 90 (ab_aload 0)),
  (90, ab_nx 91 (ab_lit (.int 0))),
  (91, ab_nx 94 (ab_putf 11 11 0)),
  (94, ab_vret 0 0),
  (95, ab_nx 96 (ab_iload 1)),
  (96, ab_nx 99 (ab_call 1 f_X11_isSmall 0 0 0 0)),
  (99, ab_if 102 164 (fun x => !decide (x = 0))),
  (102, ab_nx 103 (ab_iload 1)),
  (103, ab_nx 106 (ab_call 1 f_X11_isDigit 0 0 0 0)),
  (106, ab_if 109 164 (fun x => !decide (x = 0))),
  (109, ab_nx 110 (ab_aload 0)),
  (110, ab_nx 111 (ab_iload 1)),
  (111, ab_nx 113 (ab_lit (.int 59))),
  (113, ab_icmp 116 140 (fun x y => decide (x = y))),
  (116, ab_nx 117 (ab_iload 1)),
  (117, ab_nx 119 (ab_lit (.int 40))),
  (119, ab_icmp 122 140 (fun x y => decide (x = y))),
  (122, ab_nx 123 (ab_iload 1)),
  (123, ab_nx 125 (ab_lit (.int 41))),
  (125, ab_icmp 128 140 (fun x y => decide (x = y))),
  (128, ab_nx 129 (ab_iload 1)),
  (129, ab_nx 131 (ab_lit (.int 60))),
  (131, ab_icmp 134 144 (fun x y => decide (x < y))),
  (134, ab_nx 135 (ab_iload 1)),
  (135, ab_nx 137 (ab_lit (.int 62))),
  (137, ab_icmp 140 144 (fun x y => decide (y < x))),
  (140, ab_nx 141 (ab_lit (.int 3))),
  (141, ab_goto 145),
  (144, ab_nx 145 (ab_lit (.int 4))),
  (145, ab_nx 148 (ab_putf 11 11 0)),
  (148, ab_nx 149 (ab_aload 0)),
  (149, ab_nx 150 (ab_iload 1)),
  (150, ab_nx 153 (ab_putf 11 14 0)),
  (153, ab_nx 154 (ab_aload 0)),
  (154, ab_nx 155 ab_dup),
  (155, ab_nx 158 (ab_getf 11 4)),
  (158, ab_nx 159 (ab_lit (.int 1))),
  (159, ab_nx 160 (ab_bin (fun x y => x + y))),
  (160, ab_nx 163 (ab_putf 11 4 0)),
  (163, ab_vret 0 0),
  (164, ab_nx 165 (ab_iload 1)),
  (165, ab_nx 168 (ab_call 1 f_X11_isSmall 0 0 0 0)),
  (168, ab_nx 169 (ab_istore 2)),
  (169, ab_nx 170 (ab_lit (.int 1))),
  (170, ab_nx 171 (ab_istore 3)),
  (171, ab_nx 172 (ab_aload 0)),
  (172, ab_nx 173 (ab_lit (.long 0))),
  (173, ab_nx 176 (ab_putf 11 17 1)),
  (176, ab_nx 177 (ab_aload 0)),
  (177, ab_nx 178 (ab_lit (.int 0))),
  (178, ab_nx 181 (ab_putf 11 14 0)),
  (181, ab_nx 182 (ab_aload 0)),
  (182, ab_nx 185 (ab_callV 1 11 f_X11_peek 0 0 0 0)),
  (185, ab_nx 188 (ab_call 1 f_X11_isSmall 0 0 0 0)),
  (188, ab_if 191 201 (fun x => !decide (x = 0))),
  (191, ab_nx 192 (ab_aload 0)),
  (192, ab_nx 195 (ab_callV 1 11 f_X11_peek 0 0 0 0)),
  (195, ab_nx 198 (ab_call 1 f_X11_isDigit 0 0 0 0)),
  (198, ab_if 201 298 (fun x => decide (x = 0))),
  (201, ab_nx 202 (ab_iload 3)),
  (202, ab_if 205 220 (fun x => decide (x = 0))),
  (205, ab_nx 206 (ab_aload 0)),
  (206, ab_nx 209 (ab_callV 1 11 f_X11_peek 0 0 0 0)),
  (209, ab_nx 212 (ab_call 1 f_X11_isSmall 0 0 0 0)),
  (212, ab_nx 213 (ab_iload 2)),
  (213, ab_icmp 216 220 (fun x y => !decide (x = y))),
  (216, ab_nx 217 (ab_lit (.int 1))),
  (217, ab_goto 221),
  (220, ab_nx 221 (ab_lit (.int 0))),
  (221, ab_nx 222 (ab_istore 3)),
  (222, ab_nx 223 (ab_aload 0)),
  (223, ab_nx 226 (ab_getf 11 13)),
  (226, ab_nx 228 (ab_lit (.int 7))),
  (228, ab_icmp 231 248 (fun x y => decide (y ≤ x))),
  (231, ab_nx 232 (ab_aload 0)),
  (232, ab_nx 233 (ab_aload 0)),
  (233, ab_nx 236 (ab_getf 11 17)),
  (236, ab_nx 238 (ab_lit (.int 8))),
  (238, ab_nx 239 (ab_lsh (fun x y => x <<< (y.toInt64 &&& 63)))),
  (239, ab_nx 240 (ab_aload 0)),
  (240, ab_nx 243 (ab_callV 1 11 f_X11_peek 0 0 0 0)),
  (243, ab_nx 244 ab_i2l),
  (244, ab_nx 245 (ab_lbin (fun x y => x ||| y))),
  (245, ab_nx 248 (ab_putf 11 17 1)),
  (248, ab_nx 249 (ab_aload 0)),
  (249, ab_nx 252 (ab_getf 11 13)),
  (252, ab_nx 253 (ab_lit (.int 3))),
  (253, ab_icmp 256 275 (fun x y => decide (y ≤ x))),
  (256, ab_nx 257 (ab_aload 0)),
  (257, ab_nx 259 (ab_lit (.int 10))),
  (259, ab_nx 260 (ab_aload 0)),
  (260, ab_nx 263 (ab_getf 11 14)),
  (263, ab_nx 264 (ab_bin (fun x y => x * y))),
  (264, ab_nx 265 (ab_aload 0)),
  (265, ab_nx 268 (ab_callV 1 11 f_X11_peek 0 0 0 0)),
  (268, ab_nx 269 (ab_bin (fun x y => x + y))),
  (269, ab_nx 271 (ab_lit (.int 48))),
  (271, ab_nx 272 (ab_bin (fun x y => x - y))),
  (272, ab_nx 275 (ab_putf 11 14 0)),
  (275, ab_nx 276 (ab_aload 0)),
  (276, ab_nx 277 ab_dup),
  (277, ab_nx 280 (ab_getf 11 13)),
  (280, ab_nx 281 (ab_lit (.int 1))),
  (281, ab_nx 282 (ab_bin (fun x y => x + y))),
  (282, ab_nx 285 (ab_putf 11 13 0)),
  (285, ab_nx 286 (ab_aload 0)),
  (286, ab_nx 287 ab_dup),
  (287, ab_nx 290 (ab_getf 11 4)),
  (290, ab_nx 291 (ab_lit (.int 1))),
  (291, ab_nx 292 (ab_bin (fun x y => x + y))),
  (292, ab_nx 295 (ab_putf 11 4 0)),
  (295, ab_goto 181),
  (298, ab_nx 299 (ab_aload 0)),
  (299, ab_nx 300 (ab_iload 3)),
  (300, ab_if 303 320 (fun x => decide (x = 0))),
  (303, ab_nx 304 (ab_aload 0)),
  (304, ab_nx 307 (ab_getf 11 13)),
  (307, ab_nx 308 (ab_iload 2)),
  (308, ab_if 311 316 (fun x => decide (x = 0))),
  (311, ab_nx 313 (ab_lit (.int 7))),
  (313, ab_goto 317),
  (316, ab_nx 317 (ab_lit (.int 3))),
  (317, ab_icmp 320 324 (fun x y => decide (x ≤ y))),
  (320, ab_nx 321 (ab_lit (.int 4))),
  (321, ab_goto 333),
  (324, ab_nx 325 (ab_iload 2)),
  (325, ab_if 328 332 (fun x => decide (x = 0))),
  (328, ab_nx 329 (ab_lit (.int 1))),
  (329, ab_goto 333),
  (332, ab_nx 333 (ab_lit (.int 2))),
  (333, ab_nx 336 (ab_putf 11 11 0)),
  (336, ab_vret 0 0)]
set_option maxRecDepth 100000 in
theorem dq33_0 : ([(0, .aload_n 0, 1), (1, .invokevirtual 137, 3), (4, .bipush 32, 2), (6, .if_icmp .eq 12, 3), (9, .aload_n 0, 1), (10, .invokevirtual 137, 3), (13, .bipush 10, 2), (15, .if_icmp .ne 16, 3), (18, .aload_n 0, 1), (19, .dup, 1), (20, .getfield 21, 3), (23, .iconst 1, 1), (24, .iadd, 1), (25, .putfield 21, 3), (28, .goto (-28), 3), (31, .aload_n 0, 1)] : List (Nat × Instr × Nat)).all (fun q => decide (decode cX11_next q.1 = .ok q.2)) = true := by decide +kernel
set_option maxRecDepth 100000 in
theorem dq33_1 : ([(32, .aload_n 0, 1), (33, .getfield 21, 3), (36, .putfield 141, 3), (39, .aload_n 0, 1), (40, .iconst 0, 1), (41, .putfield 144, 3), (44, .aload_n 0, 1), (45, .getfield 18, 3), (48, .aload_n 0, 1), (49, .getfield 24, 3), (52, .if_icmp .le 28, 3), (55, .aload_n 0, 1), (56, .getfield 21, 3), (59, .aload_n 0, 1), (60, .getfield 24, 3), (63, .if_icmp .lt 17, 3)] : List (Nat × Instr × Nat)).all (fun q => decide (decode cX11_next q.1 = .ok q.2)) = true := by decide +kernel
set_option maxRecDepth 100000 in
theorem dq33_2 : ([(66, .aload_n 0, 1), (67, .aload_n 0, 1), (68, .getfield 24, 3), (71, .putfield 141, 3), (74, .aload_n 0, 1), (75, .iconst 4, 1), (76, .putfield 147, 3), (79, .return_, 1), (80, .aload_n 0, 1), (81, .invokevirtual 137, 3), (84, .istore_n 1, 1), (85, .iload_n 1, 1), (86, .ifCond .ge 9, 3), (89, .aload_n 0, 1), (90, .iconst 0, 1), (91, .putfield 147, 3)] : List (Nat × Instr × Nat)).all (fun q => decide (decode cX11_next q.1 = .ok q.2)) = true := by decide +kernel
set_option maxRecDepth 100000 in
theorem dq33_3 : ([(94, .return_, 1), (95, .iload_n 1, 1), (96, .invokestatic 150, 3), (99, .ifCond .ne 65, 3), (102, .iload_n 1, 1), (103, .invokestatic 154, 3), (106, .ifCond .ne 58, 3), (109, .aload_n 0, 1), (110, .iload_n 1, 1), (111, .bipush 59, 2), (113, .if_icmp .eq 27, 3), (116, .iload_n 1, 1), (117, .bipush 40, 2), (119, .if_icmp .eq 21, 3), (122, .iload_n 1, 1), (123, .bipush 41, 2)] : List (Nat × Instr × Nat)).all (fun q => decide (decode cX11_next q.1 = .ok q.2)) = true := by decide +kernel
set_option maxRecDepth 100000 in
theorem dq33_4 : ([(125, .if_icmp .eq 15, 3), (128, .iload_n 1, 1), (129, .bipush 60, 2), (131, .if_icmp .lt 13, 3), (134, .iload_n 1, 1), (135, .bipush 62, 2), (137, .if_icmp .gt 7, 3), (140, .iconst 3, 1), (141, .goto 4, 3), (144, .iconst 4, 1), (145, .putfield 147, 3), (148, .aload_n 0, 1), (149, .iload_n 1, 1), (150, .putfield 157, 3), (153, .aload_n 0, 1), (154, .dup, 1)] : List (Nat × Instr × Nat)).all (fun q => decide (decode cX11_next q.1 = .ok q.2)) = true := by decide +kernel
set_option maxRecDepth 100000 in
theorem dq33_5 : ([(155, .getfield 21, 3), (158, .iconst 1, 1), (159, .iadd, 1), (160, .putfield 21, 3), (163, .return_, 1), (164, .iload_n 1, 1), (165, .invokestatic 150, 3), (168, .istore_n 2, 1), (169, .iconst 1, 1), (170, .istore_n 3, 1), (171, .aload_n 0, 1), (172, .lconst 0, 1), (173, .putfield 160, 3), (176, .aload_n 0, 1), (177, .iconst 0, 1), (178, .putfield 157, 3)] : List (Nat × Instr × Nat)).all (fun q => decide (decode cX11_next q.1 = .ok q.2)) = true := by decide +kernel
set_option maxRecDepth 100000 in
theorem dq33_6 : ([(181, .aload_n 0, 1), (182, .invokevirtual 137, 3), (185, .invokestatic 150, 3), (188, .ifCond .ne 13, 3), (191, .aload_n 0, 1), (192, .invokevirtual 137, 3), (195, .invokestatic 154, 3), (198, .ifCond .eq 100, 3), (201, .iload_n 3, 1), (202, .ifCond .eq 18, 3), (205, .aload_n 0, 1), (206, .invokevirtual 137, 3), (209, .invokestatic 150, 3), (212, .iload_n 2, 1), (213, .if_icmp .ne 7, 3), (216, .iconst 1, 1)] : List (Nat × Instr × Nat)).all (fun q => decide (decode cX11_next q.1 = .ok q.2)) = true := by decide +kernel
set_option maxRecDepth 100000 in
theorem dq33_7 : ([(217, .goto 4, 3), (220, .iconst 0, 1), (221, .istore_n 3, 1), (222, .aload_n 0, 1), (223, .getfield 144, 3), (226, .bipush 7, 2), (228, .if_icmp .ge 20, 3), (231, .aload_n 0, 1), (232, .aload_n 0, 1), (233, .getfield 160, 3), (236, .bipush 8, 2), (238, .lshl, 1), (239, .aload_n 0, 1), (240, .invokevirtual 137, 3), (243, .i2l, 1), (244, .lor, 1)] : List (Nat × Instr × Nat)).all (fun q => decide (decode cX11_next q.1 = .ok q.2)) = true := by decide +kernel
set_option maxRecDepth 100000 in
theorem dq33_8 : ([(245, .putfield 160, 3), (248, .aload_n 0, 1), (249, .getfield 144, 3), (252, .iconst 3, 1), (253, .if_icmp .ge 22, 3), (256, .aload_n 0, 1), (257, .bipush 10, 2), (259, .aload_n 0, 1), (260, .getfield 157, 3), (263, .imul, 1), (264, .aload_n 0, 1), (265, .invokevirtual 137, 3), (268, .iadd, 1), (269, .bipush 48, 2), (271, .isub, 1), (272, .putfield 157, 3)] : List (Nat × Instr × Nat)).all (fun q => decide (decode cX11_next q.1 = .ok q.2)) = true := by decide +kernel
set_option maxRecDepth 100000 in
theorem dq33_9 : ([(275, .aload_n 0, 1), (276, .dup, 1), (277, .getfield 144, 3), (280, .iconst 1, 1), (281, .iadd, 1), (282, .putfield 144, 3), (285, .aload_n 0, 1), (286, .dup, 1), (287, .getfield 21, 3), (290, .iconst 1, 1), (291, .iadd, 1), (292, .putfield 21, 3), (295, .goto (-114), 3), (298, .aload_n 0, 1), (299, .iload_n 3, 1), (300, .ifCond .eq 20, 3)] : List (Nat × Instr × Nat)).all (fun q => decide (decode cX11_next q.1 = .ok q.2)) = true := by decide +kernel
set_option maxRecDepth 100000 in
theorem dq33_10 : ([(303, .aload_n 0, 1), (304, .getfield 144, 3), (307, .iload_n 2, 1), (308, .ifCond .eq 8, 3), (311, .bipush 7, 2), (313, .goto 4, 3), (316, .iconst 3, 1), (317, .if_icmp .le 7, 3), (320, .iconst 4, 1), (321, .goto 12, 3), (324, .iload_n 2, 1), (325, .ifCond .eq 7, 3), (328, .iconst 1, 1), (329, .goto 4, 3), (332, .iconst 2, 1), (333, .putfield 147, 3)] : List (Nat × Instr × Nat)).all (fun q => decide (decode cX11_next q.1 = .ok q.2)) = true := by decide +kernel
set_option maxRecDepth 100000 in
theorem dq33_11 : ([(336, .return_, 1)] : List (Nat × Instr × Nat)).all (fun q => decide (decode cX11_next q.1 = .ok q.2)) = true := by decide +kernel
set_option maxRecDepth 100000 in
set_option maxHeartbeats 4000000 in
theorem M_X11_next {l : Launch} {b : ab_B} {D : va_G} {cA : Nat → ClassId} {f_X11_peek : List Value → ab_H → Option ab_O} (h_X11_peek : ab_M l b D ab_cl cA (ab_E0 b) yX11_peek (Cond.code yX11_peek cX11_peek 1 (some .int) :: ab_G) ({ frames := 1, cells := 0, slots := 0, locals := 100 } : Room) f_X11_peek) {f_X11_isSmall : List Value → ab_H → Option ab_O} (h_X11_isSmall : ab_M l b D ab_cl cA (ab_E0 b) yX11_isSmall (Cond.code yX11_isSmall cX11_isSmall 1 (some .boolean) :: ab_G) ({ frames := 1, cells := 0, slots := 0, locals := 100 } : Room) f_X11_isSmall) {f_X11_isDigit : List Value → ab_H → Option ab_O} (h_X11_isDigit : ab_M l b D ab_cl cA (ab_E0 b) yX11_isDigit (Cond.code yX11_isDigit cX11_isDigit 1 (some .boolean) :: ab_G) ({ frames := 1, cells := 0, slots := 0, locals := 100 } : Room) f_X11_isDigit) : ab_M l b D ab_cl cA (ab_E0 b) yX11_next (Cond.code yX11_next cX11_next 4 none :: ab_G) ({ frames := 2, cells := 0, slots := 0, locals := 200 } : Room) (ab_X (ab_T (L_X11_next f_X11_peek f_X11_isSmall f_X11_isDigit)) 4) := by
  refine ab_meth (ret := none) (L_X11_next f_X11_peek f_X11_isSmall f_X11_isDigit) (by decide) rfl fun p e R s m args below meth c o C => ?_
  unfold L_X11_next
  refine List.forall_mem_cons.mpr ⟨ok_aload_n C (show decode cX11_next 0 = .ok (.aload_n 0, 1) from dk_at dq33_0 (i := 0) rfl) rfl rfl, ?_⟩
  refine List.forall_mem_cons.mpr ⟨ok_callV C h_X11_peek ⟨rfl, rfl⟩ rfl kw_1326 kw_1323 kw_1325 kp_50 kw_11 rfl ds_X11_peek ⟨by decide, by decide⟩ (show decode cX11_next 1 = .ok (.invokevirtual 137, 3) from dk_at dq33_0 (i := 1) rfl) rfl, ?_⟩
  refine List.forall_mem_cons.mpr ⟨ok_bipush C (show decode cX11_next 4 = .ok (.bipush 32, 2) from dk_at dq33_0 (i := 2) rfl) (by decide) rfl, ?_⟩
  refine List.forall_mem_cons.mpr ⟨ok_icmpeq C (show decode cX11_next 6 = .ok (.if_icmp .eq 12, 3) from dk_at dq33_0 (i := 3) rfl) (tg := 18) (by decide) rfl rfl, ?_⟩
  refine List.forall_mem_cons.mpr ⟨ok_aload_n C (show decode cX11_next 9 = .ok (.aload_n 0, 1) from dk_at dq33_0 (i := 4) rfl) rfl rfl, ?_⟩
  refine List.forall_mem_cons.mpr ⟨ok_callV C h_X11_peek ⟨rfl, rfl⟩ rfl kw_1326 kw_1323 kw_1325 kp_50 kw_11 rfl ds_X11_peek ⟨by decide, by decide⟩ (show decode cX11_next 10 = .ok (.invokevirtual 137, 3) from dk_at dq33_0 (i := 5) rfl) rfl, ?_⟩
  refine List.forall_mem_cons.mpr ⟨ok_bipush C (show decode cX11_next 13 = .ok (.bipush 10, 2) from dk_at dq33_0 (i := 6) rfl) (by decide) rfl, ?_⟩
  refine List.forall_mem_cons.mpr ⟨ok_icmpne C (show decode cX11_next 15 = .ok (.if_icmp .ne 16, 3) from dk_at dq33_0 (i := 7) rfl) (tg := 31) (by decide) rfl rfl, ?_⟩
  refine List.forall_mem_cons.mpr ⟨ok_aload_n C (show decode cX11_next 18 = .ok (.aload_n 0, 1) from dk_at dq33_0 (i := 8) rfl) rfl rfl, ?_⟩
  refine List.forall_mem_cons.mpr ⟨ok_dup C (show decode cX11_next 19 = .ok (.dup, 1) from dk_at dq33_0 (i := 9) rfl) rfl, ?_⟩
  refine List.forall_mem_cons.mpr ⟨ok_getf C (wi_X11) rfl (by decide) kw_1184 (show decode cX11_next 20 = .ok (.getfield 21, 3) from dk_at dq33_0 (i := 10) rfl) rfl, ?_⟩
  refine List.forall_mem_cons.mpr ⟨ok_iconst C (show decode cX11_next 23 = .ok (.iconst 1, 1) from dk_at dq33_0 (i := 11) rfl) (by decide) rfl, ?_⟩
  refine List.forall_mem_cons.mpr ⟨ok_iadd C (show decode cX11_next 24 = .ok (.iadd, 1) from dk_at dq33_0 (i := 12) rfl) rfl, ?_⟩
  refine List.forall_mem_cons.mpr ⟨ok_putf C (wi_X11) tyX11 tyX11_ok nmX11 rfl (by decide) kw_1184 (Or.inl rfl) (Or.inl ⟨rfl, rfl⟩) (show decode cX11_next 25 = .ok (.putfield 21, 3) from dk_at dq33_0 (i := 13) rfl) rfl, ?_⟩
  refine List.forall_mem_cons.mpr ⟨ok_goto C (show decode cX11_next 28 = .ok (.goto (-28), 3) from dk_at dq33_0 (i := 14) rfl) (tg := 0) (by decide) rfl, ?_⟩
  refine List.forall_mem_cons.mpr ⟨ok_aload_n C (show decode cX11_next 31 = .ok (.aload_n 0, 1) from dk_at dq33_0 (i := 15) rfl) rfl rfl, ?_⟩
  refine List.forall_mem_cons.mpr ⟨ok_aload_n C (show decode cX11_next 32 = .ok (.aload_n 0, 1) from dk_at dq33_1 (i := 0) rfl) rfl rfl, ?_⟩
  refine List.forall_mem_cons.mpr ⟨ok_getf C (wi_X11) rfl (by decide) kw_1184 (show decode cX11_next 33 = .ok (.getfield 21, 3) from dk_at dq33_1 (i := 1) rfl) rfl, ?_⟩
  refine List.forall_mem_cons.mpr ⟨ok_putf C (wi_X11) tyX11 tyX11_ok nmX11 rfl (by decide) kw_1192 (Or.inl rfl) (Or.inl ⟨rfl, rfl⟩) (show decode cX11_next 36 = .ok (.putfield 141, 3) from dk_at dq33_1 (i := 2) rfl) rfl, ?_⟩
  refine List.forall_mem_cons.mpr ⟨ok_aload_n C (show decode cX11_next 39 = .ok (.aload_n 0, 1) from dk_at dq33_1 (i := 3) rfl) rfl rfl, ?_⟩
  refine List.forall_mem_cons.mpr ⟨ok_iconst C (show decode cX11_next 40 = .ok (.iconst 0, 1) from dk_at dq33_1 (i := 4) rfl) (by decide) rfl, ?_⟩
  refine List.forall_mem_cons.mpr ⟨ok_putf C (wi_X11) tyX11 tyX11_ok nmX11 rfl (by decide) kw_1193 (Or.inl rfl) (Or.inl ⟨rfl, rfl⟩) (show decode cX11_next 41 = .ok (.putfield 144, 3) from dk_at dq33_1 (i := 5) rfl) rfl, ?_⟩
  refine List.forall_mem_cons.mpr ⟨ok_aload_n C (show decode cX11_next 44 = .ok (.aload_n 0, 1) from dk_at dq33_1 (i := 6) rfl) rfl rfl, ?_⟩
  refine List.forall_mem_cons.mpr ⟨ok_getf C (wi_X11) rfl (by decide) kw_1183 (show decode cX11_next 45 = .ok (.getfield 18, 3) from dk_at dq33_1 (i := 7) rfl) rfl, ?_⟩
  refine List.forall_mem_cons.mpr ⟨ok_aload_n C (show decode cX11_next 48 = .ok (.aload_n 0, 1) from dk_at dq33_1 (i := 8) rfl) rfl rfl, ?_⟩
  refine List.forall_mem_cons.mpr ⟨ok_getf C (wi_X11) rfl (by decide) kw_1185 (show decode cX11_next 49 = .ok (.getfield 24, 3) from dk_at dq33_1 (i := 9) rfl) rfl, ?_⟩
  refine List.forall_mem_cons.mpr ⟨ok_icmple C (show decode cX11_next 52 = .ok (.if_icmp .le 28, 3) from dk_at dq33_1 (i := 10) rfl) (tg := 80) (by decide) rfl rfl, ?_⟩
  refine List.forall_mem_cons.mpr ⟨ok_aload_n C (show decode cX11_next 55 = .ok (.aload_n 0, 1) from dk_at dq33_1 (i := 11) rfl) rfl rfl, ?_⟩
  refine List.forall_mem_cons.mpr ⟨ok_getf C (wi_X11) rfl (by decide) kw_1184 (show decode cX11_next 56 = .ok (.getfield 21, 3) from dk_at dq33_1 (i := 12) rfl) rfl, ?_⟩
  refine List.forall_mem_cons.mpr ⟨ok_aload_n C (show decode cX11_next 59 = .ok (.aload_n 0, 1) from dk_at dq33_1 (i := 13) rfl) rfl rfl, ?_⟩
  refine List.forall_mem_cons.mpr ⟨ok_getf C (wi_X11) rfl (by decide) kw_1185 (show decode cX11_next 60 = .ok (.getfield 24, 3) from dk_at dq33_1 (i := 14) rfl) rfl, ?_⟩
  refine List.forall_mem_cons.mpr ⟨ok_icmplt C (show decode cX11_next 63 = .ok (.if_icmp .lt 17, 3) from dk_at dq33_1 (i := 15) rfl) (tg := 80) (by decide) rfl rfl, ?_⟩
  refine List.forall_mem_cons.mpr ⟨ok_aload_n C (show decode cX11_next 66 = .ok (.aload_n 0, 1) from dk_at dq33_2 (i := 0) rfl) rfl rfl, ?_⟩
  refine List.forall_mem_cons.mpr ⟨ok_aload_n C (show decode cX11_next 67 = .ok (.aload_n 0, 1) from dk_at dq33_2 (i := 1) rfl) rfl rfl, ?_⟩
  refine List.forall_mem_cons.mpr ⟨ok_getf C (wi_X11) rfl (by decide) kw_1185 (show decode cX11_next 68 = .ok (.getfield 24, 3) from dk_at dq33_2 (i := 2) rfl) rfl, ?_⟩
  refine List.forall_mem_cons.mpr ⟨ok_putf C (wi_X11) tyX11 tyX11_ok nmX11 rfl (by decide) kw_1192 (Or.inl rfl) (Or.inl ⟨rfl, rfl⟩) (show decode cX11_next 71 = .ok (.putfield 141, 3) from dk_at dq33_2 (i := 3) rfl) rfl, ?_⟩
  refine List.forall_mem_cons.mpr ⟨ok_aload_n C (show decode cX11_next 74 = .ok (.aload_n 0, 1) from dk_at dq33_2 (i := 4) rfl) rfl rfl, ?_⟩
  refine List.forall_mem_cons.mpr ⟨ok_iconst C (show decode cX11_next 75 = .ok (.iconst 4, 1) from dk_at dq33_2 (i := 5) rfl) (by decide) rfl, ?_⟩
  refine List.forall_mem_cons.mpr ⟨ok_putf C (wi_X11) tyX11 tyX11_ok nmX11 rfl (by decide) kw_1191 (Or.inl rfl) (Or.inl ⟨rfl, rfl⟩) (show decode cX11_next 76 = .ok (.putfield 147, 3) from dk_at dq33_2 (i := 6) rfl) rfl, ?_⟩
  refine List.forall_mem_cons.mpr ⟨ok_vret C rfl (show decode cX11_next 79 = .ok (.return_, 1) from dk_at dq33_2 (i := 7) rfl), ?_⟩
  refine List.forall_mem_cons.mpr ⟨ok_aload_n C (show decode cX11_next 80 = .ok (.aload_n 0, 1) from dk_at dq33_2 (i := 8) rfl) rfl rfl, ?_⟩
  refine List.forall_mem_cons.mpr ⟨ok_callV C h_X11_peek ⟨rfl, rfl⟩ rfl kw_1326 kw_1323 kw_1325 kp_50 kw_11 rfl ds_X11_peek ⟨by decide, by decide⟩ (show decode cX11_next 81 = .ok (.invokevirtual 137, 3) from dk_at dq33_2 (i := 9) rfl) rfl, ?_⟩
  refine List.forall_mem_cons.mpr ⟨ok_istore_n C (show decode cX11_next 84 = .ok (.istore_n 1, 1) from dk_at dq33_2 (i := 10) rfl) rfl (by decide) rfl, ?_⟩
  refine List.forall_mem_cons.mpr ⟨ok_iload_n C (show decode cX11_next 85 = .ok (.iload_n 1, 1) from dk_at dq33_2 (i := 11) rfl) rfl rfl, ?_⟩
  refine List.forall_mem_cons.mpr ⟨ok_ifge C (show decode cX11_next 86 = .ok (.ifCond .ge 9, 3) from dk_at dq33_2 (i := 12) rfl) (tg := 95) (by decide) rfl rfl, ?_⟩
  refine List.forall_mem_cons.mpr ⟨ok_aload_n C (show decode cX11_next 89 = .ok (.aload_n 0, 1) from dk_at dq33_2 (i := 13) rfl) rfl rfl, ?_⟩
  refine List.forall_mem_cons.mpr ⟨ok_iconst C (show decode cX11_next 90 = .ok (.iconst 0, 1) from dk_at dq33_2 (i := 14) rfl) (by decide) rfl, ?_⟩
  refine List.forall_mem_cons.mpr ⟨ok_putf C (wi_X11) tyX11 tyX11_ok nmX11 rfl (by decide) kw_1191 (Or.inl rfl) (Or.inl ⟨rfl, rfl⟩) (show decode cX11_next 91 = .ok (.putfield 147, 3) from dk_at dq33_2 (i := 15) rfl) rfl, ?_⟩
  refine List.forall_mem_cons.mpr ⟨ok_vret C rfl (show decode cX11_next 94 = .ok (.return_, 1) from dk_at dq33_3 (i := 0) rfl), ?_⟩
  refine List.forall_mem_cons.mpr ⟨ok_iload_n C (show decode cX11_next 95 = .ok (.iload_n 1, 1) from dk_at dq33_3 (i := 1) rfl) rfl rfl, ?_⟩
  refine List.forall_mem_cons.mpr ⟨ok_callS C h_X11_isSmall ⟨rfl, rfl⟩ kw_1329 kw_1327 kw_1328 kw_11 ds_X11_isSmall ⟨by decide, by decide⟩ (show decode cX11_next 96 = .ok (.invokestatic 150, 3) from dk_at dq33_3 (i := 2) rfl) rfl, ?_⟩
  refine List.forall_mem_cons.mpr ⟨ok_ifne C (show decode cX11_next 99 = .ok (.ifCond .ne 65, 3) from dk_at dq33_3 (i := 3) rfl) (tg := 164) (by decide) rfl rfl, ?_⟩
  refine List.forall_mem_cons.mpr ⟨ok_iload_n C (show decode cX11_next 102 = .ok (.iload_n 1, 1) from dk_at dq33_3 (i := 4) rfl) rfl rfl, ?_⟩
  refine List.forall_mem_cons.mpr ⟨ok_callS C h_X11_isDigit ⟨rfl, rfl⟩ kw_1332 kw_1330 kw_1331 kw_11 ds_X11_isDigit ⟨by decide, by decide⟩ (show decode cX11_next 103 = .ok (.invokestatic 154, 3) from dk_at dq33_3 (i := 5) rfl) rfl, ?_⟩
  refine List.forall_mem_cons.mpr ⟨ok_ifne C (show decode cX11_next 106 = .ok (.ifCond .ne 58, 3) from dk_at dq33_3 (i := 6) rfl) (tg := 164) (by decide) rfl rfl, ?_⟩
  refine List.forall_mem_cons.mpr ⟨ok_aload_n C (show decode cX11_next 109 = .ok (.aload_n 0, 1) from dk_at dq33_3 (i := 7) rfl) rfl rfl, ?_⟩
  refine List.forall_mem_cons.mpr ⟨ok_iload_n C (show decode cX11_next 110 = .ok (.iload_n 1, 1) from dk_at dq33_3 (i := 8) rfl) rfl rfl, ?_⟩
  refine List.forall_mem_cons.mpr ⟨ok_bipush C (show decode cX11_next 111 = .ok (.bipush 59, 2) from dk_at dq33_3 (i := 9) rfl) (by decide) rfl, ?_⟩
  refine List.forall_mem_cons.mpr ⟨ok_icmpeq C (show decode cX11_next 113 = .ok (.if_icmp .eq 27, 3) from dk_at dq33_3 (i := 10) rfl) (tg := 140) (by decide) rfl rfl, ?_⟩
  refine List.forall_mem_cons.mpr ⟨ok_iload_n C (show decode cX11_next 116 = .ok (.iload_n 1, 1) from dk_at dq33_3 (i := 11) rfl) rfl rfl, ?_⟩
  refine List.forall_mem_cons.mpr ⟨ok_bipush C (show decode cX11_next 117 = .ok (.bipush 40, 2) from dk_at dq33_3 (i := 12) rfl) (by decide) rfl, ?_⟩
  refine List.forall_mem_cons.mpr ⟨ok_icmpeq C (show decode cX11_next 119 = .ok (.if_icmp .eq 21, 3) from dk_at dq33_3 (i := 13) rfl) (tg := 140) (by decide) rfl rfl, ?_⟩
  refine List.forall_mem_cons.mpr ⟨ok_iload_n C (show decode cX11_next 122 = .ok (.iload_n 1, 1) from dk_at dq33_3 (i := 14) rfl) rfl rfl, ?_⟩
  refine List.forall_mem_cons.mpr ⟨ok_bipush C (show decode cX11_next 123 = .ok (.bipush 41, 2) from dk_at dq33_3 (i := 15) rfl) (by decide) rfl, ?_⟩
  refine List.forall_mem_cons.mpr ⟨ok_icmpeq C (show decode cX11_next 125 = .ok (.if_icmp .eq 15, 3) from dk_at dq33_4 (i := 0) rfl) (tg := 140) (by decide) rfl rfl, ?_⟩
  refine List.forall_mem_cons.mpr ⟨ok_iload_n C (show decode cX11_next 128 = .ok (.iload_n 1, 1) from dk_at dq33_4 (i := 1) rfl) rfl rfl, ?_⟩
  refine List.forall_mem_cons.mpr ⟨ok_bipush C (show decode cX11_next 129 = .ok (.bipush 60, 2) from dk_at dq33_4 (i := 2) rfl) (by decide) rfl, ?_⟩
  refine List.forall_mem_cons.mpr ⟨ok_icmplt C (show decode cX11_next 131 = .ok (.if_icmp .lt 13, 3) from dk_at dq33_4 (i := 3) rfl) (tg := 144) (by decide) rfl rfl, ?_⟩
  refine List.forall_mem_cons.mpr ⟨ok_iload_n C (show decode cX11_next 134 = .ok (.iload_n 1, 1) from dk_at dq33_4 (i := 4) rfl) rfl rfl, ?_⟩
  refine List.forall_mem_cons.mpr ⟨ok_bipush C (show decode cX11_next 135 = .ok (.bipush 62, 2) from dk_at dq33_4 (i := 5) rfl) (by decide) rfl, ?_⟩
  refine List.forall_mem_cons.mpr ⟨ok_icmpgt C (show decode cX11_next 137 = .ok (.if_icmp .gt 7, 3) from dk_at dq33_4 (i := 6) rfl) (tg := 144) (by decide) rfl rfl, ?_⟩
  refine List.forall_mem_cons.mpr ⟨ok_iconst C (show decode cX11_next 140 = .ok (.iconst 3, 1) from dk_at dq33_4 (i := 7) rfl) (by decide) rfl, ?_⟩
  refine List.forall_mem_cons.mpr ⟨ok_goto C (show decode cX11_next 141 = .ok (.goto 4, 3) from dk_at dq33_4 (i := 8) rfl) (tg := 145) (by decide) rfl, ?_⟩
  refine List.forall_mem_cons.mpr ⟨ok_iconst C (show decode cX11_next 144 = .ok (.iconst 4, 1) from dk_at dq33_4 (i := 9) rfl) (by decide) rfl, ?_⟩
  refine List.forall_mem_cons.mpr ⟨ok_putf C (wi_X11) tyX11 tyX11_ok nmX11 rfl (by decide) kw_1191 (Or.inl rfl) (Or.inl ⟨rfl, rfl⟩) (show decode cX11_next 145 = .ok (.putfield 147, 3) from dk_at dq33_4 (i := 10) rfl) rfl, ?_⟩
  refine List.forall_mem_cons.mpr ⟨ok_aload_n C (show decode cX11_next 148 = .ok (.aload_n 0, 1) from dk_at dq33_4 (i := 11) rfl) rfl rfl, ?_⟩
  refine List.forall_mem_cons.mpr ⟨ok_iload_n C (show decode cX11_next 149 = .ok (.iload_n 1, 1) from dk_at dq33_4 (i := 12) rfl) rfl rfl, ?_⟩
  refine List.forall_mem_cons.mpr ⟨ok_putf C (wi_X11) tyX11 tyX11_ok nmX11 rfl (by decide) kw_1194 (Or.inl rfl) (Or.inl ⟨rfl, rfl⟩) (show decode cX11_next 150 = .ok (.putfield 157, 3) from dk_at dq33_4 (i := 13) rfl) rfl, ?_⟩
  refine List.forall_mem_cons.mpr ⟨ok_aload_n C (show decode cX11_next 153 = .ok (.aload_n 0, 1) from dk_at dq33_4 (i := 14) rfl) rfl rfl, ?_⟩
  refine List.forall_mem_cons.mpr ⟨ok_dup C (show decode cX11_next 154 = .ok (.dup, 1) from dk_at dq33_4 (i := 15) rfl) rfl, ?_⟩
  refine List.forall_mem_cons.mpr ⟨ok_getf C (wi_X11) rfl (by decide) kw_1184 (show decode cX11_next 155 = .ok (.getfield 21, 3) from dk_at dq33_5 (i := 0) rfl) rfl, ?_⟩
  refine List.forall_mem_cons.mpr ⟨ok_iconst C (show decode cX11_next 158 = .ok (.iconst 1, 1) from dk_at dq33_5 (i := 1) rfl) (by decide) rfl, ?_⟩
  refine List.forall_mem_cons.mpr ⟨ok_iadd C (show decode cX11_next 159 = .ok (.iadd, 1) from dk_at dq33_5 (i := 2) rfl) rfl, ?_⟩
  refine List.forall_mem_cons.mpr ⟨ok_putf C (wi_X11) tyX11 tyX11_ok nmX11 rfl (by decide) kw_1184 (Or.inl rfl) (Or.inl ⟨rfl, rfl⟩) (show decode cX11_next 160 = .ok (.putfield 21, 3) from dk_at dq33_5 (i := 3) rfl) rfl, ?_⟩
  refine List.forall_mem_cons.mpr ⟨ok_vret C rfl (show decode cX11_next 163 = .ok (.return_, 1) from dk_at dq33_5 (i := 4) rfl), ?_⟩
  refine List.forall_mem_cons.mpr ⟨ok_iload_n C (show decode cX11_next 164 = .ok (.iload_n 1, 1) from dk_at dq33_5 (i := 5) rfl) rfl rfl, ?_⟩
  refine List.forall_mem_cons.mpr ⟨ok_callS C h_X11_isSmall ⟨rfl, rfl⟩ kw_1329 kw_1327 kw_1328 kw_11 ds_X11_isSmall ⟨by decide, by decide⟩ (show decode cX11_next 165 = .ok (.invokestatic 150, 3) from dk_at dq33_5 (i := 6) rfl) rfl, ?_⟩
  refine List.forall_mem_cons.mpr ⟨ok_istore_n C (show decode cX11_next 168 = .ok (.istore_n 2, 1) from dk_at dq33_5 (i := 7) rfl) rfl (by decide) rfl, ?_⟩
  refine List.forall_mem_cons.mpr ⟨ok_iconst C (show decode cX11_next 169 = .ok (.iconst 1, 1) from dk_at dq33_5 (i := 8) rfl) (by decide) rfl, ?_⟩
  refine List.forall_mem_cons.mpr ⟨ok_istore_n C (show decode cX11_next 170 = .ok (.istore_n 3, 1) from dk_at dq33_5 (i := 9) rfl) rfl (by decide) rfl, ?_⟩
  refine List.forall_mem_cons.mpr ⟨ok_aload_n C (show decode cX11_next 171 = .ok (.aload_n 0, 1) from dk_at dq33_5 (i := 10) rfl) rfl rfl, ?_⟩
  refine List.forall_mem_cons.mpr ⟨ok_lconst C (show decode cX11_next 172 = .ok (.lconst 0, 1) from dk_at dq33_5 (i := 11) rfl) (by decide) rfl, ?_⟩
  refine List.forall_mem_cons.mpr ⟨ok_putf C (wi_X11) tyX11 tyX11_ok nmX11 rfl (by decide) kw_1197 (Or.inl rfl) (Or.inr (Or.inl ⟨rfl, rfl⟩)) (show decode cX11_next 173 = .ok (.putfield 160, 3) from dk_at dq33_5 (i := 12) rfl) rfl, ?_⟩
  refine List.forall_mem_cons.mpr ⟨ok_aload_n C (show decode cX11_next 176 = .ok (.aload_n 0, 1) from dk_at dq33_5 (i := 13) rfl) rfl rfl, ?_⟩
  refine List.forall_mem_cons.mpr ⟨ok_iconst C (show decode cX11_next 177 = .ok (.iconst 0, 1) from dk_at dq33_5 (i := 14) rfl) (by decide) rfl, ?_⟩
  refine List.forall_mem_cons.mpr ⟨ok_putf C (wi_X11) tyX11 tyX11_ok nmX11 rfl (by decide) kw_1194 (Or.inl rfl) (Or.inl ⟨rfl, rfl⟩) (show decode cX11_next 178 = .ok (.putfield 157, 3) from dk_at dq33_5 (i := 15) rfl) rfl, ?_⟩
  refine List.forall_mem_cons.mpr ⟨ok_aload_n C (show decode cX11_next 181 = .ok (.aload_n 0, 1) from dk_at dq33_6 (i := 0) rfl) rfl rfl, ?_⟩
  refine List.forall_mem_cons.mpr ⟨ok_callV C h_X11_peek ⟨rfl, rfl⟩ rfl kw_1326 kw_1323 kw_1325 kp_50 kw_11 rfl ds_X11_peek ⟨by decide, by decide⟩ (show decode cX11_next 182 = .ok (.invokevirtual 137, 3) from dk_at dq33_6 (i := 1) rfl) rfl, ?_⟩
  refine List.forall_mem_cons.mpr ⟨ok_callS C h_X11_isSmall ⟨rfl, rfl⟩ kw_1329 kw_1327 kw_1328 kw_11 ds_X11_isSmall ⟨by decide, by decide⟩ (show decode cX11_next 185 = .ok (.invokestatic 150, 3) from dk_at dq33_6 (i := 2) rfl) rfl, ?_⟩
  refine List.forall_mem_cons.mpr ⟨ok_ifne C (show decode cX11_next 188 = .ok (.ifCond .ne 13, 3) from dk_at dq33_6 (i := 3) rfl) (tg := 201) (by decide) rfl rfl, ?_⟩
  refine List.forall_mem_cons.mpr ⟨ok_aload_n C (show decode cX11_next 191 = .ok (.aload_n 0, 1) from dk_at dq33_6 (i := 4) rfl) rfl rfl, ?_⟩
  refine List.forall_mem_cons.mpr ⟨ok_callV C h_X11_peek ⟨rfl, rfl⟩ rfl kw_1326 kw_1323 kw_1325 kp_50 kw_11 rfl ds_X11_peek ⟨by decide, by decide⟩ (show decode cX11_next 192 = .ok (.invokevirtual 137, 3) from dk_at dq33_6 (i := 5) rfl) rfl, ?_⟩
  refine List.forall_mem_cons.mpr ⟨ok_callS C h_X11_isDigit ⟨rfl, rfl⟩ kw_1332 kw_1330 kw_1331 kw_11 ds_X11_isDigit ⟨by decide, by decide⟩ (show decode cX11_next 195 = .ok (.invokestatic 154, 3) from dk_at dq33_6 (i := 6) rfl) rfl, ?_⟩
  refine List.forall_mem_cons.mpr ⟨ok_ifeq C (show decode cX11_next 198 = .ok (.ifCond .eq 100, 3) from dk_at dq33_6 (i := 7) rfl) (tg := 298) (by decide) rfl rfl, ?_⟩
  refine List.forall_mem_cons.mpr ⟨ok_iload_n C (show decode cX11_next 201 = .ok (.iload_n 3, 1) from dk_at dq33_6 (i := 8) rfl) rfl rfl, ?_⟩
  refine List.forall_mem_cons.mpr ⟨ok_ifeq C (show decode cX11_next 202 = .ok (.ifCond .eq 18, 3) from dk_at dq33_6 (i := 9) rfl) (tg := 220) (by decide) rfl rfl, ?_⟩
  refine List.forall_mem_cons.mpr ⟨ok_aload_n C (show decode cX11_next 205 = .ok (.aload_n 0, 1) from dk_at dq33_6 (i := 10) rfl) rfl rfl, ?_⟩
  refine List.forall_mem_cons.mpr ⟨ok_callV C h_X11_peek ⟨rfl, rfl⟩ rfl kw_1326 kw_1323 kw_1325 kp_50 kw_11 rfl ds_X11_peek ⟨by decide, by decide⟩ (show decode cX11_next 206 = .ok (.invokevirtual 137, 3) from dk_at dq33_6 (i := 11) rfl) rfl, ?_⟩
  refine List.forall_mem_cons.mpr ⟨ok_callS C h_X11_isSmall ⟨rfl, rfl⟩ kw_1329 kw_1327 kw_1328 kw_11 ds_X11_isSmall ⟨by decide, by decide⟩ (show decode cX11_next 209 = .ok (.invokestatic 150, 3) from dk_at dq33_6 (i := 12) rfl) rfl, ?_⟩
  refine List.forall_mem_cons.mpr ⟨ok_iload_n C (show decode cX11_next 212 = .ok (.iload_n 2, 1) from dk_at dq33_6 (i := 13) rfl) rfl rfl, ?_⟩
  refine List.forall_mem_cons.mpr ⟨ok_icmpne C (show decode cX11_next 213 = .ok (.if_icmp .ne 7, 3) from dk_at dq33_6 (i := 14) rfl) (tg := 220) (by decide) rfl rfl, ?_⟩
  refine List.forall_mem_cons.mpr ⟨ok_iconst C (show decode cX11_next 216 = .ok (.iconst 1, 1) from dk_at dq33_6 (i := 15) rfl) (by decide) rfl, ?_⟩
  refine List.forall_mem_cons.mpr ⟨ok_goto C (show decode cX11_next 217 = .ok (.goto 4, 3) from dk_at dq33_7 (i := 0) rfl) (tg := 221) (by decide) rfl, ?_⟩
  refine List.forall_mem_cons.mpr ⟨ok_iconst C (show decode cX11_next 220 = .ok (.iconst 0, 1) from dk_at dq33_7 (i := 1) rfl) (by decide) rfl, ?_⟩
  refine List.forall_mem_cons.mpr ⟨ok_istore_n C (show decode cX11_next 221 = .ok (.istore_n 3, 1) from dk_at dq33_7 (i := 2) rfl) rfl (by decide) rfl, ?_⟩
  refine List.forall_mem_cons.mpr ⟨ok_aload_n C (show decode cX11_next 222 = .ok (.aload_n 0, 1) from dk_at dq33_7 (i := 3) rfl) rfl rfl, ?_⟩
  refine List.forall_mem_cons.mpr ⟨ok_getf C (wi_X11) rfl (by decide) kw_1193 (show decode cX11_next 223 = .ok (.getfield 144, 3) from dk_at dq33_7 (i := 4) rfl) rfl, ?_⟩
  refine List.forall_mem_cons.mpr ⟨ok_bipush C (show decode cX11_next 226 = .ok (.bipush 7, 2) from dk_at dq33_7 (i := 5) rfl) (by decide) rfl, ?_⟩
  refine List.forall_mem_cons.mpr ⟨ok_icmpge C (show decode cX11_next 228 = .ok (.if_icmp .ge 20, 3) from dk_at dq33_7 (i := 6) rfl) (tg := 248) (by decide) rfl rfl, ?_⟩
  refine List.forall_mem_cons.mpr ⟨ok_aload_n C (show decode cX11_next 231 = .ok (.aload_n 0, 1) from dk_at dq33_7 (i := 7) rfl) rfl rfl, ?_⟩
  refine List.forall_mem_cons.mpr ⟨ok_aload_n C (show decode cX11_next 232 = .ok (.aload_n 0, 1) from dk_at dq33_7 (i := 8) rfl) rfl rfl, ?_⟩
  refine List.forall_mem_cons.mpr ⟨ok_getf C (wi_X11) rfl (by decide) kw_1197 (show decode cX11_next 233 = .ok (.getfield 160, 3) from dk_at dq33_7 (i := 9) rfl) rfl, ?_⟩
  refine List.forall_mem_cons.mpr ⟨ok_bipush C (show decode cX11_next 236 = .ok (.bipush 8, 2) from dk_at dq33_7 (i := 10) rfl) (by decide) rfl, ?_⟩
  refine List.forall_mem_cons.mpr ⟨ok_lshl C (show decode cX11_next 238 = .ok (.lshl, 1) from dk_at dq33_7 (i := 11) rfl) rfl, ?_⟩
  refine List.forall_mem_cons.mpr ⟨ok_aload_n C (show decode cX11_next 239 = .ok (.aload_n 0, 1) from dk_at dq33_7 (i := 12) rfl) rfl rfl, ?_⟩
  refine List.forall_mem_cons.mpr ⟨ok_callV C h_X11_peek ⟨rfl, rfl⟩ rfl kw_1326 kw_1323 kw_1325 kp_50 kw_11 rfl ds_X11_peek ⟨by decide, by decide⟩ (show decode cX11_next 240 = .ok (.invokevirtual 137, 3) from dk_at dq33_7 (i := 13) rfl) rfl, ?_⟩
  refine List.forall_mem_cons.mpr ⟨ok_i2l C (show decode cX11_next 243 = .ok (.i2l, 1) from dk_at dq33_7 (i := 14) rfl) rfl, ?_⟩
  refine List.forall_mem_cons.mpr ⟨ok_lor C (show decode cX11_next 244 = .ok (.lor, 1) from dk_at dq33_7 (i := 15) rfl) rfl, ?_⟩
  refine List.forall_mem_cons.mpr ⟨ok_putf C (wi_X11) tyX11 tyX11_ok nmX11 rfl (by decide) kw_1197 (Or.inl rfl) (Or.inr (Or.inl ⟨rfl, rfl⟩)) (show decode cX11_next 245 = .ok (.putfield 160, 3) from dk_at dq33_8 (i := 0) rfl) rfl, ?_⟩
  refine List.forall_mem_cons.mpr ⟨ok_aload_n C (show decode cX11_next 248 = .ok (.aload_n 0, 1) from dk_at dq33_8 (i := 1) rfl) rfl rfl, ?_⟩
  refine List.forall_mem_cons.mpr ⟨ok_getf C (wi_X11) rfl (by decide) kw_1193 (show decode cX11_next 249 = .ok (.getfield 144, 3) from dk_at dq33_8 (i := 2) rfl) rfl, ?_⟩
  refine List.forall_mem_cons.mpr ⟨ok_iconst C (show decode cX11_next 252 = .ok (.iconst 3, 1) from dk_at dq33_8 (i := 3) rfl) (by decide) rfl, ?_⟩
  refine List.forall_mem_cons.mpr ⟨ok_icmpge C (show decode cX11_next 253 = .ok (.if_icmp .ge 22, 3) from dk_at dq33_8 (i := 4) rfl) (tg := 275) (by decide) rfl rfl, ?_⟩
  refine List.forall_mem_cons.mpr ⟨ok_aload_n C (show decode cX11_next 256 = .ok (.aload_n 0, 1) from dk_at dq33_8 (i := 5) rfl) rfl rfl, ?_⟩
  refine List.forall_mem_cons.mpr ⟨ok_bipush C (show decode cX11_next 257 = .ok (.bipush 10, 2) from dk_at dq33_8 (i := 6) rfl) (by decide) rfl, ?_⟩
  refine List.forall_mem_cons.mpr ⟨ok_aload_n C (show decode cX11_next 259 = .ok (.aload_n 0, 1) from dk_at dq33_8 (i := 7) rfl) rfl rfl, ?_⟩
  refine List.forall_mem_cons.mpr ⟨ok_getf C (wi_X11) rfl (by decide) kw_1194 (show decode cX11_next 260 = .ok (.getfield 157, 3) from dk_at dq33_8 (i := 8) rfl) rfl, ?_⟩
  refine List.forall_mem_cons.mpr ⟨ok_imul C (show decode cX11_next 263 = .ok (.imul, 1) from dk_at dq33_8 (i := 9) rfl) rfl, ?_⟩
  refine List.forall_mem_cons.mpr ⟨ok_aload_n C (show decode cX11_next 264 = .ok (.aload_n 0, 1) from dk_at dq33_8 (i := 10) rfl) rfl rfl, ?_⟩
  refine List.forall_mem_cons.mpr ⟨ok_callV C h_X11_peek ⟨rfl, rfl⟩ rfl kw_1326 kw_1323 kw_1325 kp_50 kw_11 rfl ds_X11_peek ⟨by decide, by decide⟩ (show decode cX11_next 265 = .ok (.invokevirtual 137, 3) from dk_at dq33_8 (i := 11) rfl) rfl, ?_⟩
  refine List.forall_mem_cons.mpr ⟨ok_iadd C (show decode cX11_next 268 = .ok (.iadd, 1) from dk_at dq33_8 (i := 12) rfl) rfl, ?_⟩
  refine List.forall_mem_cons.mpr ⟨ok_bipush C (show decode cX11_next 269 = .ok (.bipush 48, 2) from dk_at dq33_8 (i := 13) rfl) (by decide) rfl, ?_⟩
  refine List.forall_mem_cons.mpr ⟨ok_isub C (show decode cX11_next 271 = .ok (.isub, 1) from dk_at dq33_8 (i := 14) rfl) rfl, ?_⟩
  refine List.forall_mem_cons.mpr ⟨ok_putf C (wi_X11) tyX11 tyX11_ok nmX11 rfl (by decide) kw_1194 (Or.inl rfl) (Or.inl ⟨rfl, rfl⟩) (show decode cX11_next 272 = .ok (.putfield 157, 3) from dk_at dq33_8 (i := 15) rfl) rfl, ?_⟩
  refine List.forall_mem_cons.mpr ⟨ok_aload_n C (show decode cX11_next 275 = .ok (.aload_n 0, 1) from dk_at dq33_9 (i := 0) rfl) rfl rfl, ?_⟩
  refine List.forall_mem_cons.mpr ⟨ok_dup C (show decode cX11_next 276 = .ok (.dup, 1) from dk_at dq33_9 (i := 1) rfl) rfl, ?_⟩
  refine List.forall_mem_cons.mpr ⟨ok_getf C (wi_X11) rfl (by decide) kw_1193 (show decode cX11_next 277 = .ok (.getfield 144, 3) from dk_at dq33_9 (i := 2) rfl) rfl, ?_⟩
  refine List.forall_mem_cons.mpr ⟨ok_iconst C (show decode cX11_next 280 = .ok (.iconst 1, 1) from dk_at dq33_9 (i := 3) rfl) (by decide) rfl, ?_⟩
  refine List.forall_mem_cons.mpr ⟨ok_iadd C (show decode cX11_next 281 = .ok (.iadd, 1) from dk_at dq33_9 (i := 4) rfl) rfl, ?_⟩
  refine List.forall_mem_cons.mpr ⟨ok_putf C (wi_X11) tyX11 tyX11_ok nmX11 rfl (by decide) kw_1193 (Or.inl rfl) (Or.inl ⟨rfl, rfl⟩) (show decode cX11_next 282 = .ok (.putfield 144, 3) from dk_at dq33_9 (i := 5) rfl) rfl, ?_⟩
  refine List.forall_mem_cons.mpr ⟨ok_aload_n C (show decode cX11_next 285 = .ok (.aload_n 0, 1) from dk_at dq33_9 (i := 6) rfl) rfl rfl, ?_⟩
  refine List.forall_mem_cons.mpr ⟨ok_dup C (show decode cX11_next 286 = .ok (.dup, 1) from dk_at dq33_9 (i := 7) rfl) rfl, ?_⟩
  refine List.forall_mem_cons.mpr ⟨ok_getf C (wi_X11) rfl (by decide) kw_1184 (show decode cX11_next 287 = .ok (.getfield 21, 3) from dk_at dq33_9 (i := 8) rfl) rfl, ?_⟩
  refine List.forall_mem_cons.mpr ⟨ok_iconst C (show decode cX11_next 290 = .ok (.iconst 1, 1) from dk_at dq33_9 (i := 9) rfl) (by decide) rfl, ?_⟩
  refine List.forall_mem_cons.mpr ⟨ok_iadd C (show decode cX11_next 291 = .ok (.iadd, 1) from dk_at dq33_9 (i := 10) rfl) rfl, ?_⟩
  refine List.forall_mem_cons.mpr ⟨ok_putf C (wi_X11) tyX11 tyX11_ok nmX11 rfl (by decide) kw_1184 (Or.inl rfl) (Or.inl ⟨rfl, rfl⟩) (show decode cX11_next 292 = .ok (.putfield 21, 3) from dk_at dq33_9 (i := 11) rfl) rfl, ?_⟩
  refine List.forall_mem_cons.mpr ⟨ok_goto C (show decode cX11_next 295 = .ok (.goto (-114), 3) from dk_at dq33_9 (i := 12) rfl) (tg := 181) (by decide) rfl, ?_⟩
  refine List.forall_mem_cons.mpr ⟨ok_aload_n C (show decode cX11_next 298 = .ok (.aload_n 0, 1) from dk_at dq33_9 (i := 13) rfl) rfl rfl, ?_⟩
  refine List.forall_mem_cons.mpr ⟨ok_iload_n C (show decode cX11_next 299 = .ok (.iload_n 3, 1) from dk_at dq33_9 (i := 14) rfl) rfl rfl, ?_⟩
  refine List.forall_mem_cons.mpr ⟨ok_ifeq C (show decode cX11_next 300 = .ok (.ifCond .eq 20, 3) from dk_at dq33_9 (i := 15) rfl) (tg := 320) (by decide) rfl rfl, ?_⟩
  refine List.forall_mem_cons.mpr ⟨ok_aload_n C (show decode cX11_next 303 = .ok (.aload_n 0, 1) from dk_at dq33_10 (i := 0) rfl) rfl rfl, ?_⟩
  refine List.forall_mem_cons.mpr ⟨ok_getf C (wi_X11) rfl (by decide) kw_1193 (show decode cX11_next 304 = .ok (.getfield 144, 3) from dk_at dq33_10 (i := 1) rfl) rfl, ?_⟩
  refine List.forall_mem_cons.mpr ⟨ok_iload_n C (show decode cX11_next 307 = .ok (.iload_n 2, 1) from dk_at dq33_10 (i := 2) rfl) rfl rfl, ?_⟩
  refine List.forall_mem_cons.mpr ⟨ok_ifeq C (show decode cX11_next 308 = .ok (.ifCond .eq 8, 3) from dk_at dq33_10 (i := 3) rfl) (tg := 316) (by decide) rfl rfl, ?_⟩
  refine List.forall_mem_cons.mpr ⟨ok_bipush C (show decode cX11_next 311 = .ok (.bipush 7, 2) from dk_at dq33_10 (i := 4) rfl) (by decide) rfl, ?_⟩
  refine List.forall_mem_cons.mpr ⟨ok_goto C (show decode cX11_next 313 = .ok (.goto 4, 3) from dk_at dq33_10 (i := 5) rfl) (tg := 317) (by decide) rfl, ?_⟩
  refine List.forall_mem_cons.mpr ⟨ok_iconst C (show decode cX11_next 316 = .ok (.iconst 3, 1) from dk_at dq33_10 (i := 6) rfl) (by decide) rfl, ?_⟩
  refine List.forall_mem_cons.mpr ⟨ok_icmple C (show decode cX11_next 317 = .ok (.if_icmp .le 7, 3) from dk_at dq33_10 (i := 7) rfl) (tg := 324) (by decide) rfl rfl, ?_⟩
  refine List.forall_mem_cons.mpr ⟨ok_iconst C (show decode cX11_next 320 = .ok (.iconst 4, 1) from dk_at dq33_10 (i := 8) rfl) (by decide) rfl, ?_⟩
  refine List.forall_mem_cons.mpr ⟨ok_goto C (show decode cX11_next 321 = .ok (.goto 12, 3) from dk_at dq33_10 (i := 9) rfl) (tg := 333) (by decide) rfl, ?_⟩
  refine List.forall_mem_cons.mpr ⟨ok_iload_n C (show decode cX11_next 324 = .ok (.iload_n 2, 1) from dk_at dq33_10 (i := 10) rfl) rfl rfl, ?_⟩
  refine List.forall_mem_cons.mpr ⟨ok_ifeq C (show decode cX11_next 325 = .ok (.ifCond .eq 7, 3) from dk_at dq33_10 (i := 11) rfl) (tg := 332) (by decide) rfl rfl, ?_⟩
  refine List.forall_mem_cons.mpr ⟨ok_iconst C (show decode cX11_next 328 = .ok (.iconst 1, 1) from dk_at dq33_10 (i := 12) rfl) (by decide) rfl, ?_⟩
  refine List.forall_mem_cons.mpr ⟨ok_goto C (show decode cX11_next 329 = .ok (.goto 4, 3) from dk_at dq33_10 (i := 13) rfl) (tg := 333) (by decide) rfl, ?_⟩
  refine List.forall_mem_cons.mpr ⟨ok_iconst C (show decode cX11_next 332 = .ok (.iconst 2, 1) from dk_at dq33_10 (i := 14) rfl) (by decide) rfl, ?_⟩
  refine List.forall_mem_cons.mpr ⟨ok_putf C (wi_X11) tyX11 tyX11_ok nmX11 rfl (by decide) kw_1191 (Or.inl rfl) (Or.inl ⟨rfl, rfl⟩) (show decode cX11_next 333 = .ok (.putfield 147, 3) from dk_at dq33_10 (i := 15) rfl) rfl, ?_⟩
  refine List.forall_mem_cons.mpr ⟨ok_vret C rfl (show decode cX11_next 336 = .ok (.return_, 1) from dk_at dq33_11 (i := 0) rfl), ?_⟩
  exact fun _ h => absurd h List.not_mem_nil
def L_X11_bad : List (Nat × ab_A) := [
  (0, ab_nx 1 (ab_aload 0)),
  (1, ab_nx 2 (ab_iload 1)),
  (2, ab_nx 5 (ab_putf 11 15 0)),
  (5, ab_nx 6 (ab_aload 0)),
  (6, ab_nx 7 (ab_aload 0)),
  (7, ab_nx 10 (ab_getf 11 12)),
  (10, ab_nx 13 (ab_putf 11 16 0)),
  (13, ab_nx 14 (ab_lit (.int 0))),
  (14, ab_zret 0 0)]
set_option maxRecDepth 100000 in
theorem dq33_12 : ([(0, .aload_n 0, 1), (1, .iload_n 1, 1), (2, .putfield 164, 3), (5, .aload_n 0, 1), (6, .aload_n 0, 1), (7, .getfield 141, 3), (10, .putfield 167, 3), (13, .iconst 0, 1), (14, .ireturn, 1)] : List (Nat × Instr × Nat)).all (fun q => decide (decode cX11_bad q.1 = .ok q.2)) = true := by decide +kernel
set_option maxRecDepth 100000 in
set_option maxHeartbeats 4000000 in
theorem M_X11_bad {l : Launch} {b : ab_B} {D : va_G} {cA : Nat → ClassId} : ab_M l b D ab_cl cA (ab_E0 b) yX11_bad (Cond.code yX11_bad cX11_bad 2 (some .boolean) :: ab_G) ({ frames := 1, cells := 0, slots := 0, locals := 100 } : Room) (ab_X (ab_T L_X11_bad) 2) := by
  refine ab_meth (ret := (some .boolean)) L_X11_bad (by decide) rfl fun p e R s m args below meth c o C => ?_
  unfold L_X11_bad
  refine List.forall_mem_cons.mpr ⟨ok_aload_n C (show decode cX11_bad 0 = .ok (.aload_n 0, 1) from dk_at dq33_12 (i := 0) rfl) rfl rfl, ?_⟩
  refine List.forall_mem_cons.mpr ⟨ok_iload_n C (show decode cX11_bad 1 = .ok (.iload_n 1, 1) from dk_at dq33_12 (i := 1) rfl) rfl rfl, ?_⟩
  refine List.forall_mem_cons.mpr ⟨ok_putf C (wi_X11) tyX11 tyX11_ok nmX11 rfl (by decide) kw_1195 (Or.inl rfl) (Or.inl ⟨rfl, rfl⟩) (show decode cX11_bad 2 = .ok (.putfield 164, 3) from dk_at dq33_12 (i := 2) rfl) rfl, ?_⟩
  refine List.forall_mem_cons.mpr ⟨ok_aload_n C (show decode cX11_bad 5 = .ok (.aload_n 0, 1) from dk_at dq33_12 (i := 3) rfl) rfl rfl, ?_⟩
  refine List.forall_mem_cons.mpr ⟨ok_aload_n C (show decode cX11_bad 6 = .ok (.aload_n 0, 1) from dk_at dq33_12 (i := 4) rfl) rfl rfl, ?_⟩
  refine List.forall_mem_cons.mpr ⟨ok_getf C (wi_X11) rfl (by decide) kw_1192 (show decode cX11_bad 7 = .ok (.getfield 141, 3) from dk_at dq33_12 (i := 5) rfl) rfl, ?_⟩
  refine List.forall_mem_cons.mpr ⟨ok_putf C (wi_X11) tyX11 tyX11_ok nmX11 rfl (by decide) kw_1196 (Or.inl rfl) (Or.inl ⟨rfl, rfl⟩) (show decode cX11_bad 10 = .ok (.putfield 167, 3) from dk_at dq33_12 (i := 6) rfl) rfl, ?_⟩
  refine List.forall_mem_cons.mpr ⟨ok_iconst C (show decode cX11_bad 13 = .ok (.iconst 0, 1) from dk_at dq33_12 (i := 7) rfl) (by decide) rfl, ?_⟩
  refine List.forall_mem_cons.mpr ⟨ok_zret C rfl (show decode cX11_bad 14 = .ok (.ireturn, 1) from dk_at dq33_12 (i := 8) rfl), ?_⟩
  exact fun _ h => absurd h List.not_mem_nil
def L_X11_isWord : List (Nat × ab_A) := [
  (0, ab_nx 1 (ab_aload 0)),
  (1, ab_nx 4 (ab_getf 11 11)),
  (4, ab_nx 5 (ab_lit (.int 1))),
  (5, ab_icmp 8 21 (fun x y => !decide (x = y))),
  (8, ab_nx 9 (ab_aload 0)),
  (9, ab_nx 12 (ab_getf 11 17)),
  (12, ab_nx 13 (ab_lload 1)),
  (13, ab_nx 14 ab_lcmp),
  (14, ab_if 17 21 (fun x => !decide (x = 0))),
  (17, ab_nx 18 (ab_lit (.int 1))),
  (18, ab_goto 22),
  (21, ab_nx 22 (ab_lit (.int 0))),
  (22, ab_zret 0 0)]
set_option maxRecDepth 100000 in
theorem dq33_13 : ([(0, .aload_n 0, 1), (1, .getfield 147, 3), (4, .iconst 1, 1), (5, .if_icmp .ne 16, 3), (8, .aload_n 0, 1), (9, .getfield 160, 3), (12, .lload_n 1, 1), (13, .lcmp, 1), (14, .ifCond .ne 7, 3), (17, .iconst 1, 1), (18, .goto 4, 3), (21, .iconst 0, 1), (22, .ireturn, 1)] : List (Nat × Instr × Nat)).all (fun q => decide (decode cX11_isWord q.1 = .ok q.2)) = true := by decide +kernel
set_option maxRecDepth 100000 in
set_option maxHeartbeats 4000000 in
theorem M_X11_isWord {l : Launch} {b : ab_B} {D : va_G} {cA : Nat → ClassId} : ab_M l b D ab_cl cA (ab_E0 b) yX11_isWord (Cond.code yX11_isWord cX11_isWord 3 (some .boolean) :: ab_G) ({ frames := 1, cells := 0, slots := 0, locals := 100 } : Room) (ab_X (ab_T L_X11_isWord) 3) := by
  refine ab_meth (ret := (some .boolean)) L_X11_isWord (by decide) rfl fun p e R s m args below meth c o C => ?_
  unfold L_X11_isWord
  refine List.forall_mem_cons.mpr ⟨ok_aload_n C (show decode cX11_isWord 0 = .ok (.aload_n 0, 1) from dk_at dq33_13 (i := 0) rfl) rfl rfl, ?_⟩
  refine List.forall_mem_cons.mpr ⟨ok_getf C (wi_X11) rfl (by decide) kw_1191 (show decode cX11_isWord 1 = .ok (.getfield 147, 3) from dk_at dq33_13 (i := 1) rfl) rfl, ?_⟩
  refine List.forall_mem_cons.mpr ⟨ok_iconst C (show decode cX11_isWord 4 = .ok (.iconst 1, 1) from dk_at dq33_13 (i := 2) rfl) (by decide) rfl, ?_⟩
  refine List.forall_mem_cons.mpr ⟨ok_icmpne C (show decode cX11_isWord 5 = .ok (.if_icmp .ne 16, 3) from dk_at dq33_13 (i := 3) rfl) (tg := 21) (by decide) rfl rfl, ?_⟩
  refine List.forall_mem_cons.mpr ⟨ok_aload_n C (show decode cX11_isWord 8 = .ok (.aload_n 0, 1) from dk_at dq33_13 (i := 4) rfl) rfl rfl, ?_⟩
  refine List.forall_mem_cons.mpr ⟨ok_getf C (wi_X11) rfl (by decide) kw_1197 (show decode cX11_isWord 9 = .ok (.getfield 160, 3) from dk_at dq33_13 (i := 5) rfl) rfl, ?_⟩
  refine List.forall_mem_cons.mpr ⟨ok_lload_n C (show decode cX11_isWord 12 = .ok (.lload_n 1, 1) from dk_at dq33_13 (i := 6) rfl) rfl rfl, ?_⟩
  refine List.forall_mem_cons.mpr ⟨ok_lcmp C (show decode cX11_isWord 13 = .ok (.lcmp, 1) from dk_at dq33_13 (i := 7) rfl) rfl, ?_⟩
  refine List.forall_mem_cons.mpr ⟨ok_ifne C (show decode cX11_isWord 14 = .ok (.ifCond .ne 7, 3) from dk_at dq33_13 (i := 8) rfl) (tg := 21) (by decide) rfl rfl, ?_⟩
  refine List.forall_mem_cons.mpr ⟨ok_iconst C (show decode cX11_isWord 17 = .ok (.iconst 1, 1) from dk_at dq33_13 (i := 9) rfl) (by decide) rfl, ?_⟩
  refine List.forall_mem_cons.mpr ⟨ok_goto C (show decode cX11_isWord 18 = .ok (.goto 4, 3) from dk_at dq33_13 (i := 10) rfl) (tg := 22) (by decide) rfl, ?_⟩
  refine List.forall_mem_cons.mpr ⟨ok_iconst C (show decode cX11_isWord 21 = .ok (.iconst 0, 1) from dk_at dq33_13 (i := 11) rfl) (by decide) rfl, ?_⟩
  refine List.forall_mem_cons.mpr ⟨ok_zret C rfl (show decode cX11_isWord 22 = .ok (.ireturn, 1) from dk_at dq33_13 (i := 12) rfl), ?_⟩
  exact fun _ h => absurd h List.not_mem_nil
def L_X11_isSign : List (Nat × ab_A) := [
  (0, ab_nx 1 (ab_aload 0)),
  (1, ab_nx 4 (ab_getf 11 11)),
  (4, ab_nx 5 (ab_lit (.int 3))),
  (5, ab_icmp 8 20 (fun x y => !decide (x = y))),
  (8, ab_nx 9 (ab_aload 0)),
  (9, ab_nx 12 (ab_getf 11 14)),
  (12, ab_nx 13 (ab_iload 1)),
  (13, ab_icmp 16 20 (fun x y => !decide (x = y))),
  (16, ab_nx 17 (ab_lit (.int 1))),
  (17, ab_goto 21),
  (20, ab_nx 21 (ab_lit (.int 0))),
  (21, ab_zret 0 0)]
set_option maxRecDepth 100000 in
theorem dq33_14 : ([(0, .aload_n 0, 1), (1, .getfield 147, 3), (4, .iconst 3, 1), (5, .if_icmp .ne 15, 3), (8, .aload_n 0, 1), (9, .getfield 157, 3), (12, .iload_n 1, 1), (13, .if_icmp .ne 7, 3), (16, .iconst 1, 1), (17, .goto 4, 3), (20, .iconst 0, 1), (21, .ireturn, 1)] : List (Nat × Instr × Nat)).all (fun q => decide (decode cX11_isSign q.1 = .ok q.2)) = true := by decide +kernel
set_option maxRecDepth 100000 in
set_option maxHeartbeats 4000000 in
theorem M_X11_isSign {l : Launch} {b : ab_B} {D : va_G} {cA : Nat → ClassId} : ab_M l b D ab_cl cA (ab_E0 b) yX11_isSign (Cond.code yX11_isSign cX11_isSign 2 (some .boolean) :: ab_G) ({ frames := 1, cells := 0, slots := 0, locals := 100 } : Room) (ab_X (ab_T L_X11_isSign) 2) := by
  refine ab_meth (ret := (some .boolean)) L_X11_isSign (by decide) rfl fun p e R s m args below meth c o C => ?_
  unfold L_X11_isSign
  refine List.forall_mem_cons.mpr ⟨ok_aload_n C (show decode cX11_isSign 0 = .ok (.aload_n 0, 1) from dk_at dq33_14 (i := 0) rfl) rfl rfl, ?_⟩
  refine List.forall_mem_cons.mpr ⟨ok_getf C (wi_X11) rfl (by decide) kw_1191 (show decode cX11_isSign 1 = .ok (.getfield 147, 3) from dk_at dq33_14 (i := 1) rfl) rfl, ?_⟩
  refine List.forall_mem_cons.mpr ⟨ok_iconst C (show decode cX11_isSign 4 = .ok (.iconst 3, 1) from dk_at dq33_14 (i := 2) rfl) (by decide) rfl, ?_⟩
  refine List.forall_mem_cons.mpr ⟨ok_icmpne C (show decode cX11_isSign 5 = .ok (.if_icmp .ne 15, 3) from dk_at dq33_14 (i := 3) rfl) (tg := 20) (by decide) rfl rfl, ?_⟩
  refine List.forall_mem_cons.mpr ⟨ok_aload_n C (show decode cX11_isSign 8 = .ok (.aload_n 0, 1) from dk_at dq33_14 (i := 4) rfl) rfl rfl, ?_⟩
  refine List.forall_mem_cons.mpr ⟨ok_getf C (wi_X11) rfl (by decide) kw_1194 (show decode cX11_isSign 9 = .ok (.getfield 157, 3) from dk_at dq33_14 (i := 5) rfl) rfl, ?_⟩
  refine List.forall_mem_cons.mpr ⟨ok_iload_n C (show decode cX11_isSign 12 = .ok (.iload_n 1, 1) from dk_at dq33_14 (i := 6) rfl) rfl rfl, ?_⟩
  refine List.forall_mem_cons.mpr ⟨ok_icmpne C (show decode cX11_isSign 13 = .ok (.if_icmp .ne 7, 3) from dk_at dq33_14 (i := 7) rfl) (tg := 20) (by decide) rfl rfl, ?_⟩
  refine List.forall_mem_cons.mpr ⟨ok_iconst C (show decode cX11_isSign 16 = .ok (.iconst 1, 1) from dk_at dq33_14 (i := 8) rfl) (by decide) rfl, ?_⟩
  refine List.forall_mem_cons.mpr ⟨ok_goto C (show decode cX11_isSign 17 = .ok (.goto 4, 3) from dk_at dq33_14 (i := 9) rfl) (tg := 21) (by decide) rfl, ?_⟩
  refine List.forall_mem_cons.mpr ⟨ok_iconst C (show decode cX11_isSign 20 = .ok (.iconst 0, 1) from dk_at dq33_14 (i := 10) rfl) (by decide) rfl, ?_⟩
  refine List.forall_mem_cons.mpr ⟨ok_zret C rfl (show decode cX11_isSign 21 = .ok (.ireturn, 1) from dk_at dq33_14 (i := 11) rfl), ?_⟩
  exact fun _ h => absurd h List.not_mem_nil
def L_X11_sign (f_X11_isSign : List Value → ab_H → Option ab_O) (f_X11_bad : List Value → ab_H → Option ab_O) (f_X11_next : List Value → ab_H → Option ab_O) : List (Nat × ab_A) := [
  (0, ab_nx 1 (ab_aload 0)),
  (1, ab_nx 2 (ab_iload 1)),
  (2, ab_nx 5 (ab_callV 2 11 f_X11_isSign 0 0 0 0)),
  (5, ab_if 8 14 (fun x => !decide (x = 0))),
  (8, ab_nx 9 (ab_aload 0)),
  (9, ab_nx 10 (ab_lit (.int 1))),
  (10, ab_nx 13 (ab_callV 2 11 f_X11_bad 0 0 0 0)),
  (13, ab_zret 0 0),
  (14, ab_nx 15 (ab_aload 0)),
  (15, ab_nx 18 (ab_callV 1 11 f_X11_next 0 0 0 0)),
  (18, ab_nx 19 (ab_lit (.int 1))),
  (19, ab_zret 0 0)]
set_option maxRecDepth 100000 in
theorem dq33_15 : ([(0, .aload_n 0, 1), (1, .iload_n 1, 1), (2, .invokevirtual 170, 3), (5, .ifCond .ne 9, 3), (8, .aload_n 0, 1), (9, .iconst 1, 1), (10, .invokevirtual 173, 3), (13, .ireturn, 1), (14, .aload_n 0, 1), (15, .invokevirtual 176, 3), (18, .iconst 1, 1), (19, .ireturn, 1)] : List (Nat × Instr × Nat)).all (fun q => decide (decode cX11_sign q.1 = .ok q.2)) = true := by decide +kernel
set_option maxRecDepth 100000 in
set_option maxHeartbeats 4000000 in
theorem M_X11_sign {l : Launch} {b : ab_B} {D : va_G} {cA : Nat → ClassId} {f_X11_isSign : List Value → ab_H → Option ab_O} (h_X11_isSign : ab_M l b D ab_cl cA (ab_E0 b) yX11_isSign (Cond.code yX11_isSign cX11_isSign 2 (some .boolean) :: ab_G) ({ frames := 1, cells := 0, slots := 0, locals := 100 } : Room) f_X11_isSign) {f_X11_bad : List Value → ab_H → Option ab_O} (h_X11_bad : ab_M l b D ab_cl cA (ab_E0 b) yX11_bad (Cond.code yX11_bad cX11_bad 2 (some .boolean) :: ab_G) ({ frames := 1, cells := 0, slots := 0, locals := 100 } : Room) f_X11_bad) {f_X11_next : List Value → ab_H → Option ab_O} (h_X11_next : ab_M l b D ab_cl cA (ab_E0 b) yX11_next (Cond.code yX11_next cX11_next 4 none :: ab_G) ({ frames := 2, cells := 0, slots := 0, locals := 200 } : Room) f_X11_next) : ab_M l b D ab_cl cA (ab_E0 b) yX11_sign (Cond.code yX11_sign cX11_sign 2 (some .boolean) :: ab_G) ({ frames := 3, cells := 0, slots := 0, locals := 300 } : Room) (ab_X (ab_T (L_X11_sign f_X11_isSign f_X11_bad f_X11_next)) 2) := by
  refine ab_meth (ret := (some .boolean)) (L_X11_sign f_X11_isSign f_X11_bad f_X11_next) (by decide) rfl fun p e R s m args below meth c o C => ?_
  unfold L_X11_sign
  refine List.forall_mem_cons.mpr ⟨ok_aload_n C (show decode cX11_sign 0 = .ok (.aload_n 0, 1) from dk_at dq33_15 (i := 0) rfl) rfl rfl, ?_⟩
  refine List.forall_mem_cons.mpr ⟨ok_iload_n C (show decode cX11_sign 1 = .ok (.iload_n 1, 1) from dk_at dq33_15 (i := 1) rfl) rfl rfl, ?_⟩
  refine List.forall_mem_cons.mpr ⟨ok_callV C h_X11_isSign ⟨rfl, rfl⟩ rfl kw_1390 kw_1387 kw_1389 kp_63 kw_11 rfl ds_X11_isSign ⟨by decide, by decide⟩ (show decode cX11_sign 2 = .ok (.invokevirtual 170, 3) from dk_at dq33_15 (i := 2) rfl) rfl, ?_⟩
  refine List.forall_mem_cons.mpr ⟨ok_ifne C (show decode cX11_sign 5 = .ok (.ifCond .ne 9, 3) from dk_at dq33_15 (i := 3) rfl) (tg := 14) (by decide) rfl rfl, ?_⟩
  refine List.forall_mem_cons.mpr ⟨ok_aload_n C (show decode cX11_sign 8 = .ok (.aload_n 0, 1) from dk_at dq33_15 (i := 4) rfl) rfl rfl, ?_⟩
  refine List.forall_mem_cons.mpr ⟨ok_iconst C (show decode cX11_sign 9 = .ok (.iconst 1, 1) from dk_at dq33_15 (i := 5) rfl) (by decide) rfl, ?_⟩
  refine List.forall_mem_cons.mpr ⟨ok_callV C h_X11_bad ⟨rfl, rfl⟩ rfl kw_1344 kw_1341 kw_1343 kp_53 kw_11 rfl ds_X11_bad ⟨by decide, by decide⟩ (show decode cX11_sign 10 = .ok (.invokevirtual 173, 3) from dk_at dq33_15 (i := 6) rfl) rfl, ?_⟩
  refine List.forall_mem_cons.mpr ⟨ok_zret C rfl (show decode cX11_sign 13 = .ok (.ireturn, 1) from dk_at dq33_15 (i := 7) rfl), ?_⟩
  refine List.forall_mem_cons.mpr ⟨ok_aload_n C (show decode cX11_sign 14 = .ok (.aload_n 0, 1) from dk_at dq33_15 (i := 8) rfl) rfl rfl, ?_⟩
  refine List.forall_mem_cons.mpr ⟨ok_callV C h_X11_next ⟨rfl, rfl⟩ rfl kw_1322 kw_1319 kw_1321 kp_49 kw_11 rfl ds_X11_next ⟨by decide, by decide⟩ (show decode cX11_sign 15 = .ok (.invokevirtual 176, 3) from dk_at dq33_15 (i := 9) rfl) rfl, ?_⟩
  refine List.forall_mem_cons.mpr ⟨ok_iconst C (show decode cX11_sign 18 = .ok (.iconst 1, 1) from dk_at dq33_15 (i := 10) rfl) (by decide) rfl, ?_⟩
  refine List.forall_mem_cons.mpr ⟨ok_zret C rfl (show decode cX11_sign 19 = .ok (.ireturn, 1) from dk_at dq33_15 (i := 11) rfl), ?_⟩
  exact fun _ h => absurd h List.not_mem_nil
def L_X11_isName : List (Nat × ab_A) := [
  (0, ab_nx 1 (ab_aload 0)),
  (1, ab_nx 4 (ab_getf 11 11)),
  (4, ab_nx 5 (ab_lit (.int 1))),
  (5, ab_icmp 8 12 (fun x y => !decide (x = y))),
  (8, ab_nx 9 (ab_lit (.int 1))),
  (9, ab_goto 13),
  (12, ab_nx 13 (ab_lit (.int 0))),
  (13, ab_nx 14 (ab_istore 1)),
  (14, ab_nx 15 (ab_lit (.int 0))),
  (15, ab_nx 16 (ab_istore 2)),
  (16, ab_nx 17 (ab_iload 2)),
  (17, ab_nx 19 (ab_lit (.int 25))),
  (19, ab_icmp 22 52 (fun x y => decide (y ≤ x))),
  (22, ab_nx 23 (ab_iload 1)),
  (23, ab_if 26 44 (fun x => decide (x = 0))),
  (26, ab_nx 27 (ab_aload 0)),
  (27, ab_nx 30 (ab_getf 11 17)),
  (30, ab_nx 31 (ab_aload 0)),
  (31, ab_nx 34 (ab_getf 11 10)),
  (34, ab_nx 35 (ab_iload 2)),
  (35, ab_nx 36 ab_lald),
  (36, ab_nx 37 ab_lcmp),
  (37, ab_if 40 44 (fun x => decide (x = 0))),
  (40, ab_nx 41 (ab_lit (.int 1))),
  (41, ab_goto 45),
  (44, ab_nx 45 (ab_lit (.int 0))),
  (45, ab_nx 46 (ab_istore 1)),
  (46, ab_nx 49 (ab_iinc 2 1)),
  (49, ab_goto 16),
  (52, ab_nx 53 (ab_iload 1)),
  (53, ab_zret 0 0)]
set_option maxRecDepth 100000 in
theorem dq33_16 : ([(0, .aload_n 0, 1), (1, .getfield 147, 3), (4, .iconst 1, 1), (5, .if_icmp .ne 7, 3), (8, .iconst 1, 1), (9, .goto 4, 3), (12, .iconst 0, 1), (13, .istore_n 1, 1), (14, .iconst 0, 1), (15, .istore_n 2, 1), (16, .iload_n 2, 1), (17, .bipush 25, 2), (19, .if_icmp .ge 33, 3), (22, .iload_n 1, 1), (23, .ifCond .eq 21, 3), (26, .aload_n 0, 1)] : List (Nat × Instr × Nat)).all (fun q => decide (decode cX11_isName q.1 = .ok q.2)) = true := by decide +kernel
set_option maxRecDepth 100000 in
theorem dq33_17 : ([(27, .getfield 160, 3), (30, .aload_n 0, 1), (31, .getfield 47, 3), (34, .iload_n 2, 1), (35, .laload, 1), (36, .lcmp, 1), (37, .ifCond .eq 7, 3), (40, .iconst 1, 1), (41, .goto 4, 3), (44, .iconst 0, 1), (45, .istore_n 1, 1), (46, .iinc 2 1, 3), (49, .goto (-33), 3), (52, .iload_n 1, 1), (53, .ireturn, 1)] : List (Nat × Instr × Nat)).all (fun q => decide (decode cX11_isName q.1 = .ok q.2)) = true := by decide +kernel
set_option maxRecDepth 100000 in
set_option maxHeartbeats 4000000 in
theorem M_X11_isName {l : Launch} {b : ab_B} {D : va_G} {cA : Nat → ClassId} : ab_M l b D ab_cl cA (ab_E0 b) yX11_isName (Cond.code yX11_isName cX11_isName 3 (some .boolean) :: ab_G) ({ frames := 1, cells := 0, slots := 0, locals := 100 } : Room) (ab_X (ab_T L_X11_isName) 3) := by
  refine ab_meth (ret := (some .boolean)) L_X11_isName (by decide) rfl fun p e R s m args below meth c o C => ?_
  unfold L_X11_isName
  refine List.forall_mem_cons.mpr ⟨ok_aload_n C (show decode cX11_isName 0 = .ok (.aload_n 0, 1) from dk_at dq33_16 (i := 0) rfl) rfl rfl, ?_⟩
  refine List.forall_mem_cons.mpr ⟨ok_getf C (wi_X11) rfl (by decide) kw_1191 (show decode cX11_isName 1 = .ok (.getfield 147, 3) from dk_at dq33_16 (i := 1) rfl) rfl, ?_⟩
  refine List.forall_mem_cons.mpr ⟨ok_iconst C (show decode cX11_isName 4 = .ok (.iconst 1, 1) from dk_at dq33_16 (i := 2) rfl) (by decide) rfl, ?_⟩
  refine List.forall_mem_cons.mpr ⟨ok_icmpne C (show decode cX11_isName 5 = .ok (.if_icmp .ne 7, 3) from dk_at dq33_16 (i := 3) rfl) (tg := 12) (by decide) rfl rfl, ?_⟩
  refine List.forall_mem_cons.mpr ⟨ok_iconst C (show decode cX11_isName 8 = .ok (.iconst 1, 1) from dk_at dq33_16 (i := 4) rfl) (by decide) rfl, ?_⟩
  refine List.forall_mem_cons.mpr ⟨ok_goto C (show decode cX11_isName 9 = .ok (.goto 4, 3) from dk_at dq33_16 (i := 5) rfl) (tg := 13) (by decide) rfl, ?_⟩
  refine List.forall_mem_cons.mpr ⟨ok_iconst C (show decode cX11_isName 12 = .ok (.iconst 0, 1) from dk_at dq33_16 (i := 6) rfl) (by decide) rfl, ?_⟩
  refine List.forall_mem_cons.mpr ⟨ok_istore_n C (show decode cX11_isName 13 = .ok (.istore_n 1, 1) from dk_at dq33_16 (i := 7) rfl) rfl (by decide) rfl, ?_⟩
  refine List.forall_mem_cons.mpr ⟨ok_iconst C (show decode cX11_isName 14 = .ok (.iconst 0, 1) from dk_at dq33_16 (i := 8) rfl) (by decide) rfl, ?_⟩
  refine List.forall_mem_cons.mpr ⟨ok_istore_n C (show decode cX11_isName 15 = .ok (.istore_n 2, 1) from dk_at dq33_16 (i := 9) rfl) rfl (by decide) rfl, ?_⟩
  refine List.forall_mem_cons.mpr ⟨ok_iload_n C (show decode cX11_isName 16 = .ok (.iload_n 2, 1) from dk_at dq33_16 (i := 10) rfl) rfl rfl, ?_⟩
  refine List.forall_mem_cons.mpr ⟨ok_bipush C (show decode cX11_isName 17 = .ok (.bipush 25, 2) from dk_at dq33_16 (i := 11) rfl) (by decide) rfl, ?_⟩
  refine List.forall_mem_cons.mpr ⟨ok_icmpge C (show decode cX11_isName 19 = .ok (.if_icmp .ge 33, 3) from dk_at dq33_16 (i := 12) rfl) (tg := 52) (by decide) rfl rfl, ?_⟩
  refine List.forall_mem_cons.mpr ⟨ok_iload_n C (show decode cX11_isName 22 = .ok (.iload_n 1, 1) from dk_at dq33_16 (i := 13) rfl) rfl rfl, ?_⟩
  refine List.forall_mem_cons.mpr ⟨ok_ifeq C (show decode cX11_isName 23 = .ok (.ifCond .eq 21, 3) from dk_at dq33_16 (i := 14) rfl) (tg := 44) (by decide) rfl rfl, ?_⟩
  refine List.forall_mem_cons.mpr ⟨ok_aload_n C (show decode cX11_isName 26 = .ok (.aload_n 0, 1) from dk_at dq33_16 (i := 15) rfl) rfl rfl, ?_⟩
  refine List.forall_mem_cons.mpr ⟨ok_getf C (wi_X11) rfl (by decide) kw_1197 (show decode cX11_isName 27 = .ok (.getfield 160, 3) from dk_at dq33_17 (i := 0) rfl) rfl, ?_⟩
  refine List.forall_mem_cons.mpr ⟨ok_aload_n C (show decode cX11_isName 30 = .ok (.aload_n 0, 1) from dk_at dq33_17 (i := 1) rfl) rfl rfl, ?_⟩
  refine List.forall_mem_cons.mpr ⟨ok_getf C (wi_X11) rfl (by decide) kw_1190 (show decode cX11_isName 31 = .ok (.getfield 47, 3) from dk_at dq33_17 (i := 2) rfl) rfl, ?_⟩
  refine List.forall_mem_cons.mpr ⟨ok_iload_n C (show decode cX11_isName 34 = .ok (.iload_n 2, 1) from dk_at dq33_17 (i := 3) rfl) rfl rfl, ?_⟩
  refine List.forall_mem_cons.mpr ⟨ok_laload C (show decode cX11_isName 35 = .ok (.laload, 1) from dk_at dq33_17 (i := 4) rfl) rfl, ?_⟩
  refine List.forall_mem_cons.mpr ⟨ok_lcmp C (show decode cX11_isName 36 = .ok (.lcmp, 1) from dk_at dq33_17 (i := 5) rfl) rfl, ?_⟩
  refine List.forall_mem_cons.mpr ⟨ok_ifeq C (show decode cX11_isName 37 = .ok (.ifCond .eq 7, 3) from dk_at dq33_17 (i := 6) rfl) (tg := 44) (by decide) rfl rfl, ?_⟩
  refine List.forall_mem_cons.mpr ⟨ok_iconst C (show decode cX11_isName 40 = .ok (.iconst 1, 1) from dk_at dq33_17 (i := 7) rfl) (by decide) rfl, ?_⟩
  refine List.forall_mem_cons.mpr ⟨ok_goto C (show decode cX11_isName 41 = .ok (.goto 4, 3) from dk_at dq33_17 (i := 8) rfl) (tg := 45) (by decide) rfl, ?_⟩
  refine List.forall_mem_cons.mpr ⟨ok_iconst C (show decode cX11_isName 44 = .ok (.iconst 0, 1) from dk_at dq33_17 (i := 9) rfl) (by decide) rfl, ?_⟩
  refine List.forall_mem_cons.mpr ⟨ok_istore_n C (show decode cX11_isName 45 = .ok (.istore_n 1, 1) from dk_at dq33_17 (i := 10) rfl) rfl (by decide) rfl, ?_⟩
  refine List.forall_mem_cons.mpr ⟨ok_iinc C (show decode cX11_isName 46 = .ok (.iinc 2 1, 3) from dk_at dq33_17 (i := 11) rfl) (by decide) (by decide) rfl, ?_⟩
  refine List.forall_mem_cons.mpr ⟨ok_goto C (show decode cX11_isName 49 = .ok (.goto (-33), 3) from dk_at dq33_17 (i := 12) rfl) (tg := 16) (by decide) rfl, ?_⟩
  refine List.forall_mem_cons.mpr ⟨ok_iload_n C (show decode cX11_isName 52 = .ok (.iload_n 1, 1) from dk_at dq33_17 (i := 13) rfl) rfl rfl, ?_⟩
  refine List.forall_mem_cons.mpr ⟨ok_zret C rfl (show decode cX11_isName 53 = .ok (.ireturn, 1) from dk_at dq33_17 (i := 14) rfl), ?_⟩
  exact fun _ h => absurd h List.not_mem_nil
def L_X11_takes (f_X11_bad : List Value → ab_H → Option ab_O) (f_X11_isIn : List Value → ab_H → Option ab_O) (f_X11_next : List Value → ab_H → Option ab_O) : List (Nat × ab_A) := [
  (0, ab_nx 1 (ab_aload 0)),
  (1, ab_nx 4 (ab_getf 11 11)),
  (4, ab_nx 5 (ab_lit (.int 2))),
  (5, ab_icmp 8 14 (fun x y => decide (x = y))),
  (8, ab_nx 9 (ab_aload 0)),
  (9, ab_nx 10 (ab_lit (.int 1))),
  (10, ab_nx 13 (ab_callV 2 11 f_X11_bad 0 0 0 0)),
  (13, ab_zret 0 0),
  (14, ab_nx 15 (ab_aload 0)),
  (15, ab_nx 18 (ab_getf 11 14)),
  (18, ab_nx 19 (ab_iload 1)),
  (19, ab_nx 20 (ab_iload 2)),
  (20, ab_nx 23 (ab_call 3 f_X11_isIn 0 0 0 0)),
  (23, ab_if 26 32 (fun x => !decide (x = 0))),
  (26, ab_nx 27 (ab_aload 0)),
  (27, ab_nx 28 (ab_lit (.int 2))),
  (28, ab_nx 31 (ab_callV 2 11 f_X11_bad 0 0 0 0)),
  (31, ab_zret 0 0),
  (32, ab_nx 33 (ab_aload 0)),
  (33, ab_nx 34 (ab_aload 0)),
  (34, ab_nx 37 (ab_getf 11 14)),
  (37, ab_nx 40 (ab_putf 11 18 0)),
  (40, ab_nx 41 (ab_aload 0)),
  (41, ab_nx 44 (ab_callV 1 11 f_X11_next 0 0 0 0)),
  (44, ab_nx 45 (ab_lit (.int 1))),
  (45, ab_zret 0 0)]
set_option maxRecDepth 100000 in
theorem dq33_18 : ([(0, .aload_n 0, 1), (1, .getfield 147, 3), (4, .iconst 2, 1), (5, .if_icmp .eq 9, 3), (8, .aload_n 0, 1), (9, .iconst 1, 1), (10, .invokevirtual 173, 3), (13, .ireturn, 1), (14, .aload_n 0, 1), (15, .getfield 157, 3), (18, .iload_n 1, 1), (19, .iload_n 2, 1), (20, .invokestatic 179, 3), (23, .ifCond .ne 9, 3), (26, .aload_n 0, 1), (27, .iconst 2, 1)] : List (Nat × Instr × Nat)).all (fun q => decide (decode cX11_takes q.1 = .ok q.2)) = true := by decide +kernel
set_option maxRecDepth 100000 in
theorem dq33_19 : ([(28, .invokevirtual 173, 3), (31, .ireturn, 1), (32, .aload_n 0, 1), (33, .aload_n 0, 1), (34, .getfield 157, 3), (37, .putfield 183, 3), (40, .aload_n 0, 1), (41, .invokevirtual 176, 3), (44, .iconst 1, 1), (45, .ireturn, 1)] : List (Nat × Instr × Nat)).all (fun q => decide (decode cX11_takes q.1 = .ok q.2)) = true := by decide +kernel
set_option maxRecDepth 100000 in
set_option maxHeartbeats 4000000 in
theorem M_X11_takes {l : Launch} {b : ab_B} {D : va_G} {cA : Nat → ClassId} {f_X11_bad : List Value → ab_H → Option ab_O} (h_X11_bad : ab_M l b D ab_cl cA (ab_E0 b) yX11_bad (Cond.code yX11_bad cX11_bad 2 (some .boolean) :: ab_G) ({ frames := 1, cells := 0, slots := 0, locals := 100 } : Room) f_X11_bad) {f_X11_isIn : List Value → ab_H → Option ab_O} (h_X11_isIn : ab_M l b D ab_cl cA (ab_E0 b) yX11_isIn (Cond.code yX11_isIn cX11_isIn 3 (some .boolean) :: ab_G) ({ frames := 1, cells := 0, slots := 0, locals := 100 } : Room) f_X11_isIn) {f_X11_next : List Value → ab_H → Option ab_O} (h_X11_next : ab_M l b D ab_cl cA (ab_E0 b) yX11_next (Cond.code yX11_next cX11_next 4 none :: ab_G) ({ frames := 2, cells := 0, slots := 0, locals := 200 } : Room) f_X11_next) : ab_M l b D ab_cl cA (ab_E0 b) yX11_takes (Cond.code yX11_takes cX11_takes 3 (some .boolean) :: ab_G) ({ frames := 3, cells := 0, slots := 0, locals := 300 } : Room) (ab_X (ab_T (L_X11_takes f_X11_bad f_X11_isIn f_X11_next)) 3) := by
  refine ab_meth (ret := (some .boolean)) (L_X11_takes f_X11_bad f_X11_isIn f_X11_next) (by decide) rfl fun p e R s m args below meth c o C => ?_
  unfold L_X11_takes
  refine List.forall_mem_cons.mpr ⟨ok_aload_n C (show decode cX11_takes 0 = .ok (.aload_n 0, 1) from dk_at dq33_18 (i := 0) rfl) rfl rfl, ?_⟩
  refine List.forall_mem_cons.mpr ⟨ok_getf C (wi_X11) rfl (by decide) kw_1191 (show decode cX11_takes 1 = .ok (.getfield 147, 3) from dk_at dq33_18 (i := 1) rfl) rfl, ?_⟩
  refine List.forall_mem_cons.mpr ⟨ok_iconst C (show decode cX11_takes 4 = .ok (.iconst 2, 1) from dk_at dq33_18 (i := 2) rfl) (by decide) rfl, ?_⟩
  refine List.forall_mem_cons.mpr ⟨ok_icmpeq C (show decode cX11_takes 5 = .ok (.if_icmp .eq 9, 3) from dk_at dq33_18 (i := 3) rfl) (tg := 14) (by decide) rfl rfl, ?_⟩
  refine List.forall_mem_cons.mpr ⟨ok_aload_n C (show decode cX11_takes 8 = .ok (.aload_n 0, 1) from dk_at dq33_18 (i := 4) rfl) rfl rfl, ?_⟩
  refine List.forall_mem_cons.mpr ⟨ok_iconst C (show decode cX11_takes 9 = .ok (.iconst 1, 1) from dk_at dq33_18 (i := 5) rfl) (by decide) rfl, ?_⟩
  refine List.forall_mem_cons.mpr ⟨ok_callV C h_X11_bad ⟨rfl, rfl⟩ rfl kw_1344 kw_1341 kw_1343 kp_53 kw_11 rfl ds_X11_bad ⟨by decide, by decide⟩ (show decode cX11_takes 10 = .ok (.invokevirtual 173, 3) from dk_at dq33_18 (i := 6) rfl) rfl, ?_⟩
  refine List.forall_mem_cons.mpr ⟨ok_zret C rfl (show decode cX11_takes 13 = .ok (.ireturn, 1) from dk_at dq33_18 (i := 7) rfl), ?_⟩
  refine List.forall_mem_cons.mpr ⟨ok_aload_n C (show decode cX11_takes 14 = .ok (.aload_n 0, 1) from dk_at dq33_18 (i := 8) rfl) rfl rfl, ?_⟩
  refine List.forall_mem_cons.mpr ⟨ok_getf C (wi_X11) rfl (by decide) kw_1194 (show decode cX11_takes 15 = .ok (.getfield 157, 3) from dk_at dq33_18 (i := 9) rfl) rfl, ?_⟩
  refine List.forall_mem_cons.mpr ⟨ok_iload_n C (show decode cX11_takes 18 = .ok (.iload_n 1, 1) from dk_at dq33_18 (i := 10) rfl) rfl rfl, ?_⟩
  refine List.forall_mem_cons.mpr ⟨ok_iload_n C (show decode cX11_takes 19 = .ok (.iload_n 2, 1) from dk_at dq33_18 (i := 11) rfl) rfl rfl, ?_⟩
  refine List.forall_mem_cons.mpr ⟨ok_callS C h_X11_isIn ⟨rfl, rfl⟩ kw_1355 kw_1353 kw_1354 kw_11 ds_X11_isIn ⟨by decide, by decide⟩ (show decode cX11_takes 20 = .ok (.invokestatic 179, 3) from dk_at dq33_18 (i := 12) rfl) rfl, ?_⟩
  refine List.forall_mem_cons.mpr ⟨ok_ifne C (show decode cX11_takes 23 = .ok (.ifCond .ne 9, 3) from dk_at dq33_18 (i := 13) rfl) (tg := 32) (by decide) rfl rfl, ?_⟩
  refine List.forall_mem_cons.mpr ⟨ok_aload_n C (show decode cX11_takes 26 = .ok (.aload_n 0, 1) from dk_at dq33_18 (i := 14) rfl) rfl rfl, ?_⟩
  refine List.forall_mem_cons.mpr ⟨ok_iconst C (show decode cX11_takes 27 = .ok (.iconst 2, 1) from dk_at dq33_18 (i := 15) rfl) (by decide) rfl, ?_⟩
  refine List.forall_mem_cons.mpr ⟨ok_callV C h_X11_bad ⟨rfl, rfl⟩ rfl kw_1344 kw_1341 kw_1343 kp_53 kw_11 rfl ds_X11_bad ⟨by decide, by decide⟩ (show decode cX11_takes 28 = .ok (.invokevirtual 173, 3) from dk_at dq33_19 (i := 0) rfl) rfl, ?_⟩
  refine List.forall_mem_cons.mpr ⟨ok_zret C rfl (show decode cX11_takes 31 = .ok (.ireturn, 1) from dk_at dq33_19 (i := 1) rfl), ?_⟩
  refine List.forall_mem_cons.mpr ⟨ok_aload_n C (show decode cX11_takes 32 = .ok (.aload_n 0, 1) from dk_at dq33_19 (i := 2) rfl) rfl rfl, ?_⟩
  refine List.forall_mem_cons.mpr ⟨ok_aload_n C (show decode cX11_takes 33 = .ok (.aload_n 0, 1) from dk_at dq33_19 (i := 3) rfl) rfl rfl, ?_⟩
  refine List.forall_mem_cons.mpr ⟨ok_getf C (wi_X11) rfl (by decide) kw_1194 (show decode cX11_takes 34 = .ok (.getfield 157, 3) from dk_at dq33_19 (i := 4) rfl) rfl, ?_⟩
  refine List.forall_mem_cons.mpr ⟨ok_putf C (wi_X11) tyX11 tyX11_ok nmX11 rfl (by decide) kw_1198 (Or.inl rfl) (Or.inl ⟨rfl, rfl⟩) (show decode cX11_takes 37 = .ok (.putfield 183, 3) from dk_at dq33_19 (i := 5) rfl) rfl, ?_⟩
  refine List.forall_mem_cons.mpr ⟨ok_aload_n C (show decode cX11_takes 40 = .ok (.aload_n 0, 1) from dk_at dq33_19 (i := 6) rfl) rfl rfl, ?_⟩
  refine List.forall_mem_cons.mpr ⟨ok_callV C h_X11_next ⟨rfl, rfl⟩ rfl kw_1322 kw_1319 kw_1321 kp_49 kw_11 rfl ds_X11_next ⟨by decide, by decide⟩ (show decode cX11_takes 41 = .ok (.invokevirtual 176, 3) from dk_at dq33_19 (i := 7) rfl) rfl, ?_⟩
  refine List.forall_mem_cons.mpr ⟨ok_iconst C (show decode cX11_takes 44 = .ok (.iconst 1, 1) from dk_at dq33_19 (i := 8) rfl) (by decide) rfl, ?_⟩
  refine List.forall_mem_cons.mpr ⟨ok_zret C rfl (show decode cX11_takes 45 = .ok (.ireturn, 1) from dk_at dq33_19 (i := 9) rfl), ?_⟩
  exact fun _ h => absurd h List.not_mem_nil
def L_X11_puts (f_X11_takes : List Value → ab_H → Option ab_O) : List (Nat × ab_A) := [
  (0, ab_nx 1 (ab_aload 0)),
  (1, ab_nx 2 (ab_iload 2)),
  (2, ab_nx 3 (ab_iload 3)),
  (3, ab_nx 6 (ab_callV 3 11 f_X11_takes 0 0 0 0)),
  (6, ab_if 9 11 (fun x => !decide (x = 0))),
  (9, ab_nx 10 (ab_lit (.int 0))),
  (10, ab_zret 0 0),
  (11, ab_nx 12 (ab_aload 0)),
  (12, ab_nx 15 (ab_getf 11 7)),
  (15, ab_nx 16 (ab_iload 1)),
  (16, ab_nx 17 (ab_aload 0)),
  (17, ab_nx 20 (ab_getf 11 18)),
  (20, ab_nx 21 (ab_ast 1)),
  (21, ab_nx 22 (ab_lit (.int 1))),
  (22, ab_zret 0 0)]
set_option maxRecDepth 100000 in
theorem dq33_20 : ([(0, .aload_n 0, 1), (1, .iload_n 2, 1), (2, .iload_n 3, 1), (3, .invokevirtual 186, 3), (6, .ifCond .ne 5, 3), (9, .iconst 0, 1), (10, .ireturn, 1), (11, .aload_n 0, 1), (12, .getfield 37, 3), (15, .iload_n 1, 1), (16, .aload_n 0, 1), (17, .getfield 183, 3), (20, .iastore, 1), (21, .iconst 1, 1), (22, .ireturn, 1)] : List (Nat × Instr × Nat)).all (fun q => decide (decode cX11_puts q.1 = .ok q.2)) = true := by decide +kernel
set_option maxRecDepth 100000 in
set_option maxHeartbeats 4000000 in
theorem M_X11_puts {l : Launch} {b : ab_B} {D : va_G} {cA : Nat → ClassId} {f_X11_takes : List Value → ab_H → Option ab_O} (h_X11_takes : ab_M l b D ab_cl cA (ab_E0 b) yX11_takes (Cond.code yX11_takes cX11_takes 3 (some .boolean) :: ab_G) ({ frames := 3, cells := 0, slots := 0, locals := 300 } : Room) f_X11_takes) : ab_M l b D ab_cl cA (ab_E0 b) yX11_puts (Cond.code yX11_puts cX11_puts 4 (some .boolean) :: ab_G) ({ frames := 4, cells := 0, slots := 0, locals := 400 } : Room) (ab_X (ab_T (L_X11_puts f_X11_takes)) 4) := by
  refine ab_meth (ret := (some .boolean)) (L_X11_puts f_X11_takes) (by decide) rfl fun p e R s m args below meth c o C => ?_
  unfold L_X11_puts
  refine List.forall_mem_cons.mpr ⟨ok_aload_n C (show decode cX11_puts 0 = .ok (.aload_n 0, 1) from dk_at dq33_20 (i := 0) rfl) rfl rfl, ?_⟩
  refine List.forall_mem_cons.mpr ⟨ok_iload_n C (show decode cX11_puts 1 = .ok (.iload_n 2, 1) from dk_at dq33_20 (i := 1) rfl) rfl rfl, ?_⟩
  refine List.forall_mem_cons.mpr ⟨ok_iload_n C (show decode cX11_puts 2 = .ok (.iload_n 3, 1) from dk_at dq33_20 (i := 2) rfl) rfl rfl, ?_⟩
  refine List.forall_mem_cons.mpr ⟨ok_callV C h_X11_takes ⟨rfl, rfl⟩ rfl kw_1352 kw_1349 kw_1351 kp_55 kw_11 rfl ds_X11_takes ⟨by decide, by decide⟩ (show decode cX11_puts 3 = .ok (.invokevirtual 186, 3) from dk_at dq33_20 (i := 3) rfl) rfl, ?_⟩
  refine List.forall_mem_cons.mpr ⟨ok_ifne C (show decode cX11_puts 6 = .ok (.ifCond .ne 5, 3) from dk_at dq33_20 (i := 4) rfl) (tg := 11) (by decide) rfl rfl, ?_⟩
  refine List.forall_mem_cons.mpr ⟨ok_iconst C (show decode cX11_puts 9 = .ok (.iconst 0, 1) from dk_at dq33_20 (i := 5) rfl) (by decide) rfl, ?_⟩
  refine List.forall_mem_cons.mpr ⟨ok_zret C rfl (show decode cX11_puts 10 = .ok (.ireturn, 1) from dk_at dq33_20 (i := 6) rfl), ?_⟩
  refine List.forall_mem_cons.mpr ⟨ok_aload_n C (show decode cX11_puts 11 = .ok (.aload_n 0, 1) from dk_at dq33_20 (i := 7) rfl) rfl rfl, ?_⟩
  refine List.forall_mem_cons.mpr ⟨ok_getf C (wi_X11) rfl (by decide) kw_1187 (show decode cX11_puts 12 = .ok (.getfield 37, 3) from dk_at dq33_20 (i := 8) rfl) rfl, ?_⟩
  refine List.forall_mem_cons.mpr ⟨ok_iload_n C (show decode cX11_puts 15 = .ok (.iload_n 1, 1) from dk_at dq33_20 (i := 9) rfl) rfl rfl, ?_⟩
  refine List.forall_mem_cons.mpr ⟨ok_aload_n C (show decode cX11_puts 16 = .ok (.aload_n 0, 1) from dk_at dq33_20 (i := 10) rfl) rfl rfl, ?_⟩
  refine List.forall_mem_cons.mpr ⟨ok_getf C (wi_X11) rfl (by decide) kw_1198 (show decode cX11_puts 17 = .ok (.getfield 183, 3) from dk_at dq33_20 (i := 11) rfl) rfl, ?_⟩
  refine List.forall_mem_cons.mpr ⟨ok_iastore C (show decode cX11_puts 20 = .ok (.iastore, 1) from dk_at dq33_20 (i := 12) rfl) rfl, ?_⟩
  refine List.forall_mem_cons.mpr ⟨ok_iconst C (show decode cX11_puts 21 = .ok (.iconst 1, 1) from dk_at dq33_20 (i := 13) rfl) (by decide) rfl, ?_⟩
  refine List.forall_mem_cons.mpr ⟨ok_zret C rfl (show decode cX11_puts 22 = .ok (.ireturn, 1) from dk_at dq33_20 (i := 14) rfl), ?_⟩
  exact fun _ h => absurd h List.not_mem_nil
def L_X11_find : List (Nat × ab_A) := [
  (0, ab_nx 1 (ab_lit (.int 0))),
  (1, ab_nx 2 (ab_istore 3)),
  (2, ab_nx 3 (ab_iload 3)),
  (3, ab_nx 4 (ab_iload 2)),
  (4, ab_icmp 7 31 (fun x y => decide (y ≤ x))),
  (7, ab_nx 8 (ab_aload 0)),
  (8, ab_nx 11 (ab_getf 11 9)),
  (11, ab_nx 12 (ab_iload 1)),
  (12, ab_nx 13 (ab_iload 3)),
  (13, ab_nx 14 (ab_bin (fun x y => x + y))),
  (14, ab_nx 15 ab_lald),
  (15, ab_nx 16 (ab_aload 0)),
  (16, ab_nx 19 (ab_getf 11 17)),
  (19, ab_nx 20 ab_lcmp),
  (20, ab_if 23 25 (fun x => !decide (x = 0))),
  (23, ab_nx 24 (ab_iload 3)),
  (24, ab_ret 0 0),
  (25, ab_nx 28 (ab_iinc 3 1)),
  (28, ab_goto 2),
  (31, ab_nx 32 (ab_lit (.int (-1)))),
  (32, ab_ret 0 0)]
set_option maxRecDepth 100000 in
theorem dq33_21 : ([(0, .iconst 0, 1), (1, .istore_n 3, 1), (2, .iload_n 3, 1), (3, .iload_n 2, 1), (4, .if_icmp .ge 27, 3), (7, .aload_n 0, 1), (8, .getfield 43, 3), (11, .iload_n 1, 1), (12, .iload_n 3, 1), (13, .iadd, 1), (14, .laload, 1), (15, .aload_n 0, 1), (16, .getfield 160, 3), (19, .lcmp, 1), (20, .ifCond .ne 5, 3), (23, .iload_n 3, 1)] : List (Nat × Instr × Nat)).all (fun q => decide (decode cX11_find q.1 = .ok q.2)) = true := by decide +kernel
set_option maxRecDepth 100000 in
theorem dq33_22 : ([(24, .ireturn, 1), (25, .iinc 3 1, 3), (28, .goto (-26), 3), (31, .iconst (-1), 1), (32, .ireturn, 1)] : List (Nat × Instr × Nat)).all (fun q => decide (decode cX11_find q.1 = .ok q.2)) = true := by decide +kernel
set_option maxRecDepth 100000 in
set_option maxHeartbeats 4000000 in
theorem M_X11_find {l : Launch} {b : ab_B} {D : va_G} {cA : Nat → ClassId} : ab_M l b D ab_cl cA (ab_E0 b) yX11_find (Cond.code yX11_find cX11_find 4 (some .int) :: ab_G) ({ frames := 1, cells := 0, slots := 0, locals := 100 } : Room) (ab_X (ab_T L_X11_find) 4) := by
  refine ab_meth (ret := (some .int)) L_X11_find (by decide) rfl fun p e R s m args below meth c o C => ?_
  unfold L_X11_find
  refine List.forall_mem_cons.mpr ⟨ok_iconst C (show decode cX11_find 0 = .ok (.iconst 0, 1) from dk_at dq33_21 (i := 0) rfl) (by decide) rfl, ?_⟩
  refine List.forall_mem_cons.mpr ⟨ok_istore_n C (show decode cX11_find 1 = .ok (.istore_n 3, 1) from dk_at dq33_21 (i := 1) rfl) rfl (by decide) rfl, ?_⟩
  refine List.forall_mem_cons.mpr ⟨ok_iload_n C (show decode cX11_find 2 = .ok (.iload_n 3, 1) from dk_at dq33_21 (i := 2) rfl) rfl rfl, ?_⟩
  refine List.forall_mem_cons.mpr ⟨ok_iload_n C (show decode cX11_find 3 = .ok (.iload_n 2, 1) from dk_at dq33_21 (i := 3) rfl) rfl rfl, ?_⟩
  refine List.forall_mem_cons.mpr ⟨ok_icmpge C (show decode cX11_find 4 = .ok (.if_icmp .ge 27, 3) from dk_at dq33_21 (i := 4) rfl) (tg := 31) (by decide) rfl rfl, ?_⟩
  refine List.forall_mem_cons.mpr ⟨ok_aload_n C (show decode cX11_find 7 = .ok (.aload_n 0, 1) from dk_at dq33_21 (i := 5) rfl) rfl rfl, ?_⟩
  refine List.forall_mem_cons.mpr ⟨ok_getf C (wi_X11) rfl (by decide) kw_1189 (show decode cX11_find 8 = .ok (.getfield 43, 3) from dk_at dq33_21 (i := 6) rfl) rfl, ?_⟩
  refine List.forall_mem_cons.mpr ⟨ok_iload_n C (show decode cX11_find 11 = .ok (.iload_n 1, 1) from dk_at dq33_21 (i := 7) rfl) rfl rfl, ?_⟩
  refine List.forall_mem_cons.mpr ⟨ok_iload_n C (show decode cX11_find 12 = .ok (.iload_n 3, 1) from dk_at dq33_21 (i := 8) rfl) rfl rfl, ?_⟩
  refine List.forall_mem_cons.mpr ⟨ok_iadd C (show decode cX11_find 13 = .ok (.iadd, 1) from dk_at dq33_21 (i := 9) rfl) rfl, ?_⟩
  refine List.forall_mem_cons.mpr ⟨ok_laload C (show decode cX11_find 14 = .ok (.laload, 1) from dk_at dq33_21 (i := 10) rfl) rfl, ?_⟩
  refine List.forall_mem_cons.mpr ⟨ok_aload_n C (show decode cX11_find 15 = .ok (.aload_n 0, 1) from dk_at dq33_21 (i := 11) rfl) rfl rfl, ?_⟩
  refine List.forall_mem_cons.mpr ⟨ok_getf C (wi_X11) rfl (by decide) kw_1197 (show decode cX11_find 16 = .ok (.getfield 160, 3) from dk_at dq33_21 (i := 12) rfl) rfl, ?_⟩
  refine List.forall_mem_cons.mpr ⟨ok_lcmp C (show decode cX11_find 19 = .ok (.lcmp, 1) from dk_at dq33_21 (i := 13) rfl) rfl, ?_⟩
  refine List.forall_mem_cons.mpr ⟨ok_ifne C (show decode cX11_find 20 = .ok (.ifCond .ne 5, 3) from dk_at dq33_21 (i := 14) rfl) (tg := 25) (by decide) rfl rfl, ?_⟩
  refine List.forall_mem_cons.mpr ⟨ok_iload_n C (show decode cX11_find 23 = .ok (.iload_n 3, 1) from dk_at dq33_21 (i := 15) rfl) rfl rfl, ?_⟩
  refine List.forall_mem_cons.mpr ⟨ok_ret C rfl (show decode cX11_find 24 = .ok (.ireturn, 1) from dk_at dq33_22 (i := 0) rfl), ?_⟩
  refine List.forall_mem_cons.mpr ⟨ok_iinc C (show decode cX11_find 25 = .ok (.iinc 3 1, 3) from dk_at dq33_22 (i := 1) rfl) (by decide) (by decide) rfl, ?_⟩
  refine List.forall_mem_cons.mpr ⟨ok_goto C (show decode cX11_find 28 = .ok (.goto (-26), 3) from dk_at dq33_22 (i := 2) rfl) (tg := 2) (by decide) rfl, ?_⟩
  refine List.forall_mem_cons.mpr ⟨ok_iconst C (show decode cX11_find 31 = .ok (.iconst (-1), 1) from dk_at dq33_22 (i := 3) rfl) (by decide) rfl, ?_⟩
  refine List.forall_mem_cons.mpr ⟨ok_ret C rfl (show decode cX11_find 32 = .ok (.ireturn, 1) from dk_at dq33_22 (i := 4) rfl), ?_⟩
  exact fun _ h => absurd h List.not_mem_nil
def L_X11_fresh (f_X11_isName : List Value → ab_H → Option ab_O) (f_X11_bad : List Value → ab_H → Option ab_O) (f_X11_find : List Value → ab_H → Option ab_O) (f_X11_next : List Value → ab_H → Option ab_O) : List (Nat × ab_A) := [
  (0, ab_nx 1 (ab_aload 0)),
  (1, ab_nx 4 (ab_callV 1 11 f_X11_isName 0 0 0 0)),
  (4, ab_if 7 13 (fun x => !decide (x = 0))),
  (7, ab_nx 8 (ab_aload 0)),
  (8, ab_nx 9 (ab_lit (.int 1))),
  (9, ab_nx 12 (ab_callV 2 11 f_X11_bad 0 0 0 0)),
  (12, ab_zret 0 0),
  (13, ab_nx 14 (ab_aload 0)),
  (14, ab_nx 16 (ab_lit (.int 14))),
  (16, ab_nx 17 (ab_aload 0)),
  (17, ab_nx 20 (ab_getf 11 7)),
  (20, ab_nx 21 (ab_lit (.int 0))),
  (21, ab_nx 22 (ab_ald 1)),
  (22, ab_nx 25 (ab_callV 3 11 f_X11_find 0 0 0 0)),
  (25, ab_if 28 43 (fun x => decide (0 ≤ x))),
  (28, ab_nx 29 (ab_aload 0)),
  (29, ab_nx 31 (ab_lit (.int 20))),
  (31, ab_nx 32 (ab_aload 0)),
  (32, ab_nx 35 (ab_getf 11 7)),
  (35, ab_nx 36 (ab_lit (.int 1))),
  (36, ab_nx 37 (ab_ald 1)),
  (37, ab_nx 40 (ab_callV 3 11 f_X11_find 0 0 0 0)),
  (40, ab_if 43 49 (fun x => decide (x < 0))),
  (43, ab_nx 44 (ab_aload 0)),
  (44, ab_nx 45 (ab_lit (.int 3))),
  (45, ab_nx 48 (ab_callV 2 11 f_X11_bad 0 0 0 0)),
  (48, ab_zret 0 0),
  (49, ab_nx 50 (ab_aload 0)),
  (50, ab_nx 53 (ab_getf 11 9)),
  (53, ab_nx 54 (ab_iload 1)),
  (54, ab_nx 55 (ab_aload 0)),
  (55, ab_nx 58 (ab_getf 11 17)),
  (58, ab_nx 59 ab_last),
  (59, ab_nx 60 (ab_aload 0)),
  (60, ab_nx 63 (ab_callV 1 11 f_X11_next 0 0 0 0)),
  (63, ab_nx 64 (ab_lit (.int 1))),
  (64, ab_zret 0 0)]
set_option maxRecDepth 100000 in
theorem dq33_23 : ([(0, .aload_n 0, 1), (1, .invokevirtual 190, 3), (4, .ifCond .ne 9, 3), (7, .aload_n 0, 1), (8, .iconst 1, 1), (9, .invokevirtual 173, 3), (12, .ireturn, 1), (13, .aload_n 0, 1), (14, .bipush 14, 2), (16, .aload_n 0, 1), (17, .getfield 37, 3), (20, .iconst 0, 1), (21, .iaload, 1), (22, .invokevirtual 194, 3), (25, .ifCond .ge 18, 3), (28, .aload_n 0, 1)] : List (Nat × Instr × Nat)).all (fun q => decide (decode cX11_fresh q.1 = .ok q.2)) = true := by decide +kernel
set_option maxRecDepth 100000 in
theorem dq33_24 : ([(29, .bipush 20, 2), (31, .aload_n 0, 1), (32, .getfield 37, 3), (35, .iconst 1, 1), (36, .iaload, 1), (37, .invokevirtual 194, 3), (40, .ifCond .lt 9, 3), (43, .aload_n 0, 1), (44, .iconst 3, 1), (45, .invokevirtual 173, 3), (48, .ireturn, 1), (49, .aload_n 0, 1), (50, .getfield 43, 3), (53, .iload_n 1, 1), (54, .aload_n 0, 1), (55, .getfield 160, 3)] : List (Nat × Instr × Nat)).all (fun q => decide (decode cX11_fresh q.1 = .ok q.2)) = true := by decide +kernel
set_option maxRecDepth 100000 in
theorem dq33_25 : ([(58, .lastore, 1), (59, .aload_n 0, 1), (60, .invokevirtual 176, 3), (63, .iconst 1, 1), (64, .ireturn, 1)] : List (Nat × Instr × Nat)).all (fun q => decide (decode cX11_fresh q.1 = .ok q.2)) = true := by decide +kernel
set_option maxRecDepth 100000 in
set_option maxHeartbeats 4000000 in
theorem M_X11_fresh {l : Launch} {b : ab_B} {D : va_G} {cA : Nat → ClassId} {f_X11_isName : List Value → ab_H → Option ab_O} (h_X11_isName : ab_M l b D ab_cl cA (ab_E0 b) yX11_isName (Cond.code yX11_isName cX11_isName 3 (some .boolean) :: ab_G) ({ frames := 1, cells := 0, slots := 0, locals := 100 } : Room) f_X11_isName) {f_X11_bad : List Value → ab_H → Option ab_O} (h_X11_bad : ab_M l b D ab_cl cA (ab_E0 b) yX11_bad (Cond.code yX11_bad cX11_bad 2 (some .boolean) :: ab_G) ({ frames := 1, cells := 0, slots := 0, locals := 100 } : Room) f_X11_bad) {f_X11_find : List Value → ab_H → Option ab_O} (h_X11_find : ab_M l b D ab_cl cA (ab_E0 b) yX11_find (Cond.code yX11_find cX11_find 4 (some .int) :: ab_G) ({ frames := 1, cells := 0, slots := 0, locals := 100 } : Room) f_X11_find) {f_X11_next : List Value → ab_H → Option ab_O} (h_X11_next : ab_M l b D ab_cl cA (ab_E0 b) yX11_next (Cond.code yX11_next cX11_next 4 none :: ab_G) ({ frames := 2, cells := 0, slots := 0, locals := 200 } : Room) f_X11_next) : ab_M l b D ab_cl cA (ab_E0 b) yX11_fresh (Cond.code yX11_fresh cX11_fresh 2 (some .boolean) :: ab_G) ({ frames := 3, cells := 0, slots := 0, locals := 300 } : Room) (ab_X (ab_T (L_X11_fresh f_X11_isName f_X11_bad f_X11_find f_X11_next)) 2) := by
  refine ab_meth (ret := (some .boolean)) (L_X11_fresh f_X11_isName f_X11_bad f_X11_find f_X11_next) (by decide) rfl fun p e R s m args below meth c o C => ?_
  unfold L_X11_fresh
  refine List.forall_mem_cons.mpr ⟨ok_aload_n C (show decode cX11_fresh 0 = .ok (.aload_n 0, 1) from dk_at dq33_23 (i := 0) rfl) rfl rfl, ?_⟩
  refine List.forall_mem_cons.mpr ⟨ok_callV C h_X11_isName ⟨rfl, rfl⟩ rfl kw_1363 kw_1360 kw_1362 kp_57 kw_11 rfl ds_X11_isName ⟨by decide, by decide⟩ (show decode cX11_fresh 1 = .ok (.invokevirtual 190, 3) from dk_at dq33_23 (i := 1) rfl) rfl, ?_⟩
  refine List.forall_mem_cons.mpr ⟨ok_ifne C (show decode cX11_fresh 4 = .ok (.ifCond .ne 9, 3) from dk_at dq33_23 (i := 2) rfl) (tg := 13) (by decide) rfl rfl, ?_⟩
  refine List.forall_mem_cons.mpr ⟨ok_aload_n C (show decode cX11_fresh 7 = .ok (.aload_n 0, 1) from dk_at dq33_23 (i := 3) rfl) rfl rfl, ?_⟩
  refine List.forall_mem_cons.mpr ⟨ok_iconst C (show decode cX11_fresh 8 = .ok (.iconst 1, 1) from dk_at dq33_23 (i := 4) rfl) (by decide) rfl, ?_⟩
  refine List.forall_mem_cons.mpr ⟨ok_callV C h_X11_bad ⟨rfl, rfl⟩ rfl kw_1344 kw_1341 kw_1343 kp_53 kw_11 rfl ds_X11_bad ⟨by decide, by decide⟩ (show decode cX11_fresh 9 = .ok (.invokevirtual 173, 3) from dk_at dq33_23 (i := 5) rfl) rfl, ?_⟩
  refine List.forall_mem_cons.mpr ⟨ok_zret C rfl (show decode cX11_fresh 12 = .ok (.ireturn, 1) from dk_at dq33_23 (i := 6) rfl), ?_⟩
  refine List.forall_mem_cons.mpr ⟨ok_aload_n C (show decode cX11_fresh 13 = .ok (.aload_n 0, 1) from dk_at dq33_23 (i := 7) rfl) rfl rfl, ?_⟩
  refine List.forall_mem_cons.mpr ⟨ok_bipush C (show decode cX11_fresh 14 = .ok (.bipush 14, 2) from dk_at dq33_23 (i := 8) rfl) (by decide) rfl, ?_⟩
  refine List.forall_mem_cons.mpr ⟨ok_aload_n C (show decode cX11_fresh 16 = .ok (.aload_n 0, 1) from dk_at dq33_23 (i := 9) rfl) rfl rfl, ?_⟩
  refine List.forall_mem_cons.mpr ⟨ok_getf C (wi_X11) rfl (by decide) kw_1187 (show decode cX11_fresh 17 = .ok (.getfield 37, 3) from dk_at dq33_23 (i := 10) rfl) rfl, ?_⟩
  refine List.forall_mem_cons.mpr ⟨ok_iconst C (show decode cX11_fresh 20 = .ok (.iconst 0, 1) from dk_at dq33_23 (i := 11) rfl) (by decide) rfl, ?_⟩
  refine List.forall_mem_cons.mpr ⟨ok_iaload C (show decode cX11_fresh 21 = .ok (.iaload, 1) from dk_at dq33_23 (i := 12) rfl) rfl, ?_⟩
  refine List.forall_mem_cons.mpr ⟨ok_callV C h_X11_find ⟨rfl, rfl⟩ rfl kw_1367 kw_1364 kw_1366 kp_58 kw_11 rfl ds_X11_find ⟨by decide, by decide⟩ (show decode cX11_fresh 22 = .ok (.invokevirtual 194, 3) from dk_at dq33_23 (i := 13) rfl) rfl, ?_⟩
  refine List.forall_mem_cons.mpr ⟨ok_ifge C (show decode cX11_fresh 25 = .ok (.ifCond .ge 18, 3) from dk_at dq33_23 (i := 14) rfl) (tg := 43) (by decide) rfl rfl, ?_⟩
  refine List.forall_mem_cons.mpr ⟨ok_aload_n C (show decode cX11_fresh 28 = .ok (.aload_n 0, 1) from dk_at dq33_23 (i := 15) rfl) rfl rfl, ?_⟩
  refine List.forall_mem_cons.mpr ⟨ok_bipush C (show decode cX11_fresh 29 = .ok (.bipush 20, 2) from dk_at dq33_24 (i := 0) rfl) (by decide) rfl, ?_⟩
  refine List.forall_mem_cons.mpr ⟨ok_aload_n C (show decode cX11_fresh 31 = .ok (.aload_n 0, 1) from dk_at dq33_24 (i := 1) rfl) rfl rfl, ?_⟩
  refine List.forall_mem_cons.mpr ⟨ok_getf C (wi_X11) rfl (by decide) kw_1187 (show decode cX11_fresh 32 = .ok (.getfield 37, 3) from dk_at dq33_24 (i := 2) rfl) rfl, ?_⟩
  refine List.forall_mem_cons.mpr ⟨ok_iconst C (show decode cX11_fresh 35 = .ok (.iconst 1, 1) from dk_at dq33_24 (i := 3) rfl) (by decide) rfl, ?_⟩
  refine List.forall_mem_cons.mpr ⟨ok_iaload C (show decode cX11_fresh 36 = .ok (.iaload, 1) from dk_at dq33_24 (i := 4) rfl) rfl, ?_⟩
  refine List.forall_mem_cons.mpr ⟨ok_callV C h_X11_find ⟨rfl, rfl⟩ rfl kw_1367 kw_1364 kw_1366 kp_58 kw_11 rfl ds_X11_find ⟨by decide, by decide⟩ (show decode cX11_fresh 37 = .ok (.invokevirtual 194, 3) from dk_at dq33_24 (i := 5) rfl) rfl, ?_⟩
  refine List.forall_mem_cons.mpr ⟨ok_iflt C (show decode cX11_fresh 40 = .ok (.ifCond .lt 9, 3) from dk_at dq33_24 (i := 6) rfl) (tg := 49) (by decide) rfl rfl, ?_⟩
  refine List.forall_mem_cons.mpr ⟨ok_aload_n C (show decode cX11_fresh 43 = .ok (.aload_n 0, 1) from dk_at dq33_24 (i := 7) rfl) rfl rfl, ?_⟩
  refine List.forall_mem_cons.mpr ⟨ok_iconst C (show decode cX11_fresh 44 = .ok (.iconst 3, 1) from dk_at dq33_24 (i := 8) rfl) (by decide) rfl, ?_⟩
  refine List.forall_mem_cons.mpr ⟨ok_callV C h_X11_bad ⟨rfl, rfl⟩ rfl kw_1344 kw_1341 kw_1343 kp_53 kw_11 rfl ds_X11_bad ⟨by decide, by decide⟩ (show decode cX11_fresh 45 = .ok (.invokevirtual 173, 3) from dk_at dq33_24 (i := 9) rfl) rfl, ?_⟩
  refine List.forall_mem_cons.mpr ⟨ok_zret C rfl (show decode cX11_fresh 48 = .ok (.ireturn, 1) from dk_at dq33_24 (i := 10) rfl), ?_⟩
  refine List.forall_mem_cons.mpr ⟨ok_aload_n C (show decode cX11_fresh 49 = .ok (.aload_n 0, 1) from dk_at dq33_24 (i := 11) rfl) rfl rfl, ?_⟩
  refine List.forall_mem_cons.mpr ⟨ok_getf C (wi_X11) rfl (by decide) kw_1189 (show decode cX11_fresh 50 = .ok (.getfield 43, 3) from dk_at dq33_24 (i := 12) rfl) rfl, ?_⟩
  refine List.forall_mem_cons.mpr ⟨ok_iload_n C (show decode cX11_fresh 53 = .ok (.iload_n 1, 1) from dk_at dq33_24 (i := 13) rfl) rfl rfl, ?_⟩
  refine List.forall_mem_cons.mpr ⟨ok_aload_n C (show decode cX11_fresh 54 = .ok (.aload_n 0, 1) from dk_at dq33_24 (i := 14) rfl) rfl rfl, ?_⟩
  refine List.forall_mem_cons.mpr ⟨ok_getf C (wi_X11) rfl (by decide) kw_1197 (show decode cX11_fresh 55 = .ok (.getfield 160, 3) from dk_at dq33_24 (i := 15) rfl) rfl, ?_⟩
  refine List.forall_mem_cons.mpr ⟨ok_lastore C (show decode cX11_fresh 58 = .ok (.lastore, 1) from dk_at dq33_25 (i := 0) rfl) rfl, ?_⟩
  refine List.forall_mem_cons.mpr ⟨ok_aload_n C (show decode cX11_fresh 59 = .ok (.aload_n 0, 1) from dk_at dq33_25 (i := 1) rfl) rfl rfl, ?_⟩
  refine List.forall_mem_cons.mpr ⟨ok_callV C h_X11_next ⟨rfl, rfl⟩ rfl kw_1322 kw_1319 kw_1321 kp_49 kw_11 rfl ds_X11_next ⟨by decide, by decide⟩ (show decode cX11_fresh 60 = .ok (.invokevirtual 176, 3) from dk_at dq33_25 (i := 2) rfl) rfl, ?_⟩
  refine List.forall_mem_cons.mpr ⟨ok_iconst C (show decode cX11_fresh 63 = .ok (.iconst 1, 1) from dk_at dq33_25 (i := 3) rfl) (by decide) rfl, ?_⟩
  refine List.forall_mem_cons.mpr ⟨ok_zret C rfl (show decode cX11_fresh 64 = .ok (.ireturn, 1) from dk_at dq33_25 (i := 4) rfl), ?_⟩
  exact fun _ h => absurd h List.not_mem_nil
def L_X11_looksAt (f_X11_isName : List Value → ab_H → Option ab_O) (f_X11_bad : List Value → ab_H → Option ab_O) (f_X11_find : List Value → ab_H → Option ab_O) : List (Nat × ab_A) := [
  (0, ab_nx 1 (ab_aload 0)),
  (1, ab_nx 4 (ab_callV 1 11 f_X11_isName 0 0 0 0)),
  (4, ab_if 7 13 (fun x => !decide (x = 0))),
  (7, ab_nx 8 (ab_aload 0)),
  (8, ab_nx 9 (ab_lit (.int 1))),
  (9, ab_nx 12 (ab_callV 2 11 f_X11_bad 0 0 0 0)),
  (12, ab_zret 0 0),
  (13, ab_nx 14 (ab_aload 0)),
  (14, ab_nx 15 (ab_aload 0)),
  (15, ab_nx 16 (ab_iload 1)),
  (16, ab_nx 17 (ab_iload 2)),
  (17, ab_nx 20 (ab_callV 3 11 f_X11_find 0 0 0 0)),
  (20, ab_nx 23 (ab_putf 11 18 0)),
  (23, ab_nx 24 (ab_aload 0)),
  (24, ab_nx 27 (ab_getf 11 18)),
  (27, ab_if 30 38 (fun x => decide (0 ≤ x))),
  (30, ab_nx 31 (ab_aload 0)),
  (31, ab_nx 32 (ab_lit (.int 3))),
  (32, ab_nx 35 (ab_callV 2 11 f_X11_bad 0 0 0 0)),
  (35, ab_if 38 42 (fun x => decide (x = 0))),
  (38, ab_nx 39 (ab_lit (.int 1))),
  (39, ab_goto 43),
  (42, ab_nx 43 (ab_lit (.int 0))),
  (43, ab_zret 0 0)]
set_option maxRecDepth 100000 in
theorem dq33_26 : ([(0, .aload_n 0, 1), (1, .invokevirtual 190, 3), (4, .ifCond .ne 9, 3), (7, .aload_n 0, 1), (8, .iconst 1, 1), (9, .invokevirtual 173, 3), (12, .ireturn, 1), (13, .aload_n 0, 1), (14, .aload_n 0, 1), (15, .iload_n 1, 1), (16, .iload_n 2, 1), (17, .invokevirtual 194, 3), (20, .putfield 183, 3), (23, .aload_n 0, 1), (24, .getfield 183, 3), (27, .ifCond .ge 11, 3)] : List (Nat × Instr × Nat)).all (fun q => decide (decode cX11_looksAt q.1 = .ok q.2)) = true := by decide +kernel
set_option maxRecDepth 100000 in
theorem dq33_27 : ([(30, .aload_n 0, 1), (31, .iconst 3, 1), (32, .invokevirtual 173, 3), (35, .ifCond .eq 7, 3), (38, .iconst 1, 1), (39, .goto 4, 3), (42, .iconst 0, 1), (43, .ireturn, 1)] : List (Nat × Instr × Nat)).all (fun q => decide (decode cX11_looksAt q.1 = .ok q.2)) = true := by decide +kernel
set_option maxRecDepth 100000 in
set_option maxHeartbeats 4000000 in
theorem M_X11_looksAt {l : Launch} {b : ab_B} {D : va_G} {cA : Nat → ClassId} {f_X11_isName : List Value → ab_H → Option ab_O} (h_X11_isName : ab_M l b D ab_cl cA (ab_E0 b) yX11_isName (Cond.code yX11_isName cX11_isName 3 (some .boolean) :: ab_G) ({ frames := 1, cells := 0, slots := 0, locals := 100 } : Room) f_X11_isName) {f_X11_bad : List Value → ab_H → Option ab_O} (h_X11_bad : ab_M l b D ab_cl cA (ab_E0 b) yX11_bad (Cond.code yX11_bad cX11_bad 2 (some .boolean) :: ab_G) ({ frames := 1, cells := 0, slots := 0, locals := 100 } : Room) f_X11_bad) {f_X11_find : List Value → ab_H → Option ab_O} (h_X11_find : ab_M l b D ab_cl cA (ab_E0 b) yX11_find (Cond.code yX11_find cX11_find 4 (some .int) :: ab_G) ({ frames := 1, cells := 0, slots := 0, locals := 100 } : Room) f_X11_find) : ab_M l b D ab_cl cA (ab_E0 b) yX11_looksAt (Cond.code yX11_looksAt cX11_looksAt 3 (some .boolean) :: ab_G) ({ frames := 2, cells := 0, slots := 0, locals := 200 } : Room) (ab_X (ab_T (L_X11_looksAt f_X11_isName f_X11_bad f_X11_find)) 3) := by
  refine ab_meth (ret := (some .boolean)) (L_X11_looksAt f_X11_isName f_X11_bad f_X11_find) (by decide) rfl fun p e R s m args below meth c o C => ?_
  unfold L_X11_looksAt
  refine List.forall_mem_cons.mpr ⟨ok_aload_n C (show decode cX11_looksAt 0 = .ok (.aload_n 0, 1) from dk_at dq33_26 (i := 0) rfl) rfl rfl, ?_⟩
  refine List.forall_mem_cons.mpr ⟨ok_callV C h_X11_isName ⟨rfl, rfl⟩ rfl kw_1363 kw_1360 kw_1362 kp_57 kw_11 rfl ds_X11_isName ⟨by decide, by decide⟩ (show decode cX11_looksAt 1 = .ok (.invokevirtual 190, 3) from dk_at dq33_26 (i := 1) rfl) rfl, ?_⟩
  refine List.forall_mem_cons.mpr ⟨ok_ifne C (show decode cX11_looksAt 4 = .ok (.ifCond .ne 9, 3) from dk_at dq33_26 (i := 2) rfl) (tg := 13) (by decide) rfl rfl, ?_⟩
  refine List.forall_mem_cons.mpr ⟨ok_aload_n C (show decode cX11_looksAt 7 = .ok (.aload_n 0, 1) from dk_at dq33_26 (i := 3) rfl) rfl rfl, ?_⟩
  refine List.forall_mem_cons.mpr ⟨ok_iconst C (show decode cX11_looksAt 8 = .ok (.iconst 1, 1) from dk_at dq33_26 (i := 4) rfl) (by decide) rfl, ?_⟩
  refine List.forall_mem_cons.mpr ⟨ok_callV C h_X11_bad ⟨rfl, rfl⟩ rfl kw_1344 kw_1341 kw_1343 kp_53 kw_11 rfl ds_X11_bad ⟨by decide, by decide⟩ (show decode cX11_looksAt 9 = .ok (.invokevirtual 173, 3) from dk_at dq33_26 (i := 5) rfl) rfl, ?_⟩
  refine List.forall_mem_cons.mpr ⟨ok_zret C rfl (show decode cX11_looksAt 12 = .ok (.ireturn, 1) from dk_at dq33_26 (i := 6) rfl), ?_⟩
  refine List.forall_mem_cons.mpr ⟨ok_aload_n C (show decode cX11_looksAt 13 = .ok (.aload_n 0, 1) from dk_at dq33_26 (i := 7) rfl) rfl rfl, ?_⟩
  refine List.forall_mem_cons.mpr ⟨ok_aload_n C (show decode cX11_looksAt 14 = .ok (.aload_n 0, 1) from dk_at dq33_26 (i := 8) rfl) rfl rfl, ?_⟩
  refine List.forall_mem_cons.mpr ⟨ok_iload_n C (show decode cX11_looksAt 15 = .ok (.iload_n 1, 1) from dk_at dq33_26 (i := 9) rfl) rfl rfl, ?_⟩
  refine List.forall_mem_cons.mpr ⟨ok_iload_n C (show decode cX11_looksAt 16 = .ok (.iload_n 2, 1) from dk_at dq33_26 (i := 10) rfl) rfl rfl, ?_⟩
  refine List.forall_mem_cons.mpr ⟨ok_callV C h_X11_find ⟨rfl, rfl⟩ rfl kw_1367 kw_1364 kw_1366 kp_58 kw_11 rfl ds_X11_find ⟨by decide, by decide⟩ (show decode cX11_looksAt 17 = .ok (.invokevirtual 194, 3) from dk_at dq33_26 (i := 11) rfl) rfl, ?_⟩
  refine List.forall_mem_cons.mpr ⟨ok_putf C (wi_X11) tyX11 tyX11_ok nmX11 rfl (by decide) kw_1198 (Or.inl rfl) (Or.inl ⟨rfl, rfl⟩) (show decode cX11_looksAt 20 = .ok (.putfield 183, 3) from dk_at dq33_26 (i := 12) rfl) rfl, ?_⟩
  refine List.forall_mem_cons.mpr ⟨ok_aload_n C (show decode cX11_looksAt 23 = .ok (.aload_n 0, 1) from dk_at dq33_26 (i := 13) rfl) rfl rfl, ?_⟩
  refine List.forall_mem_cons.mpr ⟨ok_getf C (wi_X11) rfl (by decide) kw_1198 (show decode cX11_looksAt 24 = .ok (.getfield 183, 3) from dk_at dq33_26 (i := 14) rfl) rfl, ?_⟩
  refine List.forall_mem_cons.mpr ⟨ok_ifge C (show decode cX11_looksAt 27 = .ok (.ifCond .ge 11, 3) from dk_at dq33_26 (i := 15) rfl) (tg := 38) (by decide) rfl rfl, ?_⟩
  refine List.forall_mem_cons.mpr ⟨ok_aload_n C (show decode cX11_looksAt 30 = .ok (.aload_n 0, 1) from dk_at dq33_27 (i := 0) rfl) rfl rfl, ?_⟩
  refine List.forall_mem_cons.mpr ⟨ok_iconst C (show decode cX11_looksAt 31 = .ok (.iconst 3, 1) from dk_at dq33_27 (i := 1) rfl) (by decide) rfl, ?_⟩
  refine List.forall_mem_cons.mpr ⟨ok_callV C h_X11_bad ⟨rfl, rfl⟩ rfl kw_1344 kw_1341 kw_1343 kp_53 kw_11 rfl ds_X11_bad ⟨by decide, by decide⟩ (show decode cX11_looksAt 32 = .ok (.invokevirtual 173, 3) from dk_at dq33_27 (i := 2) rfl) rfl, ?_⟩
  refine List.forall_mem_cons.mpr ⟨ok_ifeq C (show decode cX11_looksAt 35 = .ok (.ifCond .eq 7, 3) from dk_at dq33_27 (i := 3) rfl) (tg := 42) (by decide) rfl rfl, ?_⟩
  refine List.forall_mem_cons.mpr ⟨ok_iconst C (show decode cX11_looksAt 38 = .ok (.iconst 1, 1) from dk_at dq33_27 (i := 4) rfl) (by decide) rfl, ?_⟩
  refine List.forall_mem_cons.mpr ⟨ok_goto C (show decode cX11_looksAt 39 = .ok (.goto 4, 3) from dk_at dq33_27 (i := 5) rfl) (tg := 43) (by decide) rfl, ?_⟩
  refine List.forall_mem_cons.mpr ⟨ok_iconst C (show decode cX11_looksAt 42 = .ok (.iconst 0, 1) from dk_at dq33_27 (i := 6) rfl) (by decide) rfl, ?_⟩
  refine List.forall_mem_cons.mpr ⟨ok_zret C rfl (show decode cX11_looksAt 43 = .ok (.ireturn, 1) from dk_at dq33_27 (i := 7) rfl), ?_⟩
  exact fun _ h => absurd h List.not_mem_nil
def L_X11_takesName (f_X11_looksAt : List Value → ab_H → Option ab_O) (f_X11_next : List Value → ab_H → Option ab_O) : List (Nat × ab_A) := [
  (0, ab_nx 1 (ab_aload 0)),
  (1, ab_nx 2 (ab_iload 1)),
  (2, ab_nx 3 (ab_iload 2)),
  (3, ab_nx 6 (ab_callV 3 11 f_X11_looksAt 0 0 0 0)),
  (6, ab_if 9 11 (fun x => !decide (x = 0))),
  (9, ab_nx 10 (ab_lit (.int 0))),
  (10, ab_zret 0 0),
  (11, ab_nx 12 (ab_aload 0)),
  (12, ab_nx 15 (ab_callV 1 11 f_X11_next 0 0 0 0)),
  (15, ab_nx 16 (ab_lit (.int 1))),
  (16, ab_zret 0 0)]
set_option maxRecDepth 100000 in
theorem dq33_28 : ([(0, .aload_n 0, 1), (1, .iload_n 1, 1), (2, .iload_n 2, 1), (3, .invokevirtual 198, 3), (6, .ifCond .ne 5, 3), (9, .iconst 0, 1), (10, .ireturn, 1), (11, .aload_n 0, 1), (12, .invokevirtual 176, 3), (15, .iconst 1, 1), (16, .ireturn, 1)] : List (Nat × Instr × Nat)).all (fun q => decide (decode cX11_takesName q.1 = .ok q.2)) = true := by decide +kernel
set_option maxRecDepth 100000 in
set_option maxHeartbeats 4000000 in
theorem M_X11_takesName {l : Launch} {b : ab_B} {D : va_G} {cA : Nat → ClassId} {f_X11_looksAt : List Value → ab_H → Option ab_O} (h_X11_looksAt : ab_M l b D ab_cl cA (ab_E0 b) yX11_looksAt (Cond.code yX11_looksAt cX11_looksAt 3 (some .boolean) :: ab_G) ({ frames := 2, cells := 0, slots := 0, locals := 200 } : Room) f_X11_looksAt) {f_X11_next : List Value → ab_H → Option ab_O} (h_X11_next : ab_M l b D ab_cl cA (ab_E0 b) yX11_next (Cond.code yX11_next cX11_next 4 none :: ab_G) ({ frames := 2, cells := 0, slots := 0, locals := 200 } : Room) f_X11_next) : ab_M l b D ab_cl cA (ab_E0 b) yX11_takesName (Cond.code yX11_takesName cX11_takesName 3 (some .boolean) :: ab_G) ({ frames := 3, cells := 0, slots := 0, locals := 300 } : Room) (ab_X (ab_T (L_X11_takesName f_X11_looksAt f_X11_next)) 3) := by
  refine ab_meth (ret := (some .boolean)) (L_X11_takesName f_X11_looksAt f_X11_next) (by decide) rfl fun p e R s m args below meth c o C => ?_
  unfold L_X11_takesName
  refine List.forall_mem_cons.mpr ⟨ok_aload_n C (show decode cX11_takesName 0 = .ok (.aload_n 0, 1) from dk_at dq33_28 (i := 0) rfl) rfl rfl, ?_⟩
  refine List.forall_mem_cons.mpr ⟨ok_iload_n C (show decode cX11_takesName 1 = .ok (.iload_n 1, 1) from dk_at dq33_28 (i := 1) rfl) rfl rfl, ?_⟩
  refine List.forall_mem_cons.mpr ⟨ok_iload_n C (show decode cX11_takesName 2 = .ok (.iload_n 2, 1) from dk_at dq33_28 (i := 2) rfl) rfl rfl, ?_⟩
  refine List.forall_mem_cons.mpr ⟨ok_callV C h_X11_looksAt ⟨rfl, rfl⟩ rfl kw_1379 kw_1376 kw_1378 kp_61 kw_11 rfl ds_X11_looksAt ⟨by decide, by decide⟩ (show decode cX11_takesName 3 = .ok (.invokevirtual 198, 3) from dk_at dq33_28 (i := 3) rfl) rfl, ?_⟩
  refine List.forall_mem_cons.mpr ⟨ok_ifne C (show decode cX11_takesName 6 = .ok (.ifCond .ne 5, 3) from dk_at dq33_28 (i := 4) rfl) (tg := 11) (by decide) rfl rfl, ?_⟩
  refine List.forall_mem_cons.mpr ⟨ok_iconst C (show decode cX11_takesName 9 = .ok (.iconst 0, 1) from dk_at dq33_28 (i := 5) rfl) (by decide) rfl, ?_⟩
  refine List.forall_mem_cons.mpr ⟨ok_zret C rfl (show decode cX11_takesName 10 = .ok (.ireturn, 1) from dk_at dq33_28 (i := 6) rfl), ?_⟩
  refine List.forall_mem_cons.mpr ⟨ok_aload_n C (show decode cX11_takesName 11 = .ok (.aload_n 0, 1) from dk_at dq33_28 (i := 7) rfl) rfl rfl, ?_⟩
  refine List.forall_mem_cons.mpr ⟨ok_callV C h_X11_next ⟨rfl, rfl⟩ rfl kw_1322 kw_1319 kw_1321 kp_49 kw_11 rfl ds_X11_next ⟨by decide, by decide⟩ (show decode cX11_takesName 12 = .ok (.invokevirtual 176, 3) from dk_at dq33_28 (i := 8) rfl) rfl, ?_⟩
  refine List.forall_mem_cons.mpr ⟨ok_iconst C (show decode cX11_takesName 15 = .ok (.iconst 1, 1) from dk_at dq33_28 (i := 9) rfl) (by decide) rfl, ?_⟩
  refine List.forall_mem_cons.mpr ⟨ok_zret C rfl (show decode cX11_takesName 16 = .ok (.ireturn, 1) from dk_at dq33_28 (i := 10) rfl), ?_⟩
  exact fun _ h => absurd h List.not_mem_nil
end
-- 34.m14.lean.txt
section
def L_X11_readMisses (f_X11_bad : List Value → ab_H → Option ab_O) (f_X11_next : List Value → ab_H → Option ab_O) (f_X11_takesName : List Value → ab_H → Option ab_O) (f_X11_looksAt : List Value → ab_H → Option ab_O) (f_X11_puts : List Value → ab_H → Option ab_O) : List (Nat × ab_A) := [
  (0, ab_nx 1 (ab_aload 0)),
  (1, ab_nx 4 (ab_getf 11 7)),
  (4, ab_nx 5 (ab_lit (.int 3))),
  (5, ab_nx 6 (ab_ald 1)),
  (6, ab_nx 7 (ab_istore 1)),
  (7, ab_nx 8 (ab_iload 1)),
  (8, ab_nx 10 (ab_lit (.int 20))),
  (10, ab_icmp 13 19 (fun x y => !decide (x = y))),
  (13, ab_nx 14 (ab_aload 0)),
  (14, ab_nx 15 (ab_lit (.int 4))),
  (15, ab_nx 18 (ab_callV 2 11 f_X11_bad 0 0 0 0)),
  (18, ab_zret 0 0),
  (19, ab_nx 20 (ab_aload 0)),
  (20, ab_nx 23 (ab_callV 1 11 f_X11_next 0 0 0 0)),
  (23, ab_nx 24 (ab_aload 0)),
  (24, ab_nx 26 (ab_lit (.int 20))),
  (26, ab_nx 27 (ab_aload 0)),
  (27, ab_nx 30 (ab_getf 11 7)),
  (30, ab_nx 31 (ab_lit (.int 1))),
  (31, ab_nx 32 (ab_ald 1)),
  (32, ab_nx 35 (ab_callV 3 11 f_X11_takesName 0 0 0 0)),
  (35, ab_if 38 40 (fun x => !decide (x = 0))),
  (38, ab_nx 39 (ab_lit (.int 0))),
  (39, ab_zret 0 0),
  (40, ab_nx 41 (ab_aload 0)),
  (41, ab_nx 44 (ab_getf 11 18)),
  (44, ab_nx 45 (ab_istore 2)),
  (45, ab_nx 46 (ab_aload 0)),
  (46, ab_nx 48 (ab_lit (.int 20))),
  (48, ab_nx 49 (ab_aload 0)),
  (49, ab_nx 52 (ab_getf 11 7)),
  (52, ab_nx 53 (ab_lit (.int 1))),
  (53, ab_nx 54 (ab_ald 1)),
  (54, ab_nx 57 (ab_callV 3 11 f_X11_looksAt 0 0 0 0)),
  (57, ab_if 60 62 (fun x => !decide (x = 0))),
  (60, ab_nx 61 (ab_lit (.int 0))),
  (61, ab_zret 0 0),
  (62, ab_nx 63 (ab_aload 0)),
  (63, ab_nx 66 (ab_getf 11 18)),
  (66, ab_nx 67 (ab_iload 2)),
  (67, ab_icmp 70 74 (fun x y => decide (x = y))),
  (70, ab_nx 71 (ab_lit (.int 1))),
  (71, ab_goto 75),
  (74, ab_nx 75 (ab_lit (.int 0))),
  (75, ab_nx 76 (ab_istore 3)),
  (76, ab_nx 77 (ab_lit (.int 0))),
  (77, ab_nx 79 (ab_istore 4)),
  (79, ab_nx 81 (ab_iload 4)),
  (81, ab_nx 82 (ab_iload 1)),
  (82, ab_icmp 85 132 (fun x y => decide (y ≤ x))),
  (85, ab_nx 86 (ab_iload 3)),
  (86, ab_if 89 124 (fun x => decide (x = 0))),
  (89, ab_nx 90 (ab_aload 0)),
  (90, ab_nx 93 (ab_getf 11 7)),
  (93, ab_nx 95 (ab_lit (.int 60))),
  (95, ab_nx 97 (ab_iload 4)),
  (97, ab_nx 98 (ab_bin (fun x y => x + y))),
  (98, ab_nx 99 (ab_ald 1)),
  (99, ab_nx 100 (ab_iload 2)),
  (100, ab_icmp 103 120 (fun x y => !decide (x = y))),
  (103, ab_nx 104 (ab_aload 0)),
  (104, ab_nx 107 (ab_getf 11 7)),
  (107, ab_nx 109 (ab_lit (.int 80))),
  (109, ab_nx 111 (ab_iload 4)),
  (111, ab_nx 112 (ab_bin (fun x y => x + y))),
  (112, ab_nx 113 (ab_ald 1)),
  (113, ab_nx 114 (ab_aload 0)),
  (114, ab_nx 117 (ab_getf 11 18)),
  (117, ab_icmp 120 124 (fun x y => decide (x = y))),
  (120, ab_nx 121 (ab_lit (.int 1))),
  (121, ab_goto 125),
  (124, ab_nx 125 (ab_lit (.int 0))),
  (125, ab_nx 126 (ab_istore 3)),
  (126, ab_nx 129 (ab_iinc 4 1)),
  (129, ab_goto 79),
  (132, ab_nx 133 (ab_iload 3)),
  (133, ab_if 136 142 (fun x => !decide (x = 0))),
  (136, ab_nx 137 (ab_aload 0)),
  (137, ab_nx 138 (ab_lit (.int 3))),
  (138, ab_nx 141 (ab_callV 2 11 f_X11_bad 0 0 0 0)),
  (141, ab_zret 0 0),
  (142, ab_nx 143 (ab_aload 0)),
  (143, ab_nx 146 (ab_getf 11 7)),
  (146, ab_nx 148 (ab_lit (.int 60))),
  (148, ab_nx 149 (ab_iload 1)),
  (149, ab_nx 150 (ab_bin (fun x y => x + y))),
  (150, ab_nx 151 (ab_iload 2)),
  (151, ab_nx 152 (ab_ast 1)),
  (152, ab_nx 153 (ab_aload 0)),
  (153, ab_nx 156 (ab_getf 11 7)),
  (156, ab_nx 158 (ab_lit (.int 80))),
  (158, ab_nx 159 (ab_iload 1)),
  (159, ab_nx 160 (ab_bin (fun x y => x + y))),
  (160, ab_nx 161 (ab_aload 0)),
  (161, ab_nx 164 (ab_getf 11 18)),
  (164, ab_nx 165 (ab_ast 1)),
  (165, ab_nx 166 (ab_aload 0)),
  (166, ab_nx 169 (ab_callV 1 11 f_X11_next 0 0 0 0)),
  (169, ab_nx 170 (ab_aload 0)),
  (170, ab_nx 172 (ab_lit (.int 100))),
  (172, ab_nx 173 (ab_iload 1)),
  (173, ab_nx 174 (ab_bin (fun x y => x + y))),
  (174, ab_nx 175 (ab_lit (.int 0))),
  (175, ab_nx 177 (ab_lit (.int 60))),
  (177, ab_nx 180 (ab_callV 4 11 f_X11_puts 0 0 0 0)),
  (180, ab_if 183 185 (fun x => !decide (x = 0))),
  (183, ab_nx 184 (ab_lit (.int 0))),
  (184, ab_zret 0 0),
  (185, ab_nx 186 (ab_aload 0)),
  (186, ab_nx 189 (ab_getf 11 7)),
  (189, ab_nx 190 (ab_lit (.int 3))),
  (190, ab_nx 191 ab_dup2),
  (191, ab_nx 192 (ab_ald 1)),
  (192, ab_nx 193 (ab_lit (.int 1))),
  (193, ab_nx 194 (ab_bin (fun x y => x + y))),
  (194, ab_nx 195 (ab_ast 1)),
  (195, ab_nx 196 (ab_lit (.int 1))),
  (196, ab_zret 0 0)]
set_option maxRecDepth 100000 in
theorem dq34_0 : ([(0, .aload_n 0, 1), (1, .getfield 37, 3), (4, .iconst 3, 1), (5, .iaload, 1), (6, .istore_n 1, 1), (7, .iload_n 1, 1), (8, .bipush 20, 2), (10, .if_icmp .ne 9, 3), (13, .aload_n 0, 1), (14, .iconst 4, 1), (15, .invokevirtual 173, 3), (18, .ireturn, 1), (19, .aload_n 0, 1), (20, .invokevirtual 176, 3), (23, .aload_n 0, 1), (24, .bipush 20, 2)] : List (Nat × Instr × Nat)).all (fun q => decide (decode cX11_readMisses q.1 = .ok q.2)) = true := by decide +kernel
set_option maxRecDepth 100000 in
theorem dq34_1 : ([(26, .aload_n 0, 1), (27, .getfield 37, 3), (30, .iconst 1, 1), (31, .iaload, 1), (32, .invokevirtual 218, 3), (35, .ifCond .ne 5, 3), (38, .iconst 0, 1), (39, .ireturn, 1), (40, .aload_n 0, 1), (41, .getfield 183, 3), (44, .istore_n 2, 1), (45, .aload_n 0, 1), (46, .bipush 20, 2), (48, .aload_n 0, 1), (49, .getfield 37, 3), (52, .iconst 1, 1)] : List (Nat × Instr × Nat)).all (fun q => decide (decode cX11_readMisses q.1 = .ok q.2)) = true := by decide +kernel
set_option maxRecDepth 100000 in
theorem dq34_2 : ([(53, .iaload, 1), (54, .invokevirtual 198, 3), (57, .ifCond .ne 5, 3), (60, .iconst 0, 1), (61, .ireturn, 1), (62, .aload_n 0, 1), (63, .getfield 183, 3), (66, .iload_n 2, 1), (67, .if_icmp .eq 7, 3), (70, .iconst 1, 1), (71, .goto 4, 3), (74, .iconst 0, 1), (75, .istore_n 3, 1), (76, .iconst 0, 1), (77, .istore 4, 2), (79, .iload 4, 2)] : List (Nat × Instr × Nat)).all (fun q => decide (decode cX11_readMisses q.1 = .ok q.2)) = true := by decide +kernel
set_option maxRecDepth 100000 in
theorem dq34_3 : ([(81, .iload_n 1, 1), (82, .if_icmp .ge 50, 3), (85, .iload_n 3, 1), (86, .ifCond .eq 38, 3), (89, .aload_n 0, 1), (90, .getfield 37, 3), (93, .bipush 60, 2), (95, .iload 4, 2), (97, .iadd, 1), (98, .iaload, 1), (99, .iload_n 2, 1), (100, .if_icmp .ne 20, 3), (103, .aload_n 0, 1), (104, .getfield 37, 3), (107, .bipush 80, 2), (109, .iload 4, 2)] : List (Nat × Instr × Nat)).all (fun q => decide (decode cX11_readMisses q.1 = .ok q.2)) = true := by decide +kernel
set_option maxRecDepth 100000 in
theorem dq34_4 : ([(111, .iadd, 1), (112, .iaload, 1), (113, .aload_n 0, 1), (114, .getfield 183, 3), (117, .if_icmp .eq 7, 3), (120, .iconst 1, 1), (121, .goto 4, 3), (124, .iconst 0, 1), (125, .istore_n 3, 1), (126, .iinc 4 1, 3), (129, .goto (-50), 3), (132, .iload_n 3, 1), (133, .ifCond .ne 9, 3), (136, .aload_n 0, 1), (137, .iconst 3, 1), (138, .invokevirtual 173, 3)] : List (Nat × Instr × Nat)).all (fun q => decide (decode cX11_readMisses q.1 = .ok q.2)) = true := by decide +kernel
set_option maxRecDepth 100000 in
theorem dq34_5 : ([(141, .ireturn, 1), (142, .aload_n 0, 1), (143, .getfield 37, 3), (146, .bipush 60, 2), (148, .iload_n 1, 1), (149, .iadd, 1), (150, .iload_n 2, 1), (151, .iastore, 1), (152, .aload_n 0, 1), (153, .getfield 37, 3), (156, .bipush 80, 2), (158, .iload_n 1, 1), (159, .iadd, 1), (160, .aload_n 0, 1), (161, .getfield 183, 3), (164, .iastore, 1)] : List (Nat × Instr × Nat)).all (fun q => decide (decode cX11_readMisses q.1 = .ok q.2)) = true := by decide +kernel
set_option maxRecDepth 100000 in
theorem dq34_6 : ([(165, .aload_n 0, 1), (166, .invokevirtual 176, 3), (169, .aload_n 0, 1), (170, .bipush 100, 2), (172, .iload_n 1, 1), (173, .iadd, 1), (174, .iconst 0, 1), (175, .bipush 60, 2), (177, .invokevirtual 209, 3), (180, .ifCond .ne 5, 3), (183, .iconst 0, 1), (184, .ireturn, 1), (185, .aload_n 0, 1), (186, .getfield 37, 3), (189, .iconst 3, 1), (190, .dup2, 1)] : List (Nat × Instr × Nat)).all (fun q => decide (decode cX11_readMisses q.1 = .ok q.2)) = true := by decide +kernel
set_option maxRecDepth 100000 in
theorem dq34_7 : ([(191, .iaload, 1), (192, .iconst 1, 1), (193, .iadd, 1), (194, .iastore, 1), (195, .iconst 1, 1), (196, .ireturn, 1)] : List (Nat × Instr × Nat)).all (fun q => decide (decode cX11_readMisses q.1 = .ok q.2)) = true := by decide +kernel
set_option maxRecDepth 100000 in
set_option maxHeartbeats 4000000 in
theorem M_X11_readMisses {l : Launch} {b : ab_B} {D : va_G} {cA : Nat → ClassId} {f_X11_bad : List Value → ab_H → Option ab_O} (h_X11_bad : ab_M l b D ab_cl cA (ab_E0 b) yX11_bad (Cond.code yX11_bad cX11_bad 2 (some .boolean) :: ab_G) ({ frames := 1, cells := 0, slots := 0, locals := 100 } : Room) f_X11_bad) {f_X11_next : List Value → ab_H → Option ab_O} (h_X11_next : ab_M l b D ab_cl cA (ab_E0 b) yX11_next (Cond.code yX11_next cX11_next 4 none :: ab_G) ({ frames := 2, cells := 0, slots := 0, locals := 200 } : Room) f_X11_next) {f_X11_takesName : List Value → ab_H → Option ab_O} (h_X11_takesName : ab_M l b D ab_cl cA (ab_E0 b) yX11_takesName (Cond.code yX11_takesName cX11_takesName 3 (some .boolean) :: ab_G) ({ frames := 3, cells := 0, slots := 0, locals := 300 } : Room) f_X11_takesName) {f_X11_looksAt : List Value → ab_H → Option ab_O} (h_X11_looksAt : ab_M l b D ab_cl cA (ab_E0 b) yX11_looksAt (Cond.code yX11_looksAt cX11_looksAt 3 (some .boolean) :: ab_G) ({ frames := 2, cells := 0, slots := 0, locals := 200 } : Room) f_X11_looksAt) {f_X11_puts : List Value → ab_H → Option ab_O} (h_X11_puts : ab_M l b D ab_cl cA (ab_E0 b) yX11_puts (Cond.code yX11_puts cX11_puts 4 (some .boolean) :: ab_G) ({ frames := 4, cells := 0, slots := 0, locals := 400 } : Room) f_X11_puts) : ab_M l b D ab_cl cA (ab_E0 b) yX11_readMisses (Cond.code yX11_readMisses cX11_readMisses 5 (some .boolean) :: ab_G) ({ frames := 5, cells := 0, slots := 0, locals := 500 } : Room) (ab_X (ab_T (L_X11_readMisses f_X11_bad f_X11_next f_X11_takesName f_X11_looksAt f_X11_puts)) 5) := by
  refine ab_meth (ret := (some .boolean)) (L_X11_readMisses f_X11_bad f_X11_next f_X11_takesName f_X11_looksAt f_X11_puts) (by decide) rfl fun p e R s m args below meth c o C => ?_
  unfold L_X11_readMisses
  refine List.forall_mem_cons.mpr ⟨ok_aload_n C (show decode cX11_readMisses 0 = .ok (.aload_n 0, 1) from dk_at dq34_0 (i := 0) rfl) rfl rfl, ?_⟩
  refine List.forall_mem_cons.mpr ⟨ok_getf C (wi_X11) rfl (by decide) kw_1187 (show decode cX11_readMisses 1 = .ok (.getfield 37, 3) from dk_at dq34_0 (i := 1) rfl) rfl, ?_⟩
  refine List.forall_mem_cons.mpr ⟨ok_iconst C (show decode cX11_readMisses 4 = .ok (.iconst 3, 1) from dk_at dq34_0 (i := 2) rfl) (by decide) rfl, ?_⟩
  refine List.forall_mem_cons.mpr ⟨ok_iaload C (show decode cX11_readMisses 5 = .ok (.iaload, 1) from dk_at dq34_0 (i := 3) rfl) rfl, ?_⟩
  refine List.forall_mem_cons.mpr ⟨ok_istore_n C (show decode cX11_readMisses 6 = .ok (.istore_n 1, 1) from dk_at dq34_0 (i := 4) rfl) rfl (by decide) rfl, ?_⟩
  refine List.forall_mem_cons.mpr ⟨ok_iload_n C (show decode cX11_readMisses 7 = .ok (.iload_n 1, 1) from dk_at dq34_0 (i := 5) rfl) rfl rfl, ?_⟩
  refine List.forall_mem_cons.mpr ⟨ok_bipush C (show decode cX11_readMisses 8 = .ok (.bipush 20, 2) from dk_at dq34_0 (i := 6) rfl) (by decide) rfl, ?_⟩
  refine List.forall_mem_cons.mpr ⟨ok_icmpne C (show decode cX11_readMisses 10 = .ok (.if_icmp .ne 9, 3) from dk_at dq34_0 (i := 7) rfl) (tg := 19) (by decide) rfl rfl, ?_⟩
  refine List.forall_mem_cons.mpr ⟨ok_aload_n C (show decode cX11_readMisses 13 = .ok (.aload_n 0, 1) from dk_at dq34_0 (i := 8) rfl) rfl rfl, ?_⟩
  refine List.forall_mem_cons.mpr ⟨ok_iconst C (show decode cX11_readMisses 14 = .ok (.iconst 4, 1) from dk_at dq34_0 (i := 9) rfl) (by decide) rfl, ?_⟩
  refine List.forall_mem_cons.mpr ⟨ok_callV C h_X11_bad ⟨rfl, rfl⟩ rfl kw_1344 kw_1341 kw_1343 kp_53 kw_11 rfl ds_X11_bad ⟨by decide, by decide⟩ (show decode cX11_readMisses 15 = .ok (.invokevirtual 173, 3) from dk_at dq34_0 (i := 10) rfl) rfl, ?_⟩
  refine List.forall_mem_cons.mpr ⟨ok_zret C rfl (show decode cX11_readMisses 18 = .ok (.ireturn, 1) from dk_at dq34_0 (i := 11) rfl), ?_⟩
  refine List.forall_mem_cons.mpr ⟨ok_aload_n C (show decode cX11_readMisses 19 = .ok (.aload_n 0, 1) from dk_at dq34_0 (i := 12) rfl) rfl rfl, ?_⟩
  refine List.forall_mem_cons.mpr ⟨ok_callV C h_X11_next ⟨rfl, rfl⟩ rfl kw_1322 kw_1319 kw_1321 kp_49 kw_11 rfl ds_X11_next ⟨by decide, by decide⟩ (show decode cX11_readMisses 20 = .ok (.invokevirtual 176, 3) from dk_at dq34_0 (i := 13) rfl) rfl, ?_⟩
  refine List.forall_mem_cons.mpr ⟨ok_aload_n C (show decode cX11_readMisses 23 = .ok (.aload_n 0, 1) from dk_at dq34_0 (i := 14) rfl) rfl rfl, ?_⟩
  refine List.forall_mem_cons.mpr ⟨ok_bipush C (show decode cX11_readMisses 24 = .ok (.bipush 20, 2) from dk_at dq34_0 (i := 15) rfl) (by decide) rfl, ?_⟩
  refine List.forall_mem_cons.mpr ⟨ok_aload_n C (show decode cX11_readMisses 26 = .ok (.aload_n 0, 1) from dk_at dq34_1 (i := 0) rfl) rfl rfl, ?_⟩
  refine List.forall_mem_cons.mpr ⟨ok_getf C (wi_X11) rfl (by decide) kw_1187 (show decode cX11_readMisses 27 = .ok (.getfield 37, 3) from dk_at dq34_1 (i := 1) rfl) rfl, ?_⟩
  refine List.forall_mem_cons.mpr ⟨ok_iconst C (show decode cX11_readMisses 30 = .ok (.iconst 1, 1) from dk_at dq34_1 (i := 2) rfl) (by decide) rfl, ?_⟩
  refine List.forall_mem_cons.mpr ⟨ok_iaload C (show decode cX11_readMisses 31 = .ok (.iaload, 1) from dk_at dq34_1 (i := 3) rfl) rfl, ?_⟩
  refine List.forall_mem_cons.mpr ⟨ok_callV C h_X11_takesName ⟨rfl, rfl⟩ rfl kw_1375 kw_1372 kw_1374 kp_60 kw_11 rfl ds_X11_takesName ⟨by decide, by decide⟩ (show decode cX11_readMisses 32 = .ok (.invokevirtual 218, 3) from dk_at dq34_1 (i := 4) rfl) rfl, ?_⟩
  refine List.forall_mem_cons.mpr ⟨ok_ifne C (show decode cX11_readMisses 35 = .ok (.ifCond .ne 5, 3) from dk_at dq34_1 (i := 5) rfl) (tg := 40) (by decide) rfl rfl, ?_⟩
  refine List.forall_mem_cons.mpr ⟨ok_iconst C (show decode cX11_readMisses 38 = .ok (.iconst 0, 1) from dk_at dq34_1 (i := 6) rfl) (by decide) rfl, ?_⟩
  refine List.forall_mem_cons.mpr ⟨ok_zret C rfl (show decode cX11_readMisses 39 = .ok (.ireturn, 1) from dk_at dq34_1 (i := 7) rfl), ?_⟩
  refine List.forall_mem_cons.mpr ⟨ok_aload_n C (show decode cX11_readMisses 40 = .ok (.aload_n 0, 1) from dk_at dq34_1 (i := 8) rfl) rfl rfl, ?_⟩
  refine List.forall_mem_cons.mpr ⟨ok_getf C (wi_X11) rfl (by decide) kw_1198 (show decode cX11_readMisses 41 = .ok (.getfield 183, 3) from dk_at dq34_1 (i := 9) rfl) rfl, ?_⟩
  refine List.forall_mem_cons.mpr ⟨ok_istore_n C (show decode cX11_readMisses 44 = .ok (.istore_n 2, 1) from dk_at dq34_1 (i := 10) rfl) rfl (by decide) rfl, ?_⟩
  refine List.forall_mem_cons.mpr ⟨ok_aload_n C (show decode cX11_readMisses 45 = .ok (.aload_n 0, 1) from dk_at dq34_1 (i := 11) rfl) rfl rfl, ?_⟩
  refine List.forall_mem_cons.mpr ⟨ok_bipush C (show decode cX11_readMisses 46 = .ok (.bipush 20, 2) from dk_at dq34_1 (i := 12) rfl) (by decide) rfl, ?_⟩
  refine List.forall_mem_cons.mpr ⟨ok_aload_n C (show decode cX11_readMisses 48 = .ok (.aload_n 0, 1) from dk_at dq34_1 (i := 13) rfl) rfl rfl, ?_⟩
  refine List.forall_mem_cons.mpr ⟨ok_getf C (wi_X11) rfl (by decide) kw_1187 (show decode cX11_readMisses 49 = .ok (.getfield 37, 3) from dk_at dq34_1 (i := 14) rfl) rfl, ?_⟩
  refine List.forall_mem_cons.mpr ⟨ok_iconst C (show decode cX11_readMisses 52 = .ok (.iconst 1, 1) from dk_at dq34_1 (i := 15) rfl) (by decide) rfl, ?_⟩
  refine List.forall_mem_cons.mpr ⟨ok_iaload C (show decode cX11_readMisses 53 = .ok (.iaload, 1) from dk_at dq34_2 (i := 0) rfl) rfl, ?_⟩
  refine List.forall_mem_cons.mpr ⟨ok_callV C h_X11_looksAt ⟨rfl, rfl⟩ rfl kw_1379 kw_1376 kw_1378 kp_61 kw_11 rfl ds_X11_looksAt ⟨by decide, by decide⟩ (show decode cX11_readMisses 54 = .ok (.invokevirtual 198, 3) from dk_at dq34_2 (i := 1) rfl) rfl, ?_⟩
  refine List.forall_mem_cons.mpr ⟨ok_ifne C (show decode cX11_readMisses 57 = .ok (.ifCond .ne 5, 3) from dk_at dq34_2 (i := 2) rfl) (tg := 62) (by decide) rfl rfl, ?_⟩
  refine List.forall_mem_cons.mpr ⟨ok_iconst C (show decode cX11_readMisses 60 = .ok (.iconst 0, 1) from dk_at dq34_2 (i := 3) rfl) (by decide) rfl, ?_⟩
  refine List.forall_mem_cons.mpr ⟨ok_zret C rfl (show decode cX11_readMisses 61 = .ok (.ireturn, 1) from dk_at dq34_2 (i := 4) rfl), ?_⟩
  refine List.forall_mem_cons.mpr ⟨ok_aload_n C (show decode cX11_readMisses 62 = .ok (.aload_n 0, 1) from dk_at dq34_2 (i := 5) rfl) rfl rfl, ?_⟩
  refine List.forall_mem_cons.mpr ⟨ok_getf C (wi_X11) rfl (by decide) kw_1198 (show decode cX11_readMisses 63 = .ok (.getfield 183, 3) from dk_at dq34_2 (i := 6) rfl) rfl, ?_⟩
  refine List.forall_mem_cons.mpr ⟨ok_iload_n C (show decode cX11_readMisses 66 = .ok (.iload_n 2, 1) from dk_at dq34_2 (i := 7) rfl) rfl rfl, ?_⟩
  refine List.forall_mem_cons.mpr ⟨ok_icmpeq C (show decode cX11_readMisses 67 = .ok (.if_icmp .eq 7, 3) from dk_at dq34_2 (i := 8) rfl) (tg := 74) (by decide) rfl rfl, ?_⟩
  refine List.forall_mem_cons.mpr ⟨ok_iconst C (show decode cX11_readMisses 70 = .ok (.iconst 1, 1) from dk_at dq34_2 (i := 9) rfl) (by decide) rfl, ?_⟩
  refine List.forall_mem_cons.mpr ⟨ok_goto C (show decode cX11_readMisses 71 = .ok (.goto 4, 3) from dk_at dq34_2 (i := 10) rfl) (tg := 75) (by decide) rfl, ?_⟩
  refine List.forall_mem_cons.mpr ⟨ok_iconst C (show decode cX11_readMisses 74 = .ok (.iconst 0, 1) from dk_at dq34_2 (i := 11) rfl) (by decide) rfl, ?_⟩
  refine List.forall_mem_cons.mpr ⟨ok_istore_n C (show decode cX11_readMisses 75 = .ok (.istore_n 3, 1) from dk_at dq34_2 (i := 12) rfl) rfl (by decide) rfl, ?_⟩
  refine List.forall_mem_cons.mpr ⟨ok_iconst C (show decode cX11_readMisses 76 = .ok (.iconst 0, 1) from dk_at dq34_2 (i := 13) rfl) (by decide) rfl, ?_⟩
  refine List.forall_mem_cons.mpr ⟨ok_istore C (show decode cX11_readMisses 77 = .ok (.istore 4, 2) from dk_at dq34_2 (i := 14) rfl) (by decide) rfl, ?_⟩
  refine List.forall_mem_cons.mpr ⟨ok_iload C (show decode cX11_readMisses 79 = .ok (.iload 4, 2) from dk_at dq34_2 (i := 15) rfl) rfl, ?_⟩
  refine List.forall_mem_cons.mpr ⟨ok_iload_n C (show decode cX11_readMisses 81 = .ok (.iload_n 1, 1) from dk_at dq34_3 (i := 0) rfl) rfl rfl, ?_⟩
  refine List.forall_mem_cons.mpr ⟨ok_icmpge C (show decode cX11_readMisses 82 = .ok (.if_icmp .ge 50, 3) from dk_at dq34_3 (i := 1) rfl) (tg := 132) (by decide) rfl rfl, ?_⟩
  refine List.forall_mem_cons.mpr ⟨ok_iload_n C (show decode cX11_readMisses 85 = .ok (.iload_n 3, 1) from dk_at dq34_3 (i := 2) rfl) rfl rfl, ?_⟩
  refine List.forall_mem_cons.mpr ⟨ok_ifeq C (show decode cX11_readMisses 86 = .ok (.ifCond .eq 38, 3) from dk_at dq34_3 (i := 3) rfl) (tg := 124) (by decide) rfl rfl, ?_⟩
  refine List.forall_mem_cons.mpr ⟨ok_aload_n C (show decode cX11_readMisses 89 = .ok (.aload_n 0, 1) from dk_at dq34_3 (i := 4) rfl) rfl rfl, ?_⟩
  refine List.forall_mem_cons.mpr ⟨ok_getf C (wi_X11) rfl (by decide) kw_1187 (show decode cX11_readMisses 90 = .ok (.getfield 37, 3) from dk_at dq34_3 (i := 5) rfl) rfl, ?_⟩
  refine List.forall_mem_cons.mpr ⟨ok_bipush C (show decode cX11_readMisses 93 = .ok (.bipush 60, 2) from dk_at dq34_3 (i := 6) rfl) (by decide) rfl, ?_⟩
  refine List.forall_mem_cons.mpr ⟨ok_iload C (show decode cX11_readMisses 95 = .ok (.iload 4, 2) from dk_at dq34_3 (i := 7) rfl) rfl, ?_⟩
  refine List.forall_mem_cons.mpr ⟨ok_iadd C (show decode cX11_readMisses 97 = .ok (.iadd, 1) from dk_at dq34_3 (i := 8) rfl) rfl, ?_⟩
  refine List.forall_mem_cons.mpr ⟨ok_iaload C (show decode cX11_readMisses 98 = .ok (.iaload, 1) from dk_at dq34_3 (i := 9) rfl) rfl, ?_⟩
  refine List.forall_mem_cons.mpr ⟨ok_iload_n C (show decode cX11_readMisses 99 = .ok (.iload_n 2, 1) from dk_at dq34_3 (i := 10) rfl) rfl rfl, ?_⟩
  refine List.forall_mem_cons.mpr ⟨ok_icmpne C (show decode cX11_readMisses 100 = .ok (.if_icmp .ne 20, 3) from dk_at dq34_3 (i := 11) rfl) (tg := 120) (by decide) rfl rfl, ?_⟩
  refine List.forall_mem_cons.mpr ⟨ok_aload_n C (show decode cX11_readMisses 103 = .ok (.aload_n 0, 1) from dk_at dq34_3 (i := 12) rfl) rfl rfl, ?_⟩
  refine List.forall_mem_cons.mpr ⟨ok_getf C (wi_X11) rfl (by decide) kw_1187 (show decode cX11_readMisses 104 = .ok (.getfield 37, 3) from dk_at dq34_3 (i := 13) rfl) rfl, ?_⟩
  refine List.forall_mem_cons.mpr ⟨ok_bipush C (show decode cX11_readMisses 107 = .ok (.bipush 80, 2) from dk_at dq34_3 (i := 14) rfl) (by decide) rfl, ?_⟩
  refine List.forall_mem_cons.mpr ⟨ok_iload C (show decode cX11_readMisses 109 = .ok (.iload 4, 2) from dk_at dq34_3 (i := 15) rfl) rfl, ?_⟩
  refine List.forall_mem_cons.mpr ⟨ok_iadd C (show decode cX11_readMisses 111 = .ok (.iadd, 1) from dk_at dq34_4 (i := 0) rfl) rfl, ?_⟩
  refine List.forall_mem_cons.mpr ⟨ok_iaload C (show decode cX11_readMisses 112 = .ok (.iaload, 1) from dk_at dq34_4 (i := 1) rfl) rfl, ?_⟩
  refine List.forall_mem_cons.mpr ⟨ok_aload_n C (show decode cX11_readMisses 113 = .ok (.aload_n 0, 1) from dk_at dq34_4 (i := 2) rfl) rfl rfl, ?_⟩
  refine List.forall_mem_cons.mpr ⟨ok_getf C (wi_X11) rfl (by decide) kw_1198 (show decode cX11_readMisses 114 = .ok (.getfield 183, 3) from dk_at dq34_4 (i := 3) rfl) rfl, ?_⟩
  refine List.forall_mem_cons.mpr ⟨ok_icmpeq C (show decode cX11_readMisses 117 = .ok (.if_icmp .eq 7, 3) from dk_at dq34_4 (i := 4) rfl) (tg := 124) (by decide) rfl rfl, ?_⟩
  refine List.forall_mem_cons.mpr ⟨ok_iconst C (show decode cX11_readMisses 120 = .ok (.iconst 1, 1) from dk_at dq34_4 (i := 5) rfl) (by decide) rfl, ?_⟩
  refine List.forall_mem_cons.mpr ⟨ok_goto C (show decode cX11_readMisses 121 = .ok (.goto 4, 3) from dk_at dq34_4 (i := 6) rfl) (tg := 125) (by decide) rfl, ?_⟩
  refine List.forall_mem_cons.mpr ⟨ok_iconst C (show decode cX11_readMisses 124 = .ok (.iconst 0, 1) from dk_at dq34_4 (i := 7) rfl) (by decide) rfl, ?_⟩
  refine List.forall_mem_cons.mpr ⟨ok_istore_n C (show decode cX11_readMisses 125 = .ok (.istore_n 3, 1) from dk_at dq34_4 (i := 8) rfl) rfl (by decide) rfl, ?_⟩
  refine List.forall_mem_cons.mpr ⟨ok_iinc C (show decode cX11_readMisses 126 = .ok (.iinc 4 1, 3) from dk_at dq34_4 (i := 9) rfl) (by decide) (by decide) rfl, ?_⟩
  refine List.forall_mem_cons.mpr ⟨ok_goto C (show decode cX11_readMisses 129 = .ok (.goto (-50), 3) from dk_at dq34_4 (i := 10) rfl) (tg := 79) (by decide) rfl, ?_⟩
  refine List.forall_mem_cons.mpr ⟨ok_iload_n C (show decode cX11_readMisses 132 = .ok (.iload_n 3, 1) from dk_at dq34_4 (i := 11) rfl) rfl rfl, ?_⟩
  refine List.forall_mem_cons.mpr ⟨ok_ifne C (show decode cX11_readMisses 133 = .ok (.ifCond .ne 9, 3) from dk_at dq34_4 (i := 12) rfl) (tg := 142) (by decide) rfl rfl, ?_⟩
  refine List.forall_mem_cons.mpr ⟨ok_aload_n C (show decode cX11_readMisses 136 = .ok (.aload_n 0, 1) from dk_at dq34_4 (i := 13) rfl) rfl rfl, ?_⟩
  refine List.forall_mem_cons.mpr ⟨ok_iconst C (show decode cX11_readMisses 137 = .ok (.iconst 3, 1) from dk_at dq34_4 (i := 14) rfl) (by decide) rfl, ?_⟩
  refine List.forall_mem_cons.mpr ⟨ok_callV C h_X11_bad ⟨rfl, rfl⟩ rfl kw_1344 kw_1341 kw_1343 kp_53 kw_11 rfl ds_X11_bad ⟨by decide, by decide⟩ (show decode cX11_readMisses 138 = .ok (.invokevirtual 173, 3) from dk_at dq34_4 (i := 15) rfl) rfl, ?_⟩
  refine List.forall_mem_cons.mpr ⟨ok_zret C rfl (show decode cX11_readMisses 141 = .ok (.ireturn, 1) from dk_at dq34_5 (i := 0) rfl), ?_⟩
  refine List.forall_mem_cons.mpr ⟨ok_aload_n C (show decode cX11_readMisses 142 = .ok (.aload_n 0, 1) from dk_at dq34_5 (i := 1) rfl) rfl rfl, ?_⟩
  refine List.forall_mem_cons.mpr ⟨ok_getf C (wi_X11) rfl (by decide) kw_1187 (show decode cX11_readMisses 143 = .ok (.getfield 37, 3) from dk_at dq34_5 (i := 2) rfl) rfl, ?_⟩
  refine List.forall_mem_cons.mpr ⟨ok_bipush C (show decode cX11_readMisses 146 = .ok (.bipush 60, 2) from dk_at dq34_5 (i := 3) rfl) (by decide) rfl, ?_⟩
  refine List.forall_mem_cons.mpr ⟨ok_iload_n C (show decode cX11_readMisses 148 = .ok (.iload_n 1, 1) from dk_at dq34_5 (i := 4) rfl) rfl rfl, ?_⟩
  refine List.forall_mem_cons.mpr ⟨ok_iadd C (show decode cX11_readMisses 149 = .ok (.iadd, 1) from dk_at dq34_5 (i := 5) rfl) rfl, ?_⟩
  refine List.forall_mem_cons.mpr ⟨ok_iload_n C (show decode cX11_readMisses 150 = .ok (.iload_n 2, 1) from dk_at dq34_5 (i := 6) rfl) rfl rfl, ?_⟩
  refine List.forall_mem_cons.mpr ⟨ok_iastore C (show decode cX11_readMisses 151 = .ok (.iastore, 1) from dk_at dq34_5 (i := 7) rfl) rfl, ?_⟩
  refine List.forall_mem_cons.mpr ⟨ok_aload_n C (show decode cX11_readMisses 152 = .ok (.aload_n 0, 1) from dk_at dq34_5 (i := 8) rfl) rfl rfl, ?_⟩
  refine List.forall_mem_cons.mpr ⟨ok_getf C (wi_X11) rfl (by decide) kw_1187 (show decode cX11_readMisses 153 = .ok (.getfield 37, 3) from dk_at dq34_5 (i := 9) rfl) rfl, ?_⟩
  refine List.forall_mem_cons.mpr ⟨ok_bipush C (show decode cX11_readMisses 156 = .ok (.bipush 80, 2) from dk_at dq34_5 (i := 10) rfl) (by decide) rfl, ?_⟩
  refine List.forall_mem_cons.mpr ⟨ok_iload_n C (show decode cX11_readMisses 158 = .ok (.iload_n 1, 1) from dk_at dq34_5 (i := 11) rfl) rfl rfl, ?_⟩
  refine List.forall_mem_cons.mpr ⟨ok_iadd C (show decode cX11_readMisses 159 = .ok (.iadd, 1) from dk_at dq34_5 (i := 12) rfl) rfl, ?_⟩
  refine List.forall_mem_cons.mpr ⟨ok_aload_n C (show decode cX11_readMisses 160 = .ok (.aload_n 0, 1) from dk_at dq34_5 (i := 13) rfl) rfl rfl, ?_⟩
  refine List.forall_mem_cons.mpr ⟨ok_getf C (wi_X11) rfl (by decide) kw_1198 (show decode cX11_readMisses 161 = .ok (.getfield 183, 3) from dk_at dq34_5 (i := 14) rfl) rfl, ?_⟩
  refine List.forall_mem_cons.mpr ⟨ok_iastore C (show decode cX11_readMisses 164 = .ok (.iastore, 1) from dk_at dq34_5 (i := 15) rfl) rfl, ?_⟩
  refine List.forall_mem_cons.mpr ⟨ok_aload_n C (show decode cX11_readMisses 165 = .ok (.aload_n 0, 1) from dk_at dq34_6 (i := 0) rfl) rfl rfl, ?_⟩
  refine List.forall_mem_cons.mpr ⟨ok_callV C h_X11_next ⟨rfl, rfl⟩ rfl kw_1322 kw_1319 kw_1321 kp_49 kw_11 rfl ds_X11_next ⟨by decide, by decide⟩ (show decode cX11_readMisses 166 = .ok (.invokevirtual 176, 3) from dk_at dq34_6 (i := 1) rfl) rfl, ?_⟩
  refine List.forall_mem_cons.mpr ⟨ok_aload_n C (show decode cX11_readMisses 169 = .ok (.aload_n 0, 1) from dk_at dq34_6 (i := 2) rfl) rfl rfl, ?_⟩
  refine List.forall_mem_cons.mpr ⟨ok_bipush C (show decode cX11_readMisses 170 = .ok (.bipush 100, 2) from dk_at dq34_6 (i := 3) rfl) (by decide) rfl, ?_⟩
  refine List.forall_mem_cons.mpr ⟨ok_iload_n C (show decode cX11_readMisses 172 = .ok (.iload_n 1, 1) from dk_at dq34_6 (i := 4) rfl) rfl rfl, ?_⟩
  refine List.forall_mem_cons.mpr ⟨ok_iadd C (show decode cX11_readMisses 173 = .ok (.iadd, 1) from dk_at dq34_6 (i := 5) rfl) rfl, ?_⟩
  refine List.forall_mem_cons.mpr ⟨ok_iconst C (show decode cX11_readMisses 174 = .ok (.iconst 0, 1) from dk_at dq34_6 (i := 6) rfl) (by decide) rfl, ?_⟩
  refine List.forall_mem_cons.mpr ⟨ok_bipush C (show decode cX11_readMisses 175 = .ok (.bipush 60, 2) from dk_at dq34_6 (i := 7) rfl) (by decide) rfl, ?_⟩
  refine List.forall_mem_cons.mpr ⟨ok_callV C h_X11_puts ⟨rfl, rfl⟩ rfl kw_1348 kw_1345 kw_1347 kp_54 kw_11 rfl ds_X11_puts ⟨by decide, by decide⟩ (show decode cX11_readMisses 177 = .ok (.invokevirtual 209, 3) from dk_at dq34_6 (i := 8) rfl) rfl, ?_⟩
  refine List.forall_mem_cons.mpr ⟨ok_ifne C (show decode cX11_readMisses 180 = .ok (.ifCond .ne 5, 3) from dk_at dq34_6 (i := 9) rfl) (tg := 185) (by decide) rfl rfl, ?_⟩
  refine List.forall_mem_cons.mpr ⟨ok_iconst C (show decode cX11_readMisses 183 = .ok (.iconst 0, 1) from dk_at dq34_6 (i := 10) rfl) (by decide) rfl, ?_⟩
  refine List.forall_mem_cons.mpr ⟨ok_zret C rfl (show decode cX11_readMisses 184 = .ok (.ireturn, 1) from dk_at dq34_6 (i := 11) rfl), ?_⟩
  refine List.forall_mem_cons.mpr ⟨ok_aload_n C (show decode cX11_readMisses 185 = .ok (.aload_n 0, 1) from dk_at dq34_6 (i := 12) rfl) rfl rfl, ?_⟩
  refine List.forall_mem_cons.mpr ⟨ok_getf C (wi_X11) rfl (by decide) kw_1187 (show decode cX11_readMisses 186 = .ok (.getfield 37, 3) from dk_at dq34_6 (i := 13) rfl) rfl, ?_⟩
  refine List.forall_mem_cons.mpr ⟨ok_iconst C (show decode cX11_readMisses 189 = .ok (.iconst 3, 1) from dk_at dq34_6 (i := 14) rfl) (by decide) rfl, ?_⟩
  refine List.forall_mem_cons.mpr ⟨ok_dup2 C (show decode cX11_readMisses 190 = .ok (.dup2, 1) from dk_at dq34_6 (i := 15) rfl) rfl, ?_⟩
  refine List.forall_mem_cons.mpr ⟨ok_iaload C (show decode cX11_readMisses 191 = .ok (.iaload, 1) from dk_at dq34_7 (i := 0) rfl) rfl, ?_⟩
  refine List.forall_mem_cons.mpr ⟨ok_iconst C (show decode cX11_readMisses 192 = .ok (.iconst 1, 1) from dk_at dq34_7 (i := 1) rfl) (by decide) rfl, ?_⟩
  refine List.forall_mem_cons.mpr ⟨ok_iadd C (show decode cX11_readMisses 193 = .ok (.iadd, 1) from dk_at dq34_7 (i := 2) rfl) rfl, ?_⟩
  refine List.forall_mem_cons.mpr ⟨ok_iastore C (show decode cX11_readMisses 194 = .ok (.iastore, 1) from dk_at dq34_7 (i := 3) rfl) rfl, ?_⟩
  refine List.forall_mem_cons.mpr ⟨ok_iconst C (show decode cX11_readMisses 195 = .ok (.iconst 1, 1) from dk_at dq34_7 (i := 4) rfl) (by decide) rfl, ?_⟩
  refine List.forall_mem_cons.mpr ⟨ok_zret C rfl (show decode cX11_readMisses 196 = .ok (.ireturn, 1) from dk_at dq34_7 (i := 5) rfl), ?_⟩
  exact fun _ h => absurd h List.not_mem_nil
def L_X11_line (f_X11_isWord : List Value → ab_H → Option ab_O) (f_X11_bad : List Value → ab_H → Option ab_O) (f_X11_next : List Value → ab_H → Option ab_O) (f_X11_puts : List Value → ab_H → Option ab_O) (f_X11_fresh : List Value → ab_H → Option ab_O) (f_X11_readMisses : List Value → ab_H → Option ab_O) (f_X11_takesName : List Value → ab_H → Option ab_O) (f_X11_bitOf : List Value → ab_H → Option ab_O) : List (Nat × ab_A) := [
  (0, ab_nx 1 (ab_aload 0)),
  (1, ab_nx 4 (ab_lit (.long 1819238756))),
  (4, ab_nx 7 (ab_callV 2 11 f_X11_isWord 0 0 0 0)),
  (7, ab_if 10 41 (fun x => decide (x = 0))),
  (10, ab_nx 11 (ab_aload 0)),
  (11, ab_nx 14 (ab_getf 11 20)),
  (14, ab_if 17 23 (fun x => decide (x = 0))),
  (17, ab_nx 18 (ab_aload 0)),
  (18, ab_nx 19 (ab_lit (.int 3))),
  (19, ab_nx 22 (ab_callV 2 11 f_X11_bad 0 0 0 0)),
  (22, ab_zret 0 0),
  (23, ab_nx 24 (ab_aload 0)),
  (24, ab_nx 25 (ab_lit (.int 1))),
  (25, ab_nx 28 (ab_putf 11 20 3)),
  (28, ab_nx 29 (ab_aload 0)),
  (29, ab_nx 32 (ab_callV 1 11 f_X11_next 0 0 0 0)),
  (32, ab_nx 33 (ab_aload 0)),
  (33, ab_nx 34 (ab_lit (.int 2))),
  (34, ab_nx 35 (ab_lit (.int 1))),
  (35, ab_nx 37 (ab_lit (.int 40))),
  (37, ab_nx 40 (ab_callV 4 11 f_X11_puts 0 0 0 0)),
  (40, ab_zret 0 0),
  (41, ab_nx 42 (ab_aload 0)),
  (42, ab_nx 45 (ab_lit (.long 1735356260))),
  (45, ab_nx 48 (ab_callV 2 11 f_X11_isWord 0 0 0 0)),
  (48, ab_if 51 102 (fun x => decide (x = 0))),
  (51, ab_nx 52 (ab_aload 0)),
  (52, ab_nx 55 (ab_getf 11 7)),
  (55, ab_nx 56 (ab_lit (.int 0))),
  (56, ab_nx 57 (ab_ald 1)),
  (57, ab_nx 59 (ab_lit (.int 6))),
  (59, ab_icmp 62 68 (fun x y => !decide (x = y))),
  (62, ab_nx 63 (ab_aload 0)),
  (63, ab_nx 64 (ab_lit (.int 4))),
  (64, ab_nx 67 (ab_callV 2 11 f_X11_bad 0 0 0 0)),
  (67, ab_zret 0 0),
  (68, ab_nx 69 (ab_aload 0)),
  (69, ab_nx 72 (ab_callV 1 11 f_X11_next 0 0 0 0)),
  (72, ab_nx 73 (ab_aload 0)),
  (73, ab_nx 75 (ab_lit (.int 14))),
  (75, ab_nx 76 (ab_aload 0)),
  (76, ab_nx 79 (ab_getf 11 7)),
  (79, ab_nx 80 (ab_lit (.int 0))),
  (80, ab_nx 81 (ab_ald 1)),
  (81, ab_nx 82 (ab_bin (fun x y => x + y))),
  (82, ab_nx 85 (ab_callV 2 11 f_X11_fresh 0 0 0 0)),
  (85, ab_if 88 90 (fun x => !decide (x = 0))),
  (88, ab_nx 89 (ab_lit (.int 0))),
  (89, ab_zret 0 0),
  (90, ab_nx 91 (ab_aload 0)),
  (91, ab_nx 94 (ab_getf 11 7)),
  (94, ab_nx 95 (ab_lit (.int 0))),
  (95, ab_nx 96 ab_dup2),
  (96, ab_nx 97 (ab_ald 1)),
  (97, ab_nx 98 (ab_lit (.int 1))),
  (98, ab_nx 99 (ab_bin (fun x y => x + y))),
  (99, ab_nx 100 (ab_ast 1)),
  (100, ab_nx 101 (ab_lit (.int 1))),
  (101, ab_zret 0 0),
  (102, ab_nx 103 (ab_aload 0)),
  (103, ab_nx 106 (ab_lit (.long 7168366))),
  (106, ab_nx 109 (ab_callV 2 11 f_X11_isWord 0 0 0 0)),
  (109, ab_if 112 173 (fun x => decide (x = 0))),
  (112, ab_nx 113 (ab_aload 0)),
  (113, ab_nx 116 (ab_getf 11 7)),
  (116, ab_nx 117 (ab_lit (.int 1))),
  (117, ab_nx 118 (ab_ald 1)),
  (118, ab_nx 119 (ab_istore 1)),
  (119, ab_nx 120 (ab_iload 1)),
  (120, ab_nx 122 (ab_lit (.int 8))),
  (122, ab_icmp 125 131 (fun x y => !decide (x = y))),
  (125, ab_nx 126 (ab_aload 0)),
  (126, ab_nx 127 (ab_lit (.int 4))),
  (127, ab_nx 130 (ab_callV 2 11 f_X11_bad 0 0 0 0)),
  (130, ab_zret 0 0),
  (131, ab_nx 132 (ab_aload 0)),
  (132, ab_nx 135 (ab_callV 1 11 f_X11_next 0 0 0 0)),
  (135, ab_nx 136 (ab_aload 0)),
  (136, ab_nx 138 (ab_lit (.int 20))),
  (138, ab_nx 139 (ab_iload 1)),
  (139, ab_nx 140 (ab_bin (fun x y => x + y))),
  (140, ab_nx 143 (ab_callV 2 11 f_X11_fresh 0 0 0 0)),
  (143, ab_if 146 159 (fun x => decide (x = 0))),
  (146, ab_nx 147 (ab_aload 0)),
  (147, ab_nx 149 (ab_lit (.int 52))),
  (149, ab_nx 150 (ab_iload 1)),
  (150, ab_nx 151 (ab_bin (fun x y => x + y))),
  (151, ab_nx 152 (ab_lit (.int 0))),
  (152, ab_nx 153 (ab_lit (.int 1))),
  (153, ab_nx 156 (ab_callV 4 11 f_X11_puts 0 0 0 0)),
  (156, ab_if 159 161 (fun x => !decide (x = 0))),
  (159, ab_nx 160 (ab_lit (.int 0))),
  (160, ab_zret 0 0),
  (161, ab_nx 162 (ab_aload 0)),
  (162, ab_nx 165 (ab_getf 11 7)),
  (165, ab_nx 166 (ab_lit (.int 1))),
  (166, ab_nx 167 ab_dup2),
  (167, ab_nx 168 (ab_ald 1)),
  (168, ab_nx 169 (ab_lit (.int 1))),
  (169, ab_nx 170 (ab_bin (fun x y => x + y))),
  (170, ab_nx 171 (ab_ast 1)),
  (171, ab_nx 172 (ab_lit (.int 1))),
  (172, ab_zret 0 0),
  (173, ab_nx 174 (ab_aload 0)),
  (174, ab_nx 177 (ab_lit (.long 120299675936115))),
  (177, ab_nx 180 (ab_callV 2 11 f_X11_isWord 0 0 0 0)),
  (180, ab_if 183 188 (fun x => decide (x = 0))),
  (183, ab_nx 184 (ab_aload 0)),
  (184, ab_nx 187 (ab_callV 1 11 f_X11_readMisses 0 0 0 0)),
  (187, ab_zret 0 0),
  (188, ab_nx 189 (ab_aload 0)),
  (189, ab_nx 192 (ab_lit (.long 495874696043))),
  (192, ab_nx 195 (ab_callV 2 11 f_X11_isWord 0 0 0 0)),
  (195, ab_if 198 202 (fun x => decide (x = 0))),
  (198, ab_nx 199 (ab_lit (.int 0))),
  (199, ab_goto 245),
  (202, ab_nx 203 (ab_aload 0)),
  (203, ab_nx 206 (ab_lit (.long 512735736947))),
  (206, ab_nx 209 (ab_callV 2 11 f_X11_isWord 0 0 0 0)),
  (209, ab_if 212 216 (fun x => decide (x = 0))),
  (212, ab_nx 213 (ab_lit (.int 1))),
  (213, ab_goto 245),
  (216, ab_nx 217 (ab_aload 0)),
  (217, ab_nx 220 (ab_lit (.long 1700885619))),
  (220, ab_nx 223 (ab_callV 2 11 f_X11_isWord 0 0 0 0)),
  (223, ab_if 226 230 (fun x => decide (x = 0))),
  (226, ab_nx 227 (ab_lit (.int 2))),
  (227, ab_goto 245),
  (230, ab_nx 231 (ab_aload 0)),
  (231, ab_nx 234 (ab_lit (.long 469785863539))),
  (234, ab_nx 237 (ab_callV 2 11 f_X11_isWord 0 0 0 0)),
  (237, ab_if 240 244 (fun x => decide (x = 0))),
  (240, ab_nx 241 (ab_lit (.int 3))),
  (241, ab_goto 245),
  (244, ab_nx 245 (ab_lit (.int (-1)))),
  (245, ab_nx 246 (ab_istore 1)),
  (246, ab_nx 247 (ab_iload 1)),
  (247, ab_if 250 256 (fun x => decide (0 ≤ x))),
  (250, ab_nx 251 (ab_aload 0)),
  (251, ab_nx 252 (ab_lit (.int 1))),
  (252, ab_nx 255 (ab_callV 2 11 f_X11_bad 0 0 0 0)),
  (255, ab_zret 0 0),
  (256, ab_nx 257 (ab_aload 0)),
  (257, ab_nx 260 (ab_callV 1 11 f_X11_next 0 0 0 0)),
  (260, ab_nx 261 (ab_aload 0)),
  (261, ab_nx 263 (ab_lit (.int 14))),
  (263, ab_nx 264 (ab_aload 0)),
  (264, ab_nx 267 (ab_getf 11 7)),
  (267, ab_nx 268 (ab_lit (.int 0))),
  (268, ab_nx 269 (ab_ald 1)),
  (269, ab_nx 272 (ab_callV 3 11 f_X11_takesName 0 0 0 0)),
  (272, ab_if 275 277 (fun x => !decide (x = 0))),
  (275, ab_nx 276 (ab_lit (.int 0))),
  (276, ab_zret 0 0),
  (277, ab_nx 278 (ab_aload 0)),
  (278, ab_nx 281 (ab_getf 11 18)),
  (281, ab_nx 282 (ab_istore 2)),
  (282, ab_nx 283 (ab_aload 0)),
  (283, ab_nx 286 (ab_getf 11 11)),
  (286, ab_nx 287 (ab_lit (.int 2))),
  (287, ab_icmp 290 296 (fun x y => decide (x = y))),
  (290, ab_nx 291 (ab_aload 0)),
  (291, ab_nx 292 (ab_lit (.int 1))),
  (292, ab_nx 295 (ab_callV 2 11 f_X11_bad 0 0 0 0)),
  (295, ab_zret 0 0),
  (296, ab_nx 297 (ab_aload 0)),
  (297, ab_nx 300 (ab_getf 11 14)),
  (300, ab_nx 301 (ab_lit (.int 1))),
  (301, ab_icmp 304 310 (fun x y => decide (x ≤ y))),
  (304, ab_nx 305 (ab_aload 0)),
  (305, ab_nx 306 (ab_lit (.int 2))),
  (306, ab_nx 309 (ab_callV 2 11 f_X11_bad 0 0 0 0)),
  (309, ab_zret 0 0),
  (310, ab_nx 311 (ab_lit (.int 2))),
  (311, ab_nx 312 (ab_iload 2)),
  (312, ab_nx 313 (ab_bin (fun x y => x * y))),
  (313, ab_nx 314 (ab_aload 0)),
  (314, ab_nx 317 (ab_getf 11 14)),
  (317, ab_nx 318 (ab_bin (fun x y => x + y))),
  (318, ab_nx 319 (ab_istore 3)),
  (319, ab_nx 320 (ab_aload 0)),
  (320, ab_nx 323 (ab_getf 11 21)),
  (323, ab_nx 324 (ab_iload 1)),
  (324, ab_nx 325 (ab_ald 1)),
  (325, ab_nx 326 (ab_iload 3)),
  (326, ab_nx 329 (ab_call 2 f_X11_bitOf 0 0 0 0)),
  (329, ab_if 332 338 (fun x => decide (x = 0))),
  (332, ab_nx 333 (ab_aload 0)),
  (333, ab_nx 334 (ab_lit (.int 3))),
  (334, ab_nx 337 (ab_callV 2 11 f_X11_bad 0 0 0 0)),
  (337, ab_zret 0 0),
  (338, ab_nx 339 (ab_aload 0)),
  (339, ab_nx 342 (ab_getf 11 21)),
  (342, ab_nx 343 (ab_iload 1)),
  (343, ab_nx 344 ab_dup2),
  (344, ab_nx 345 (ab_ald 1)),
  (345, ab_nx 346 (ab_lit (.int 1))),
  (346, ab_nx 347 (ab_iload 3)),
  (347, ab_nx 348 (ab_bin (fun x y => x <<< (y &&& 31)))),
  (348, ab_nx 349 (ab_bin (fun x y => x ||| y))),
  (349, ab_nx 350 (ab_ast 1)),
  (350, ab_nx 351 (ab_aload 0)),
  (351, ab_nx 354 (ab_callV 1 11 f_X11_next 0 0 0 0)),
  (354, ab_nx 355 (ab_aload 0)),
  (355, ab_nx 356 (ab_lit (.int 4))),
  (356, ab_nx 358 (ab_lit (.int 12))),
  (358, ab_nx 359 (ab_iload 1)),
  (359, ab_nx 360 (ab_bin (fun x y => x * y))),
  (360, ab_nx 361 (ab_bin (fun x y => x + y))),
  (361, ab_nx 362 (ab_iload 3)),
  (362, ab_nx 363 (ab_bin (fun x y => x + y))),
  (363, ab_nx 364 (ab_lit (.int 0))),
  (364, ab_nx 365 (ab_iload 1)),
  (365, ab_nx 366 (ab_lit (.int 2))),
  (366, ab_icmp 369 375 (fun x y => decide (y ≤ x))),
  (369, ab_nx 372 (ab_lit (.int 250))),
  (372, ab_goto 377),
  (375, ab_nx 377 (ab_lit (.int 20))),
  (377, ab_nx 380 (ab_callV 4 11 f_X11_puts 0 0 0 0)),
  (380, ab_zret 0 0)]
set_option maxRecDepth 100000 in
theorem dq34_8 : ([(0, .aload_n 0, 1), (1, .ldc2_w 87, 3), (4, .invokevirtual 201, 3), (7, .ifCond .eq 34, 3), (10, .aload_n 0, 1), (11, .getfield 205, 3), (14, .ifCond .eq 9, 3), (17, .aload_n 0, 1), (18, .iconst 3, 1), (19, .invokevirtual 173, 3), (22, .ireturn, 1), (23, .aload_n 0, 1), (24, .iconst 1, 1), (25, .putfield 205, 3), (28, .aload_n 0, 1), (29, .invokevirtual 176, 3)] : List (Nat × Instr × Nat)).all (fun q => decide (decode cX11_line q.1 = .ok q.2)) = true := by decide +kernel
set_option maxRecDepth 100000 in
theorem dq34_9 : ([(32, .aload_n 0, 1), (33, .iconst 2, 1), (34, .iconst 1, 1), (35, .bipush 40, 2), (37, .invokevirtual 209, 3), (40, .ireturn, 1), (41, .aload_n 0, 1), (42, .ldc2_w 89, 3), (45, .invokevirtual 201, 3), (48, .ifCond .eq 54, 3), (51, .aload_n 0, 1), (52, .getfield 37, 3), (55, .iconst 0, 1), (56, .iaload, 1), (57, .bipush 6, 2), (59, .if_icmp .ne 9, 3)] : List (Nat × Instr × Nat)).all (fun q => decide (decode cX11_line q.1 = .ok q.2)) = true := by decide +kernel
set_option maxRecDepth 100000 in
theorem dq34_10 : ([(62, .aload_n 0, 1), (63, .iconst 4, 1), (64, .invokevirtual 173, 3), (67, .ireturn, 1), (68, .aload_n 0, 1), (69, .invokevirtual 176, 3), (72, .aload_n 0, 1), (73, .bipush 14, 2), (75, .aload_n 0, 1), (76, .getfield 37, 3), (79, .iconst 0, 1), (80, .iaload, 1), (81, .iadd, 1), (82, .invokevirtual 212, 3), (85, .ifCond .ne 5, 3), (88, .iconst 0, 1)] : List (Nat × Instr × Nat)).all (fun q => decide (decode cX11_line q.1 = .ok q.2)) = true := by decide +kernel
set_option maxRecDepth 100000 in
theorem dq34_11 : ([(89, .ireturn, 1), (90, .aload_n 0, 1), (91, .getfield 37, 3), (94, .iconst 0, 1), (95, .dup2, 1), (96, .iaload, 1), (97, .iconst 1, 1), (98, .iadd, 1), (99, .iastore, 1), (100, .iconst 1, 1), (101, .ireturn, 1), (102, .aload_n 0, 1), (103, .ldc2_w 99, 3), (106, .invokevirtual 201, 3), (109, .ifCond .eq 64, 3), (112, .aload_n 0, 1)] : List (Nat × Instr × Nat)).all (fun q => decide (decode cX11_line q.1 = .ok q.2)) = true := by decide +kernel
set_option maxRecDepth 100000 in
theorem dq34_12 : ([(113, .getfield 37, 3), (116, .iconst 1, 1), (117, .iaload, 1), (118, .istore_n 1, 1), (119, .iload_n 1, 1), (120, .bipush 8, 2), (122, .if_icmp .ne 9, 3), (125, .aload_n 0, 1), (126, .iconst 4, 1), (127, .invokevirtual 173, 3), (130, .ireturn, 1), (131, .aload_n 0, 1), (132, .invokevirtual 176, 3), (135, .aload_n 0, 1), (136, .bipush 20, 2), (138, .iload_n 1, 1)] : List (Nat × Instr × Nat)).all (fun q => decide (decode cX11_line q.1 = .ok q.2)) = true := by decide +kernel
set_option maxRecDepth 100000 in
theorem dq34_13 : ([(139, .iadd, 1), (140, .invokevirtual 212, 3), (143, .ifCond .eq 16, 3), (146, .aload_n 0, 1), (147, .bipush 52, 2), (149, .iload_n 1, 1), (150, .iadd, 1), (151, .iconst 0, 1), (152, .iconst 1, 1), (153, .invokevirtual 209, 3), (156, .ifCond .ne 5, 3), (159, .iconst 0, 1), (160, .ireturn, 1), (161, .aload_n 0, 1), (162, .getfield 37, 3), (165, .iconst 1, 1)] : List (Nat × Instr × Nat)).all (fun q => decide (decode cX11_line q.1 = .ok q.2)) = true := by decide +kernel
set_option maxRecDepth 100000 in
theorem dq34_14 : ([(166, .dup2, 1), (167, .iaload, 1), (168, .iconst 1, 1), (169, .iadd, 1), (170, .iastore, 1), (171, .iconst 1, 1), (172, .ireturn, 1), (173, .aload_n 0, 1), (174, .ldc2_w 101, 3), (177, .invokevirtual 201, 3), (180, .ifCond .eq 8, 3), (183, .aload_n 0, 1), (184, .invokevirtual 215, 3), (187, .ireturn, 1), (188, .aload_n 0, 1), (189, .ldc2_w 91, 3)] : List (Nat × Instr × Nat)).all (fun q => decide (decode cX11_line q.1 = .ok q.2)) = true := by decide +kernel
set_option maxRecDepth 100000 in
theorem dq34_15 : ([(192, .invokevirtual 201, 3), (195, .ifCond .eq 7, 3), (198, .iconst 0, 1), (199, .goto 46, 3), (202, .aload_n 0, 1), (203, .ldc2_w 93, 3), (206, .invokevirtual 201, 3), (209, .ifCond .eq 7, 3), (212, .iconst 1, 1), (213, .goto 32, 3), (216, .aload_n 0, 1), (217, .ldc2_w 95, 3), (220, .invokevirtual 201, 3), (223, .ifCond .eq 7, 3), (226, .iconst 2, 1), (227, .goto 18, 3)] : List (Nat × Instr × Nat)).all (fun q => decide (decode cX11_line q.1 = .ok q.2)) = true := by decide +kernel
set_option maxRecDepth 100000 in
theorem dq34_16 : ([(230, .aload_n 0, 1), (231, .ldc2_w 97, 3), (234, .invokevirtual 201, 3), (237, .ifCond .eq 7, 3), (240, .iconst 3, 1), (241, .goto 4, 3), (244, .iconst (-1), 1), (245, .istore_n 1, 1), (246, .iload_n 1, 1), (247, .ifCond .ge 9, 3), (250, .aload_n 0, 1), (251, .iconst 1, 1), (252, .invokevirtual 173, 3), (255, .ireturn, 1), (256, .aload_n 0, 1), (257, .invokevirtual 176, 3)] : List (Nat × Instr × Nat)).all (fun q => decide (decode cX11_line q.1 = .ok q.2)) = true := by decide +kernel
set_option maxRecDepth 100000 in
theorem dq34_17 : ([(260, .aload_n 0, 1), (261, .bipush 14, 2), (263, .aload_n 0, 1), (264, .getfield 37, 3), (267, .iconst 0, 1), (268, .iaload, 1), (269, .invokevirtual 218, 3), (272, .ifCond .ne 5, 3), (275, .iconst 0, 1), (276, .ireturn, 1), (277, .aload_n 0, 1), (278, .getfield 183, 3), (281, .istore_n 2, 1), (282, .aload_n 0, 1), (283, .getfield 147, 3), (286, .iconst 2, 1)] : List (Nat × Instr × Nat)).all (fun q => decide (decode cX11_line q.1 = .ok q.2)) = true := by decide +kernel
set_option maxRecDepth 100000 in
theorem dq34_18 : ([(287, .if_icmp .eq 9, 3), (290, .aload_n 0, 1), (291, .iconst 1, 1), (292, .invokevirtual 173, 3), (295, .ireturn, 1), (296, .aload_n 0, 1), (297, .getfield 157, 3), (300, .iconst 1, 1), (301, .if_icmp .le 9, 3), (304, .aload_n 0, 1), (305, .iconst 2, 1), (306, .invokevirtual 173, 3), (309, .ireturn, 1), (310, .iconst 2, 1), (311, .iload_n 2, 1), (312, .imul, 1)] : List (Nat × Instr × Nat)).all (fun q => decide (decode cX11_line q.1 = .ok q.2)) = true := by decide +kernel
set_option maxRecDepth 100000 in
theorem dq34_19 : ([(313, .aload_n 0, 1), (314, .getfield 157, 3), (317, .iadd, 1), (318, .istore_n 3, 1), (319, .aload_n 0, 1), (320, .getfield 50, 3), (323, .iload_n 1, 1), (324, .iaload, 1), (325, .iload_n 3, 1), (326, .invokestatic 221, 3), (329, .ifCond .eq 9, 3), (332, .aload_n 0, 1), (333, .iconst 3, 1), (334, .invokevirtual 173, 3), (337, .ireturn, 1), (338, .aload_n 0, 1)] : List (Nat × Instr × Nat)).all (fun q => decide (decode cX11_line q.1 = .ok q.2)) = true := by decide +kernel
set_option maxRecDepth 100000 in
theorem dq34_20 : ([(339, .getfield 50, 3), (342, .iload_n 1, 1), (343, .dup2, 1), (344, .iaload, 1), (345, .iconst 1, 1), (346, .iload_n 3, 1), (347, .ishl, 1), (348, .ior, 1), (349, .iastore, 1), (350, .aload_n 0, 1), (351, .invokevirtual 176, 3), (354, .aload_n 0, 1), (355, .iconst 4, 1), (356, .bipush 12, 2), (358, .iload_n 1, 1), (359, .imul, 1)] : List (Nat × Instr × Nat)).all (fun q => decide (decode cX11_line q.1 = .ok q.2)) = true := by decide +kernel
set_option maxRecDepth 100000 in
theorem dq34_21 : ([(360, .iadd, 1), (361, .iload_n 3, 1), (362, .iadd, 1), (363, .iconst 0, 1), (364, .iload_n 1, 1), (365, .iconst 2, 1), (366, .if_icmp .ge 9, 3), (369, .sipush 250, 3), (372, .goto 5, 3), (375, .bipush 20, 2), (377, .invokevirtual 209, 3), (380, .ireturn, 1)] : List (Nat × Instr × Nat)).all (fun q => decide (decode cX11_line q.1 = .ok q.2)) = true := by decide +kernel
set_option maxRecDepth 100000 in
set_option maxHeartbeats 4000000 in
theorem M_X11_line {l : Launch} {b : ab_B} {D : va_G} {cA : Nat → ClassId} {f_X11_isWord : List Value → ab_H → Option ab_O} (h_X11_isWord : ab_M l b D ab_cl cA (ab_E0 b) yX11_isWord (Cond.code yX11_isWord cX11_isWord 3 (some .boolean) :: ab_G) ({ frames := 1, cells := 0, slots := 0, locals := 100 } : Room) f_X11_isWord) {f_X11_bad : List Value → ab_H → Option ab_O} (h_X11_bad : ab_M l b D ab_cl cA (ab_E0 b) yX11_bad (Cond.code yX11_bad cX11_bad 2 (some .boolean) :: ab_G) ({ frames := 1, cells := 0, slots := 0, locals := 100 } : Room) f_X11_bad) {f_X11_next : List Value → ab_H → Option ab_O} (h_X11_next : ab_M l b D ab_cl cA (ab_E0 b) yX11_next (Cond.code yX11_next cX11_next 4 none :: ab_G) ({ frames := 2, cells := 0, slots := 0, locals := 200 } : Room) f_X11_next) {f_X11_puts : List Value → ab_H → Option ab_O} (h_X11_puts : ab_M l b D ab_cl cA (ab_E0 b) yX11_puts (Cond.code yX11_puts cX11_puts 4 (some .boolean) :: ab_G) ({ frames := 4, cells := 0, slots := 0, locals := 400 } : Room) f_X11_puts) {f_X11_fresh : List Value → ab_H → Option ab_O} (h_X11_fresh : ab_M l b D ab_cl cA (ab_E0 b) yX11_fresh (Cond.code yX11_fresh cX11_fresh 2 (some .boolean) :: ab_G) ({ frames := 3, cells := 0, slots := 0, locals := 300 } : Room) f_X11_fresh) {f_X11_readMisses : List Value → ab_H → Option ab_O} (h_X11_readMisses : ab_M l b D ab_cl cA (ab_E0 b) yX11_readMisses (Cond.code yX11_readMisses cX11_readMisses 5 (some .boolean) :: ab_G) ({ frames := 5, cells := 0, slots := 0, locals := 500 } : Room) f_X11_readMisses) {f_X11_takesName : List Value → ab_H → Option ab_O} (h_X11_takesName : ab_M l b D ab_cl cA (ab_E0 b) yX11_takesName (Cond.code yX11_takesName cX11_takesName 3 (some .boolean) :: ab_G) ({ frames := 3, cells := 0, slots := 0, locals := 300 } : Room) f_X11_takesName) {f_X11_bitOf : List Value → ab_H → Option ab_O} (h_X11_bitOf : ab_M l b D ab_cl cA (ab_E0 b) yX11_bitOf (Cond.code yX11_bitOf cX11_bitOf 2 (some .boolean) :: ab_G) ({ frames := 1, cells := 0, slots := 0, locals := 100 } : Room) f_X11_bitOf) : ab_M l b D ab_cl cA (ab_E0 b) yX11_line (Cond.code yX11_line cX11_line 4 (some .boolean) :: ab_G) ({ frames := 6, cells := 0, slots := 0, locals := 600 } : Room) (ab_X (ab_T (L_X11_line f_X11_isWord f_X11_bad f_X11_next f_X11_puts f_X11_fresh f_X11_readMisses f_X11_takesName f_X11_bitOf)) 4) := by
  refine ab_meth (ret := (some .boolean)) (L_X11_line f_X11_isWord f_X11_bad f_X11_next f_X11_puts f_X11_fresh f_X11_readMisses f_X11_takesName f_X11_bitOf) (by decide) rfl fun p e R s m args below meth c o C => ?_
  unfold L_X11_line
  refine List.forall_mem_cons.mpr ⟨ok_aload_n C (show decode cX11_line 0 = .ok (.aload_n 0, 1) from dk_at dq34_8 (i := 0) rfl) rfl rfl, ?_⟩
  refine List.forall_mem_cons.mpr ⟨ok_ldc2 C (show decode cX11_line 1 = .ok (.ldc2_w 87, 3) from dk_at dq34_8 (i := 1) rfl) (gm kw_1155) rfl, ?_⟩
  refine List.forall_mem_cons.mpr ⟨ok_callV C h_X11_isWord ⟨rfl, rfl⟩ rfl kw_1340 kw_1337 kw_1339 kp_52 kw_11 rfl ds_X11_isWord ⟨by decide, by decide⟩ (show decode cX11_line 4 = .ok (.invokevirtual 201, 3) from dk_at dq34_8 (i := 2) rfl) rfl, ?_⟩
  refine List.forall_mem_cons.mpr ⟨ok_ifeq C (show decode cX11_line 7 = .ok (.ifCond .eq 34, 3) from dk_at dq34_8 (i := 3) rfl) (tg := 41) (by decide) rfl rfl, ?_⟩
  refine List.forall_mem_cons.mpr ⟨ok_aload_n C (show decode cX11_line 10 = .ok (.aload_n 0, 1) from dk_at dq34_8 (i := 4) rfl) rfl rfl, ?_⟩
  refine List.forall_mem_cons.mpr ⟨ok_getf C (wi_X11) rfl (by decide) kw_1200 (show decode cX11_line 11 = .ok (.getfield 205, 3) from dk_at dq34_8 (i := 5) rfl) rfl, ?_⟩
  refine List.forall_mem_cons.mpr ⟨ok_ifeq C (show decode cX11_line 14 = .ok (.ifCond .eq 9, 3) from dk_at dq34_8 (i := 6) rfl) (tg := 23) (by decide) rfl rfl, ?_⟩
  refine List.forall_mem_cons.mpr ⟨ok_aload_n C (show decode cX11_line 17 = .ok (.aload_n 0, 1) from dk_at dq34_8 (i := 7) rfl) rfl rfl, ?_⟩
  refine List.forall_mem_cons.mpr ⟨ok_iconst C (show decode cX11_line 18 = .ok (.iconst 3, 1) from dk_at dq34_8 (i := 8) rfl) (by decide) rfl, ?_⟩
  refine List.forall_mem_cons.mpr ⟨ok_callV C h_X11_bad ⟨rfl, rfl⟩ rfl kw_1344 kw_1341 kw_1343 kp_53 kw_11 rfl ds_X11_bad ⟨by decide, by decide⟩ (show decode cX11_line 19 = .ok (.invokevirtual 173, 3) from dk_at dq34_8 (i := 9) rfl) rfl, ?_⟩
  refine List.forall_mem_cons.mpr ⟨ok_zret C rfl (show decode cX11_line 22 = .ok (.ireturn, 1) from dk_at dq34_8 (i := 10) rfl), ?_⟩
  refine List.forall_mem_cons.mpr ⟨ok_aload_n C (show decode cX11_line 23 = .ok (.aload_n 0, 1) from dk_at dq34_8 (i := 11) rfl) rfl rfl, ?_⟩
  refine List.forall_mem_cons.mpr ⟨ok_iconst C (show decode cX11_line 24 = .ok (.iconst 1, 1) from dk_at dq34_8 (i := 12) rfl) (by decide) rfl, ?_⟩
  refine List.forall_mem_cons.mpr ⟨ok_putf C (wi_X11) tyX11 tyX11_ok nmX11 rfl (by decide) kw_1200 (Or.inl rfl) (Or.inr (Or.inr (Or.inr ⟨rfl, rfl⟩))) (show decode cX11_line 25 = .ok (.putfield 205, 3) from dk_at dq34_8 (i := 13) rfl) rfl, ?_⟩
  refine List.forall_mem_cons.mpr ⟨ok_aload_n C (show decode cX11_line 28 = .ok (.aload_n 0, 1) from dk_at dq34_8 (i := 14) rfl) rfl rfl, ?_⟩
  refine List.forall_mem_cons.mpr ⟨ok_callV C h_X11_next ⟨rfl, rfl⟩ rfl kw_1322 kw_1319 kw_1321 kp_49 kw_11 rfl ds_X11_next ⟨by decide, by decide⟩ (show decode cX11_line 29 = .ok (.invokevirtual 176, 3) from dk_at dq34_8 (i := 15) rfl) rfl, ?_⟩
  refine List.forall_mem_cons.mpr ⟨ok_aload_n C (show decode cX11_line 32 = .ok (.aload_n 0, 1) from dk_at dq34_9 (i := 0) rfl) rfl rfl, ?_⟩
  refine List.forall_mem_cons.mpr ⟨ok_iconst C (show decode cX11_line 33 = .ok (.iconst 2, 1) from dk_at dq34_9 (i := 1) rfl) (by decide) rfl, ?_⟩
  refine List.forall_mem_cons.mpr ⟨ok_iconst C (show decode cX11_line 34 = .ok (.iconst 1, 1) from dk_at dq34_9 (i := 2) rfl) (by decide) rfl, ?_⟩
  refine List.forall_mem_cons.mpr ⟨ok_bipush C (show decode cX11_line 35 = .ok (.bipush 40, 2) from dk_at dq34_9 (i := 3) rfl) (by decide) rfl, ?_⟩
  refine List.forall_mem_cons.mpr ⟨ok_callV C h_X11_puts ⟨rfl, rfl⟩ rfl kw_1348 kw_1345 kw_1347 kp_54 kw_11 rfl ds_X11_puts ⟨by decide, by decide⟩ (show decode cX11_line 37 = .ok (.invokevirtual 209, 3) from dk_at dq34_9 (i := 4) rfl) rfl, ?_⟩
  refine List.forall_mem_cons.mpr ⟨ok_zret C rfl (show decode cX11_line 40 = .ok (.ireturn, 1) from dk_at dq34_9 (i := 5) rfl), ?_⟩
  refine List.forall_mem_cons.mpr ⟨ok_aload_n C (show decode cX11_line 41 = .ok (.aload_n 0, 1) from dk_at dq34_9 (i := 6) rfl) rfl rfl, ?_⟩
  refine List.forall_mem_cons.mpr ⟨ok_ldc2 C (show decode cX11_line 42 = .ok (.ldc2_w 89, 3) from dk_at dq34_9 (i := 7) rfl) (gm kw_1156) rfl, ?_⟩
  refine List.forall_mem_cons.mpr ⟨ok_callV C h_X11_isWord ⟨rfl, rfl⟩ rfl kw_1340 kw_1337 kw_1339 kp_52 kw_11 rfl ds_X11_isWord ⟨by decide, by decide⟩ (show decode cX11_line 45 = .ok (.invokevirtual 201, 3) from dk_at dq34_9 (i := 8) rfl) rfl, ?_⟩
  refine List.forall_mem_cons.mpr ⟨ok_ifeq C (show decode cX11_line 48 = .ok (.ifCond .eq 54, 3) from dk_at dq34_9 (i := 9) rfl) (tg := 102) (by decide) rfl rfl, ?_⟩
  refine List.forall_mem_cons.mpr ⟨ok_aload_n C (show decode cX11_line 51 = .ok (.aload_n 0, 1) from dk_at dq34_9 (i := 10) rfl) rfl rfl, ?_⟩
  refine List.forall_mem_cons.mpr ⟨ok_getf C (wi_X11) rfl (by decide) kw_1187 (show decode cX11_line 52 = .ok (.getfield 37, 3) from dk_at dq34_9 (i := 11) rfl) rfl, ?_⟩
  refine List.forall_mem_cons.mpr ⟨ok_iconst C (show decode cX11_line 55 = .ok (.iconst 0, 1) from dk_at dq34_9 (i := 12) rfl) (by decide) rfl, ?_⟩
  refine List.forall_mem_cons.mpr ⟨ok_iaload C (show decode cX11_line 56 = .ok (.iaload, 1) from dk_at dq34_9 (i := 13) rfl) rfl, ?_⟩
  refine List.forall_mem_cons.mpr ⟨ok_bipush C (show decode cX11_line 57 = .ok (.bipush 6, 2) from dk_at dq34_9 (i := 14) rfl) (by decide) rfl, ?_⟩
  refine List.forall_mem_cons.mpr ⟨ok_icmpne C (show decode cX11_line 59 = .ok (.if_icmp .ne 9, 3) from dk_at dq34_9 (i := 15) rfl) (tg := 68) (by decide) rfl rfl, ?_⟩
  refine List.forall_mem_cons.mpr ⟨ok_aload_n C (show decode cX11_line 62 = .ok (.aload_n 0, 1) from dk_at dq34_10 (i := 0) rfl) rfl rfl, ?_⟩
  refine List.forall_mem_cons.mpr ⟨ok_iconst C (show decode cX11_line 63 = .ok (.iconst 4, 1) from dk_at dq34_10 (i := 1) rfl) (by decide) rfl, ?_⟩
  refine List.forall_mem_cons.mpr ⟨ok_callV C h_X11_bad ⟨rfl, rfl⟩ rfl kw_1344 kw_1341 kw_1343 kp_53 kw_11 rfl ds_X11_bad ⟨by decide, by decide⟩ (show decode cX11_line 64 = .ok (.invokevirtual 173, 3) from dk_at dq34_10 (i := 2) rfl) rfl, ?_⟩
  refine List.forall_mem_cons.mpr ⟨ok_zret C rfl (show decode cX11_line 67 = .ok (.ireturn, 1) from dk_at dq34_10 (i := 3) rfl), ?_⟩
  refine List.forall_mem_cons.mpr ⟨ok_aload_n C (show decode cX11_line 68 = .ok (.aload_n 0, 1) from dk_at dq34_10 (i := 4) rfl) rfl rfl, ?_⟩
  refine List.forall_mem_cons.mpr ⟨ok_callV C h_X11_next ⟨rfl, rfl⟩ rfl kw_1322 kw_1319 kw_1321 kp_49 kw_11 rfl ds_X11_next ⟨by decide, by decide⟩ (show decode cX11_line 69 = .ok (.invokevirtual 176, 3) from dk_at dq34_10 (i := 5) rfl) rfl, ?_⟩
  refine List.forall_mem_cons.mpr ⟨ok_aload_n C (show decode cX11_line 72 = .ok (.aload_n 0, 1) from dk_at dq34_10 (i := 6) rfl) rfl rfl, ?_⟩
  refine List.forall_mem_cons.mpr ⟨ok_bipush C (show decode cX11_line 73 = .ok (.bipush 14, 2) from dk_at dq34_10 (i := 7) rfl) (by decide) rfl, ?_⟩
  refine List.forall_mem_cons.mpr ⟨ok_aload_n C (show decode cX11_line 75 = .ok (.aload_n 0, 1) from dk_at dq34_10 (i := 8) rfl) rfl rfl, ?_⟩
  refine List.forall_mem_cons.mpr ⟨ok_getf C (wi_X11) rfl (by decide) kw_1187 (show decode cX11_line 76 = .ok (.getfield 37, 3) from dk_at dq34_10 (i := 9) rfl) rfl, ?_⟩
  refine List.forall_mem_cons.mpr ⟨ok_iconst C (show decode cX11_line 79 = .ok (.iconst 0, 1) from dk_at dq34_10 (i := 10) rfl) (by decide) rfl, ?_⟩
  refine List.forall_mem_cons.mpr ⟨ok_iaload C (show decode cX11_line 80 = .ok (.iaload, 1) from dk_at dq34_10 (i := 11) rfl) rfl, ?_⟩
  refine List.forall_mem_cons.mpr ⟨ok_iadd C (show decode cX11_line 81 = .ok (.iadd, 1) from dk_at dq34_10 (i := 12) rfl) rfl, ?_⟩
  refine List.forall_mem_cons.mpr ⟨ok_callV C h_X11_fresh ⟨rfl, rfl⟩ rfl kw_1359 kw_1356 kw_1358 kp_56 kw_11 rfl ds_X11_fresh ⟨by decide, by decide⟩ (show decode cX11_line 82 = .ok (.invokevirtual 212, 3) from dk_at dq34_10 (i := 13) rfl) rfl, ?_⟩
  refine List.forall_mem_cons.mpr ⟨ok_ifne C (show decode cX11_line 85 = .ok (.ifCond .ne 5, 3) from dk_at dq34_10 (i := 14) rfl) (tg := 90) (by decide) rfl rfl, ?_⟩
  refine List.forall_mem_cons.mpr ⟨ok_iconst C (show decode cX11_line 88 = .ok (.iconst 0, 1) from dk_at dq34_10 (i := 15) rfl) (by decide) rfl, ?_⟩
  refine List.forall_mem_cons.mpr ⟨ok_zret C rfl (show decode cX11_line 89 = .ok (.ireturn, 1) from dk_at dq34_11 (i := 0) rfl), ?_⟩
  refine List.forall_mem_cons.mpr ⟨ok_aload_n C (show decode cX11_line 90 = .ok (.aload_n 0, 1) from dk_at dq34_11 (i := 1) rfl) rfl rfl, ?_⟩
  refine List.forall_mem_cons.mpr ⟨ok_getf C (wi_X11) rfl (by decide) kw_1187 (show decode cX11_line 91 = .ok (.getfield 37, 3) from dk_at dq34_11 (i := 2) rfl) rfl, ?_⟩
  refine List.forall_mem_cons.mpr ⟨ok_iconst C (show decode cX11_line 94 = .ok (.iconst 0, 1) from dk_at dq34_11 (i := 3) rfl) (by decide) rfl, ?_⟩
  refine List.forall_mem_cons.mpr ⟨ok_dup2 C (show decode cX11_line 95 = .ok (.dup2, 1) from dk_at dq34_11 (i := 4) rfl) rfl, ?_⟩
  refine List.forall_mem_cons.mpr ⟨ok_iaload C (show decode cX11_line 96 = .ok (.iaload, 1) from dk_at dq34_11 (i := 5) rfl) rfl, ?_⟩
  refine List.forall_mem_cons.mpr ⟨ok_iconst C (show decode cX11_line 97 = .ok (.iconst 1, 1) from dk_at dq34_11 (i := 6) rfl) (by decide) rfl, ?_⟩
  refine List.forall_mem_cons.mpr ⟨ok_iadd C (show decode cX11_line 98 = .ok (.iadd, 1) from dk_at dq34_11 (i := 7) rfl) rfl, ?_⟩
  refine List.forall_mem_cons.mpr ⟨ok_iastore C (show decode cX11_line 99 = .ok (.iastore, 1) from dk_at dq34_11 (i := 8) rfl) rfl, ?_⟩
  refine List.forall_mem_cons.mpr ⟨ok_iconst C (show decode cX11_line 100 = .ok (.iconst 1, 1) from dk_at dq34_11 (i := 9) rfl) (by decide) rfl, ?_⟩
  refine List.forall_mem_cons.mpr ⟨ok_zret C rfl (show decode cX11_line 101 = .ok (.ireturn, 1) from dk_at dq34_11 (i := 10) rfl), ?_⟩
  refine List.forall_mem_cons.mpr ⟨ok_aload_n C (show decode cX11_line 102 = .ok (.aload_n 0, 1) from dk_at dq34_11 (i := 11) rfl) rfl rfl, ?_⟩
  refine List.forall_mem_cons.mpr ⟨ok_ldc2 C (show decode cX11_line 103 = .ok (.ldc2_w 99, 3) from dk_at dq34_11 (i := 12) rfl) (gm kw_1161) rfl, ?_⟩
  refine List.forall_mem_cons.mpr ⟨ok_callV C h_X11_isWord ⟨rfl, rfl⟩ rfl kw_1340 kw_1337 kw_1339 kp_52 kw_11 rfl ds_X11_isWord ⟨by decide, by decide⟩ (show decode cX11_line 106 = .ok (.invokevirtual 201, 3) from dk_at dq34_11 (i := 13) rfl) rfl, ?_⟩
  refine List.forall_mem_cons.mpr ⟨ok_ifeq C (show decode cX11_line 109 = .ok (.ifCond .eq 64, 3) from dk_at dq34_11 (i := 14) rfl) (tg := 173) (by decide) rfl rfl, ?_⟩
  refine List.forall_mem_cons.mpr ⟨ok_aload_n C (show decode cX11_line 112 = .ok (.aload_n 0, 1) from dk_at dq34_11 (i := 15) rfl) rfl rfl, ?_⟩
  refine List.forall_mem_cons.mpr ⟨ok_getf C (wi_X11) rfl (by decide) kw_1187 (show decode cX11_line 113 = .ok (.getfield 37, 3) from dk_at dq34_12 (i := 0) rfl) rfl, ?_⟩
  refine List.forall_mem_cons.mpr ⟨ok_iconst C (show decode cX11_line 116 = .ok (.iconst 1, 1) from dk_at dq34_12 (i := 1) rfl) (by decide) rfl, ?_⟩
  refine List.forall_mem_cons.mpr ⟨ok_iaload C (show decode cX11_line 117 = .ok (.iaload, 1) from dk_at dq34_12 (i := 2) rfl) rfl, ?_⟩
  refine List.forall_mem_cons.mpr ⟨ok_istore_n C (show decode cX11_line 118 = .ok (.istore_n 1, 1) from dk_at dq34_12 (i := 3) rfl) rfl (by decide) rfl, ?_⟩
  refine List.forall_mem_cons.mpr ⟨ok_iload_n C (show decode cX11_line 119 = .ok (.iload_n 1, 1) from dk_at dq34_12 (i := 4) rfl) rfl rfl, ?_⟩
  refine List.forall_mem_cons.mpr ⟨ok_bipush C (show decode cX11_line 120 = .ok (.bipush 8, 2) from dk_at dq34_12 (i := 5) rfl) (by decide) rfl, ?_⟩
  refine List.forall_mem_cons.mpr ⟨ok_icmpne C (show decode cX11_line 122 = .ok (.if_icmp .ne 9, 3) from dk_at dq34_12 (i := 6) rfl) (tg := 131) (by decide) rfl rfl, ?_⟩
  refine List.forall_mem_cons.mpr ⟨ok_aload_n C (show decode cX11_line 125 = .ok (.aload_n 0, 1) from dk_at dq34_12 (i := 7) rfl) rfl rfl, ?_⟩
  refine List.forall_mem_cons.mpr ⟨ok_iconst C (show decode cX11_line 126 = .ok (.iconst 4, 1) from dk_at dq34_12 (i := 8) rfl) (by decide) rfl, ?_⟩
  refine List.forall_mem_cons.mpr ⟨ok_callV C h_X11_bad ⟨rfl, rfl⟩ rfl kw_1344 kw_1341 kw_1343 kp_53 kw_11 rfl ds_X11_bad ⟨by decide, by decide⟩ (show decode cX11_line 127 = .ok (.invokevirtual 173, 3) from dk_at dq34_12 (i := 9) rfl) rfl, ?_⟩
  refine List.forall_mem_cons.mpr ⟨ok_zret C rfl (show decode cX11_line 130 = .ok (.ireturn, 1) from dk_at dq34_12 (i := 10) rfl), ?_⟩
  refine List.forall_mem_cons.mpr ⟨ok_aload_n C (show decode cX11_line 131 = .ok (.aload_n 0, 1) from dk_at dq34_12 (i := 11) rfl) rfl rfl, ?_⟩
  refine List.forall_mem_cons.mpr ⟨ok_callV C h_X11_next ⟨rfl, rfl⟩ rfl kw_1322 kw_1319 kw_1321 kp_49 kw_11 rfl ds_X11_next ⟨by decide, by decide⟩ (show decode cX11_line 132 = .ok (.invokevirtual 176, 3) from dk_at dq34_12 (i := 12) rfl) rfl, ?_⟩
  refine List.forall_mem_cons.mpr ⟨ok_aload_n C (show decode cX11_line 135 = .ok (.aload_n 0, 1) from dk_at dq34_12 (i := 13) rfl) rfl rfl, ?_⟩
  refine List.forall_mem_cons.mpr ⟨ok_bipush C (show decode cX11_line 136 = .ok (.bipush 20, 2) from dk_at dq34_12 (i := 14) rfl) (by decide) rfl, ?_⟩
  refine List.forall_mem_cons.mpr ⟨ok_iload_n C (show decode cX11_line 138 = .ok (.iload_n 1, 1) from dk_at dq34_12 (i := 15) rfl) rfl rfl, ?_⟩
  refine List.forall_mem_cons.mpr ⟨ok_iadd C (show decode cX11_line 139 = .ok (.iadd, 1) from dk_at dq34_13 (i := 0) rfl) rfl, ?_⟩
  refine List.forall_mem_cons.mpr ⟨ok_callV C h_X11_fresh ⟨rfl, rfl⟩ rfl kw_1359 kw_1356 kw_1358 kp_56 kw_11 rfl ds_X11_fresh ⟨by decide, by decide⟩ (show decode cX11_line 140 = .ok (.invokevirtual 212, 3) from dk_at dq34_13 (i := 1) rfl) rfl, ?_⟩
  refine List.forall_mem_cons.mpr ⟨ok_ifeq C (show decode cX11_line 143 = .ok (.ifCond .eq 16, 3) from dk_at dq34_13 (i := 2) rfl) (tg := 159) (by decide) rfl rfl, ?_⟩
  refine List.forall_mem_cons.mpr ⟨ok_aload_n C (show decode cX11_line 146 = .ok (.aload_n 0, 1) from dk_at dq34_13 (i := 3) rfl) rfl rfl, ?_⟩
  refine List.forall_mem_cons.mpr ⟨ok_bipush C (show decode cX11_line 147 = .ok (.bipush 52, 2) from dk_at dq34_13 (i := 4) rfl) (by decide) rfl, ?_⟩
  refine List.forall_mem_cons.mpr ⟨ok_iload_n C (show decode cX11_line 149 = .ok (.iload_n 1, 1) from dk_at dq34_13 (i := 5) rfl) rfl rfl, ?_⟩
  refine List.forall_mem_cons.mpr ⟨ok_iadd C (show decode cX11_line 150 = .ok (.iadd, 1) from dk_at dq34_13 (i := 6) rfl) rfl, ?_⟩
  refine List.forall_mem_cons.mpr ⟨ok_iconst C (show decode cX11_line 151 = .ok (.iconst 0, 1) from dk_at dq34_13 (i := 7) rfl) (by decide) rfl, ?_⟩
  refine List.forall_mem_cons.mpr ⟨ok_iconst C (show decode cX11_line 152 = .ok (.iconst 1, 1) from dk_at dq34_13 (i := 8) rfl) (by decide) rfl, ?_⟩
  refine List.forall_mem_cons.mpr ⟨ok_callV C h_X11_puts ⟨rfl, rfl⟩ rfl kw_1348 kw_1345 kw_1347 kp_54 kw_11 rfl ds_X11_puts ⟨by decide, by decide⟩ (show decode cX11_line 153 = .ok (.invokevirtual 209, 3) from dk_at dq34_13 (i := 9) rfl) rfl, ?_⟩
  refine List.forall_mem_cons.mpr ⟨ok_ifne C (show decode cX11_line 156 = .ok (.ifCond .ne 5, 3) from dk_at dq34_13 (i := 10) rfl) (tg := 161) (by decide) rfl rfl, ?_⟩
  refine List.forall_mem_cons.mpr ⟨ok_iconst C (show decode cX11_line 159 = .ok (.iconst 0, 1) from dk_at dq34_13 (i := 11) rfl) (by decide) rfl, ?_⟩
  refine List.forall_mem_cons.mpr ⟨ok_zret C rfl (show decode cX11_line 160 = .ok (.ireturn, 1) from dk_at dq34_13 (i := 12) rfl), ?_⟩
  refine List.forall_mem_cons.mpr ⟨ok_aload_n C (show decode cX11_line 161 = .ok (.aload_n 0, 1) from dk_at dq34_13 (i := 13) rfl) rfl rfl, ?_⟩
  refine List.forall_mem_cons.mpr ⟨ok_getf C (wi_X11) rfl (by decide) kw_1187 (show decode cX11_line 162 = .ok (.getfield 37, 3) from dk_at dq34_13 (i := 14) rfl) rfl, ?_⟩
  refine List.forall_mem_cons.mpr ⟨ok_iconst C (show decode cX11_line 165 = .ok (.iconst 1, 1) from dk_at dq34_13 (i := 15) rfl) (by decide) rfl, ?_⟩
  refine List.forall_mem_cons.mpr ⟨ok_dup2 C (show decode cX11_line 166 = .ok (.dup2, 1) from dk_at dq34_14 (i := 0) rfl) rfl, ?_⟩
  refine List.forall_mem_cons.mpr ⟨ok_iaload C (show decode cX11_line 167 = .ok (.iaload, 1) from dk_at dq34_14 (i := 1) rfl) rfl, ?_⟩
  refine List.forall_mem_cons.mpr ⟨ok_iconst C (show decode cX11_line 168 = .ok (.iconst 1, 1) from dk_at dq34_14 (i := 2) rfl) (by decide) rfl, ?_⟩
  refine List.forall_mem_cons.mpr ⟨ok_iadd C (show decode cX11_line 169 = .ok (.iadd, 1) from dk_at dq34_14 (i := 3) rfl) rfl, ?_⟩
  refine List.forall_mem_cons.mpr ⟨ok_iastore C (show decode cX11_line 170 = .ok (.iastore, 1) from dk_at dq34_14 (i := 4) rfl) rfl, ?_⟩
  refine List.forall_mem_cons.mpr ⟨ok_iconst C (show decode cX11_line 171 = .ok (.iconst 1, 1) from dk_at dq34_14 (i := 5) rfl) (by decide) rfl, ?_⟩
  refine List.forall_mem_cons.mpr ⟨ok_zret C rfl (show decode cX11_line 172 = .ok (.ireturn, 1) from dk_at dq34_14 (i := 6) rfl), ?_⟩
  refine List.forall_mem_cons.mpr ⟨ok_aload_n C (show decode cX11_line 173 = .ok (.aload_n 0, 1) from dk_at dq34_14 (i := 7) rfl) rfl rfl, ?_⟩
  refine List.forall_mem_cons.mpr ⟨ok_ldc2 C (show decode cX11_line 174 = .ok (.ldc2_w 101, 3) from dk_at dq34_14 (i := 8) rfl) (gm kw_1162) rfl, ?_⟩
  refine List.forall_mem_cons.mpr ⟨ok_callV C h_X11_isWord ⟨rfl, rfl⟩ rfl kw_1340 kw_1337 kw_1339 kp_52 kw_11 rfl ds_X11_isWord ⟨by decide, by decide⟩ (show decode cX11_line 177 = .ok (.invokevirtual 201, 3) from dk_at dq34_14 (i := 9) rfl) rfl, ?_⟩
  refine List.forall_mem_cons.mpr ⟨ok_ifeq C (show decode cX11_line 180 = .ok (.ifCond .eq 8, 3) from dk_at dq34_14 (i := 10) rfl) (tg := 188) (by decide) rfl rfl, ?_⟩
  refine List.forall_mem_cons.mpr ⟨ok_aload_n C (show decode cX11_line 183 = .ok (.aload_n 0, 1) from dk_at dq34_14 (i := 11) rfl) rfl rfl, ?_⟩
  refine List.forall_mem_cons.mpr ⟨ok_callV C h_X11_readMisses ⟨rfl, rfl⟩ rfl kw_1371 kw_1368 kw_1370 kp_59 kw_11 rfl ds_X11_readMisses ⟨by decide, by decide⟩ (show decode cX11_line 184 = .ok (.invokevirtual 215, 3) from dk_at dq34_14 (i := 12) rfl) rfl, ?_⟩
  refine List.forall_mem_cons.mpr ⟨ok_zret C rfl (show decode cX11_line 187 = .ok (.ireturn, 1) from dk_at dq34_14 (i := 13) rfl), ?_⟩
  refine List.forall_mem_cons.mpr ⟨ok_aload_n C (show decode cX11_line 188 = .ok (.aload_n 0, 1) from dk_at dq34_14 (i := 14) rfl) rfl rfl, ?_⟩
  refine List.forall_mem_cons.mpr ⟨ok_ldc2 C (show decode cX11_line 189 = .ok (.ldc2_w 91, 3) from dk_at dq34_14 (i := 15) rfl) (gm kw_1157) rfl, ?_⟩
  refine List.forall_mem_cons.mpr ⟨ok_callV C h_X11_isWord ⟨rfl, rfl⟩ rfl kw_1340 kw_1337 kw_1339 kp_52 kw_11 rfl ds_X11_isWord ⟨by decide, by decide⟩ (show decode cX11_line 192 = .ok (.invokevirtual 201, 3) from dk_at dq34_15 (i := 0) rfl) rfl, ?_⟩
  refine List.forall_mem_cons.mpr ⟨ok_ifeq C (show decode cX11_line 195 = .ok (.ifCond .eq 7, 3) from dk_at dq34_15 (i := 1) rfl) (tg := 202) (by decide) rfl rfl, ?_⟩
  refine List.forall_mem_cons.mpr ⟨ok_iconst C (show decode cX11_line 198 = .ok (.iconst 0, 1) from dk_at dq34_15 (i := 2) rfl) (by decide) rfl, ?_⟩
  refine List.forall_mem_cons.mpr ⟨ok_goto C (show decode cX11_line 199 = .ok (.goto 46, 3) from dk_at dq34_15 (i := 3) rfl) (tg := 245) (by decide) rfl, ?_⟩
  refine List.forall_mem_cons.mpr ⟨ok_aload_n C (show decode cX11_line 202 = .ok (.aload_n 0, 1) from dk_at dq34_15 (i := 4) rfl) rfl rfl, ?_⟩
  refine List.forall_mem_cons.mpr ⟨ok_ldc2 C (show decode cX11_line 203 = .ok (.ldc2_w 93, 3) from dk_at dq34_15 (i := 5) rfl) (gm kw_1158) rfl, ?_⟩
  refine List.forall_mem_cons.mpr ⟨ok_callV C h_X11_isWord ⟨rfl, rfl⟩ rfl kw_1340 kw_1337 kw_1339 kp_52 kw_11 rfl ds_X11_isWord ⟨by decide, by decide⟩ (show decode cX11_line 206 = .ok (.invokevirtual 201, 3) from dk_at dq34_15 (i := 6) rfl) rfl, ?_⟩
  refine List.forall_mem_cons.mpr ⟨ok_ifeq C (show decode cX11_line 209 = .ok (.ifCond .eq 7, 3) from dk_at dq34_15 (i := 7) rfl) (tg := 216) (by decide) rfl rfl, ?_⟩
  refine List.forall_mem_cons.mpr ⟨ok_iconst C (show decode cX11_line 212 = .ok (.iconst 1, 1) from dk_at dq34_15 (i := 8) rfl) (by decide) rfl, ?_⟩
  refine List.forall_mem_cons.mpr ⟨ok_goto C (show decode cX11_line 213 = .ok (.goto 32, 3) from dk_at dq34_15 (i := 9) rfl) (tg := 245) (by decide) rfl, ?_⟩
  refine List.forall_mem_cons.mpr ⟨ok_aload_n C (show decode cX11_line 216 = .ok (.aload_n 0, 1) from dk_at dq34_15 (i := 10) rfl) rfl rfl, ?_⟩
  refine List.forall_mem_cons.mpr ⟨ok_ldc2 C (show decode cX11_line 217 = .ok (.ldc2_w 95, 3) from dk_at dq34_15 (i := 11) rfl) (gm kw_1159) rfl, ?_⟩
  refine List.forall_mem_cons.mpr ⟨ok_callV C h_X11_isWord ⟨rfl, rfl⟩ rfl kw_1340 kw_1337 kw_1339 kp_52 kw_11 rfl ds_X11_isWord ⟨by decide, by decide⟩ (show decode cX11_line 220 = .ok (.invokevirtual 201, 3) from dk_at dq34_15 (i := 12) rfl) rfl, ?_⟩
  refine List.forall_mem_cons.mpr ⟨ok_ifeq C (show decode cX11_line 223 = .ok (.ifCond .eq 7, 3) from dk_at dq34_15 (i := 13) rfl) (tg := 230) (by decide) rfl rfl, ?_⟩
  refine List.forall_mem_cons.mpr ⟨ok_iconst C (show decode cX11_line 226 = .ok (.iconst 2, 1) from dk_at dq34_15 (i := 14) rfl) (by decide) rfl, ?_⟩
  refine List.forall_mem_cons.mpr ⟨ok_goto C (show decode cX11_line 227 = .ok (.goto 18, 3) from dk_at dq34_15 (i := 15) rfl) (tg := 245) (by decide) rfl, ?_⟩
  refine List.forall_mem_cons.mpr ⟨ok_aload_n C (show decode cX11_line 230 = .ok (.aload_n 0, 1) from dk_at dq34_16 (i := 0) rfl) rfl rfl, ?_⟩
  refine List.forall_mem_cons.mpr ⟨ok_ldc2 C (show decode cX11_line 231 = .ok (.ldc2_w 97, 3) from dk_at dq34_16 (i := 1) rfl) (gm kw_1160) rfl, ?_⟩
  refine List.forall_mem_cons.mpr ⟨ok_callV C h_X11_isWord ⟨rfl, rfl⟩ rfl kw_1340 kw_1337 kw_1339 kp_52 kw_11 rfl ds_X11_isWord ⟨by decide, by decide⟩ (show decode cX11_line 234 = .ok (.invokevirtual 201, 3) from dk_at dq34_16 (i := 2) rfl) rfl, ?_⟩
  refine List.forall_mem_cons.mpr ⟨ok_ifeq C (show decode cX11_line 237 = .ok (.ifCond .eq 7, 3) from dk_at dq34_16 (i := 3) rfl) (tg := 244) (by decide) rfl rfl, ?_⟩
  refine List.forall_mem_cons.mpr ⟨ok_iconst C (show decode cX11_line 240 = .ok (.iconst 3, 1) from dk_at dq34_16 (i := 4) rfl) (by decide) rfl, ?_⟩
  refine List.forall_mem_cons.mpr ⟨ok_goto C (show decode cX11_line 241 = .ok (.goto 4, 3) from dk_at dq34_16 (i := 5) rfl) (tg := 245) (by decide) rfl, ?_⟩
  refine List.forall_mem_cons.mpr ⟨ok_iconst C (show decode cX11_line 244 = .ok (.iconst (-1), 1) from dk_at dq34_16 (i := 6) rfl) (by decide) rfl, ?_⟩
  refine List.forall_mem_cons.mpr ⟨ok_istore_n C (show decode cX11_line 245 = .ok (.istore_n 1, 1) from dk_at dq34_16 (i := 7) rfl) rfl (by decide) rfl, ?_⟩
  refine List.forall_mem_cons.mpr ⟨ok_iload_n C (show decode cX11_line 246 = .ok (.iload_n 1, 1) from dk_at dq34_16 (i := 8) rfl) rfl rfl, ?_⟩
  refine List.forall_mem_cons.mpr ⟨ok_ifge C (show decode cX11_line 247 = .ok (.ifCond .ge 9, 3) from dk_at dq34_16 (i := 9) rfl) (tg := 256) (by decide) rfl rfl, ?_⟩
  refine List.forall_mem_cons.mpr ⟨ok_aload_n C (show decode cX11_line 250 = .ok (.aload_n 0, 1) from dk_at dq34_16 (i := 10) rfl) rfl rfl, ?_⟩
  refine List.forall_mem_cons.mpr ⟨ok_iconst C (show decode cX11_line 251 = .ok (.iconst 1, 1) from dk_at dq34_16 (i := 11) rfl) (by decide) rfl, ?_⟩
  refine List.forall_mem_cons.mpr ⟨ok_callV C h_X11_bad ⟨rfl, rfl⟩ rfl kw_1344 kw_1341 kw_1343 kp_53 kw_11 rfl ds_X11_bad ⟨by decide, by decide⟩ (show decode cX11_line 252 = .ok (.invokevirtual 173, 3) from dk_at dq34_16 (i := 12) rfl) rfl, ?_⟩
  refine List.forall_mem_cons.mpr ⟨ok_zret C rfl (show decode cX11_line 255 = .ok (.ireturn, 1) from dk_at dq34_16 (i := 13) rfl), ?_⟩
  refine List.forall_mem_cons.mpr ⟨ok_aload_n C (show decode cX11_line 256 = .ok (.aload_n 0, 1) from dk_at dq34_16 (i := 14) rfl) rfl rfl, ?_⟩
  refine List.forall_mem_cons.mpr ⟨ok_callV C h_X11_next ⟨rfl, rfl⟩ rfl kw_1322 kw_1319 kw_1321 kp_49 kw_11 rfl ds_X11_next ⟨by decide, by decide⟩ (show decode cX11_line 257 = .ok (.invokevirtual 176, 3) from dk_at dq34_16 (i := 15) rfl) rfl, ?_⟩
  refine List.forall_mem_cons.mpr ⟨ok_aload_n C (show decode cX11_line 260 = .ok (.aload_n 0, 1) from dk_at dq34_17 (i := 0) rfl) rfl rfl, ?_⟩
  refine List.forall_mem_cons.mpr ⟨ok_bipush C (show decode cX11_line 261 = .ok (.bipush 14, 2) from dk_at dq34_17 (i := 1) rfl) (by decide) rfl, ?_⟩
  refine List.forall_mem_cons.mpr ⟨ok_aload_n C (show decode cX11_line 263 = .ok (.aload_n 0, 1) from dk_at dq34_17 (i := 2) rfl) rfl rfl, ?_⟩
  refine List.forall_mem_cons.mpr ⟨ok_getf C (wi_X11) rfl (by decide) kw_1187 (show decode cX11_line 264 = .ok (.getfield 37, 3) from dk_at dq34_17 (i := 3) rfl) rfl, ?_⟩
  refine List.forall_mem_cons.mpr ⟨ok_iconst C (show decode cX11_line 267 = .ok (.iconst 0, 1) from dk_at dq34_17 (i := 4) rfl) (by decide) rfl, ?_⟩
  refine List.forall_mem_cons.mpr ⟨ok_iaload C (show decode cX11_line 268 = .ok (.iaload, 1) from dk_at dq34_17 (i := 5) rfl) rfl, ?_⟩
  refine List.forall_mem_cons.mpr ⟨ok_callV C h_X11_takesName ⟨rfl, rfl⟩ rfl kw_1375 kw_1372 kw_1374 kp_60 kw_11 rfl ds_X11_takesName ⟨by decide, by decide⟩ (show decode cX11_line 269 = .ok (.invokevirtual 218, 3) from dk_at dq34_17 (i := 6) rfl) rfl, ?_⟩
  refine List.forall_mem_cons.mpr ⟨ok_ifne C (show decode cX11_line 272 = .ok (.ifCond .ne 5, 3) from dk_at dq34_17 (i := 7) rfl) (tg := 277) (by decide) rfl rfl, ?_⟩
  refine List.forall_mem_cons.mpr ⟨ok_iconst C (show decode cX11_line 275 = .ok (.iconst 0, 1) from dk_at dq34_17 (i := 8) rfl) (by decide) rfl, ?_⟩
  refine List.forall_mem_cons.mpr ⟨ok_zret C rfl (show decode cX11_line 276 = .ok (.ireturn, 1) from dk_at dq34_17 (i := 9) rfl), ?_⟩
  refine List.forall_mem_cons.mpr ⟨ok_aload_n C (show decode cX11_line 277 = .ok (.aload_n 0, 1) from dk_at dq34_17 (i := 10) rfl) rfl rfl, ?_⟩
  refine List.forall_mem_cons.mpr ⟨ok_getf C (wi_X11) rfl (by decide) kw_1198 (show decode cX11_line 278 = .ok (.getfield 183, 3) from dk_at dq34_17 (i := 11) rfl) rfl, ?_⟩
  refine List.forall_mem_cons.mpr ⟨ok_istore_n C (show decode cX11_line 281 = .ok (.istore_n 2, 1) from dk_at dq34_17 (i := 12) rfl) rfl (by decide) rfl, ?_⟩
  refine List.forall_mem_cons.mpr ⟨ok_aload_n C (show decode cX11_line 282 = .ok (.aload_n 0, 1) from dk_at dq34_17 (i := 13) rfl) rfl rfl, ?_⟩
  refine List.forall_mem_cons.mpr ⟨ok_getf C (wi_X11) rfl (by decide) kw_1191 (show decode cX11_line 283 = .ok (.getfield 147, 3) from dk_at dq34_17 (i := 14) rfl) rfl, ?_⟩
  refine List.forall_mem_cons.mpr ⟨ok_iconst C (show decode cX11_line 286 = .ok (.iconst 2, 1) from dk_at dq34_17 (i := 15) rfl) (by decide) rfl, ?_⟩
  refine List.forall_mem_cons.mpr ⟨ok_icmpeq C (show decode cX11_line 287 = .ok (.if_icmp .eq 9, 3) from dk_at dq34_18 (i := 0) rfl) (tg := 296) (by decide) rfl rfl, ?_⟩
  refine List.forall_mem_cons.mpr ⟨ok_aload_n C (show decode cX11_line 290 = .ok (.aload_n 0, 1) from dk_at dq34_18 (i := 1) rfl) rfl rfl, ?_⟩
  refine List.forall_mem_cons.mpr ⟨ok_iconst C (show decode cX11_line 291 = .ok (.iconst 1, 1) from dk_at dq34_18 (i := 2) rfl) (by decide) rfl, ?_⟩
  refine List.forall_mem_cons.mpr ⟨ok_callV C h_X11_bad ⟨rfl, rfl⟩ rfl kw_1344 kw_1341 kw_1343 kp_53 kw_11 rfl ds_X11_bad ⟨by decide, by decide⟩ (show decode cX11_line 292 = .ok (.invokevirtual 173, 3) from dk_at dq34_18 (i := 3) rfl) rfl, ?_⟩
  refine List.forall_mem_cons.mpr ⟨ok_zret C rfl (show decode cX11_line 295 = .ok (.ireturn, 1) from dk_at dq34_18 (i := 4) rfl), ?_⟩
  refine List.forall_mem_cons.mpr ⟨ok_aload_n C (show decode cX11_line 296 = .ok (.aload_n 0, 1) from dk_at dq34_18 (i := 5) rfl) rfl rfl, ?_⟩
  refine List.forall_mem_cons.mpr ⟨ok_getf C (wi_X11) rfl (by decide) kw_1194 (show decode cX11_line 297 = .ok (.getfield 157, 3) from dk_at dq34_18 (i := 6) rfl) rfl, ?_⟩
  refine List.forall_mem_cons.mpr ⟨ok_iconst C (show decode cX11_line 300 = .ok (.iconst 1, 1) from dk_at dq34_18 (i := 7) rfl) (by decide) rfl, ?_⟩
  refine List.forall_mem_cons.mpr ⟨ok_icmple C (show decode cX11_line 301 = .ok (.if_icmp .le 9, 3) from dk_at dq34_18 (i := 8) rfl) (tg := 310) (by decide) rfl rfl, ?_⟩
  refine List.forall_mem_cons.mpr ⟨ok_aload_n C (show decode cX11_line 304 = .ok (.aload_n 0, 1) from dk_at dq34_18 (i := 9) rfl) rfl rfl, ?_⟩
  refine List.forall_mem_cons.mpr ⟨ok_iconst C (show decode cX11_line 305 = .ok (.iconst 2, 1) from dk_at dq34_18 (i := 10) rfl) (by decide) rfl, ?_⟩
  refine List.forall_mem_cons.mpr ⟨ok_callV C h_X11_bad ⟨rfl, rfl⟩ rfl kw_1344 kw_1341 kw_1343 kp_53 kw_11 rfl ds_X11_bad ⟨by decide, by decide⟩ (show decode cX11_line 306 = .ok (.invokevirtual 173, 3) from dk_at dq34_18 (i := 11) rfl) rfl, ?_⟩
  refine List.forall_mem_cons.mpr ⟨ok_zret C rfl (show decode cX11_line 309 = .ok (.ireturn, 1) from dk_at dq34_18 (i := 12) rfl), ?_⟩
  refine List.forall_mem_cons.mpr ⟨ok_iconst C (show decode cX11_line 310 = .ok (.iconst 2, 1) from dk_at dq34_18 (i := 13) rfl) (by decide) rfl, ?_⟩
  refine List.forall_mem_cons.mpr ⟨ok_iload_n C (show decode cX11_line 311 = .ok (.iload_n 2, 1) from dk_at dq34_18 (i := 14) rfl) rfl rfl, ?_⟩
  refine List.forall_mem_cons.mpr ⟨ok_imul C (show decode cX11_line 312 = .ok (.imul, 1) from dk_at dq34_18 (i := 15) rfl) rfl, ?_⟩
  refine List.forall_mem_cons.mpr ⟨ok_aload_n C (show decode cX11_line 313 = .ok (.aload_n 0, 1) from dk_at dq34_19 (i := 0) rfl) rfl rfl, ?_⟩
  refine List.forall_mem_cons.mpr ⟨ok_getf C (wi_X11) rfl (by decide) kw_1194 (show decode cX11_line 314 = .ok (.getfield 157, 3) from dk_at dq34_19 (i := 1) rfl) rfl, ?_⟩
  refine List.forall_mem_cons.mpr ⟨ok_iadd C (show decode cX11_line 317 = .ok (.iadd, 1) from dk_at dq34_19 (i := 2) rfl) rfl, ?_⟩
  refine List.forall_mem_cons.mpr ⟨ok_istore_n C (show decode cX11_line 318 = .ok (.istore_n 3, 1) from dk_at dq34_19 (i := 3) rfl) rfl (by decide) rfl, ?_⟩
  refine List.forall_mem_cons.mpr ⟨ok_aload_n C (show decode cX11_line 319 = .ok (.aload_n 0, 1) from dk_at dq34_19 (i := 4) rfl) rfl rfl, ?_⟩
  refine List.forall_mem_cons.mpr ⟨ok_getf C (wi_X11) rfl (by decide) kw_1201 (show decode cX11_line 320 = .ok (.getfield 50, 3) from dk_at dq34_19 (i := 5) rfl) rfl, ?_⟩
  refine List.forall_mem_cons.mpr ⟨ok_iload_n C (show decode cX11_line 323 = .ok (.iload_n 1, 1) from dk_at dq34_19 (i := 6) rfl) rfl rfl, ?_⟩
  refine List.forall_mem_cons.mpr ⟨ok_iaload C (show decode cX11_line 324 = .ok (.iaload, 1) from dk_at dq34_19 (i := 7) rfl) rfl, ?_⟩
  refine List.forall_mem_cons.mpr ⟨ok_iload_n C (show decode cX11_line 325 = .ok (.iload_n 3, 1) from dk_at dq34_19 (i := 8) rfl) rfl rfl, ?_⟩
  refine List.forall_mem_cons.mpr ⟨ok_callS C h_X11_bitOf ⟨rfl, rfl⟩ kw_1382 kw_1380 kw_1381 kw_11 ds_X11_bitOf ⟨by decide, by decide⟩ (show decode cX11_line 326 = .ok (.invokestatic 221, 3) from dk_at dq34_19 (i := 9) rfl) rfl, ?_⟩
  refine List.forall_mem_cons.mpr ⟨ok_ifeq C (show decode cX11_line 329 = .ok (.ifCond .eq 9, 3) from dk_at dq34_19 (i := 10) rfl) (tg := 338) (by decide) rfl rfl, ?_⟩
  refine List.forall_mem_cons.mpr ⟨ok_aload_n C (show decode cX11_line 332 = .ok (.aload_n 0, 1) from dk_at dq34_19 (i := 11) rfl) rfl rfl, ?_⟩
  refine List.forall_mem_cons.mpr ⟨ok_iconst C (show decode cX11_line 333 = .ok (.iconst 3, 1) from dk_at dq34_19 (i := 12) rfl) (by decide) rfl, ?_⟩
  refine List.forall_mem_cons.mpr ⟨ok_callV C h_X11_bad ⟨rfl, rfl⟩ rfl kw_1344 kw_1341 kw_1343 kp_53 kw_11 rfl ds_X11_bad ⟨by decide, by decide⟩ (show decode cX11_line 334 = .ok (.invokevirtual 173, 3) from dk_at dq34_19 (i := 13) rfl) rfl, ?_⟩
  refine List.forall_mem_cons.mpr ⟨ok_zret C rfl (show decode cX11_line 337 = .ok (.ireturn, 1) from dk_at dq34_19 (i := 14) rfl), ?_⟩
  refine List.forall_mem_cons.mpr ⟨ok_aload_n C (show decode cX11_line 338 = .ok (.aload_n 0, 1) from dk_at dq34_19 (i := 15) rfl) rfl rfl, ?_⟩
  refine List.forall_mem_cons.mpr ⟨ok_getf C (wi_X11) rfl (by decide) kw_1201 (show decode cX11_line 339 = .ok (.getfield 50, 3) from dk_at dq34_20 (i := 0) rfl) rfl, ?_⟩
  refine List.forall_mem_cons.mpr ⟨ok_iload_n C (show decode cX11_line 342 = .ok (.iload_n 1, 1) from dk_at dq34_20 (i := 1) rfl) rfl rfl, ?_⟩
  refine List.forall_mem_cons.mpr ⟨ok_dup2 C (show decode cX11_line 343 = .ok (.dup2, 1) from dk_at dq34_20 (i := 2) rfl) rfl, ?_⟩
  refine List.forall_mem_cons.mpr ⟨ok_iaload C (show decode cX11_line 344 = .ok (.iaload, 1) from dk_at dq34_20 (i := 3) rfl) rfl, ?_⟩
  refine List.forall_mem_cons.mpr ⟨ok_iconst C (show decode cX11_line 345 = .ok (.iconst 1, 1) from dk_at dq34_20 (i := 4) rfl) (by decide) rfl, ?_⟩
  refine List.forall_mem_cons.mpr ⟨ok_iload_n C (show decode cX11_line 346 = .ok (.iload_n 3, 1) from dk_at dq34_20 (i := 5) rfl) rfl rfl, ?_⟩
  refine List.forall_mem_cons.mpr ⟨ok_ishl C (show decode cX11_line 347 = .ok (.ishl, 1) from dk_at dq34_20 (i := 6) rfl) rfl, ?_⟩
  refine List.forall_mem_cons.mpr ⟨ok_ior C (show decode cX11_line 348 = .ok (.ior, 1) from dk_at dq34_20 (i := 7) rfl) rfl, ?_⟩
  refine List.forall_mem_cons.mpr ⟨ok_iastore C (show decode cX11_line 349 = .ok (.iastore, 1) from dk_at dq34_20 (i := 8) rfl) rfl, ?_⟩
  refine List.forall_mem_cons.mpr ⟨ok_aload_n C (show decode cX11_line 350 = .ok (.aload_n 0, 1) from dk_at dq34_20 (i := 9) rfl) rfl rfl, ?_⟩
  refine List.forall_mem_cons.mpr ⟨ok_callV C h_X11_next ⟨rfl, rfl⟩ rfl kw_1322 kw_1319 kw_1321 kp_49 kw_11 rfl ds_X11_next ⟨by decide, by decide⟩ (show decode cX11_line 351 = .ok (.invokevirtual 176, 3) from dk_at dq34_20 (i := 10) rfl) rfl, ?_⟩
  refine List.forall_mem_cons.mpr ⟨ok_aload_n C (show decode cX11_line 354 = .ok (.aload_n 0, 1) from dk_at dq34_20 (i := 11) rfl) rfl rfl, ?_⟩
  refine List.forall_mem_cons.mpr ⟨ok_iconst C (show decode cX11_line 355 = .ok (.iconst 4, 1) from dk_at dq34_20 (i := 12) rfl) (by decide) rfl, ?_⟩
  refine List.forall_mem_cons.mpr ⟨ok_bipush C (show decode cX11_line 356 = .ok (.bipush 12, 2) from dk_at dq34_20 (i := 13) rfl) (by decide) rfl, ?_⟩
  refine List.forall_mem_cons.mpr ⟨ok_iload_n C (show decode cX11_line 358 = .ok (.iload_n 1, 1) from dk_at dq34_20 (i := 14) rfl) rfl rfl, ?_⟩
  refine List.forall_mem_cons.mpr ⟨ok_imul C (show decode cX11_line 359 = .ok (.imul, 1) from dk_at dq34_20 (i := 15) rfl) rfl, ?_⟩
  refine List.forall_mem_cons.mpr ⟨ok_iadd C (show decode cX11_line 360 = .ok (.iadd, 1) from dk_at dq34_21 (i := 0) rfl) rfl, ?_⟩
  refine List.forall_mem_cons.mpr ⟨ok_iload_n C (show decode cX11_line 361 = .ok (.iload_n 3, 1) from dk_at dq34_21 (i := 1) rfl) rfl rfl, ?_⟩
  refine List.forall_mem_cons.mpr ⟨ok_iadd C (show decode cX11_line 362 = .ok (.iadd, 1) from dk_at dq34_21 (i := 2) rfl) rfl, ?_⟩
  refine List.forall_mem_cons.mpr ⟨ok_iconst C (show decode cX11_line 363 = .ok (.iconst 0, 1) from dk_at dq34_21 (i := 3) rfl) (by decide) rfl, ?_⟩
  refine List.forall_mem_cons.mpr ⟨ok_iload_n C (show decode cX11_line 364 = .ok (.iload_n 1, 1) from dk_at dq34_21 (i := 4) rfl) rfl rfl, ?_⟩
  refine List.forall_mem_cons.mpr ⟨ok_iconst C (show decode cX11_line 365 = .ok (.iconst 2, 1) from dk_at dq34_21 (i := 5) rfl) (by decide) rfl, ?_⟩
  refine List.forall_mem_cons.mpr ⟨ok_icmpge C (show decode cX11_line 366 = .ok (.if_icmp .ge 9, 3) from dk_at dq34_21 (i := 6) rfl) (tg := 375) (by decide) rfl rfl, ?_⟩
  refine List.forall_mem_cons.mpr ⟨ok_sipush C (show decode cX11_line 369 = .ok (.sipush 250, 3) from dk_at dq34_21 (i := 7) rfl) (by decide) rfl, ?_⟩
  refine List.forall_mem_cons.mpr ⟨ok_goto C (show decode cX11_line 372 = .ok (.goto 5, 3) from dk_at dq34_21 (i := 8) rfl) (tg := 377) (by decide) rfl, ?_⟩
  refine List.forall_mem_cons.mpr ⟨ok_bipush C (show decode cX11_line 375 = .ok (.bipush 20, 2) from dk_at dq34_21 (i := 9) rfl) (by decide) rfl, ?_⟩
  refine List.forall_mem_cons.mpr ⟨ok_callV C h_X11_puts ⟨rfl, rfl⟩ rfl kw_1348 kw_1345 kw_1347 kp_54 kw_11 rfl ds_X11_puts ⟨by decide, by decide⟩ (show decode cX11_line 377 = .ok (.invokevirtual 209, 3) from dk_at dq34_21 (i := 10) rfl) rfl, ?_⟩
  refine List.forall_mem_cons.mpr ⟨ok_zret C rfl (show decode cX11_line 380 = .ok (.ireturn, 1) from dk_at dq34_21 (i := 11) rfl), ?_⟩
  exact fun _ h => absurd h List.not_mem_nil
end
-- 35.m15.lean.txt
section
def L_X11_strait (f_X11_taken : List Value → ab_H → Option ab_O) (f_X11_next : List Value → ab_H → Option ab_O) (f_X11_line : List Value → ab_H → Option ab_O) (f_X11_sign : List Value → ab_H → Option ab_O) : List (Nat × ab_A) := [
  (0, ab_nx 1 (ab_aload 0)),
  (1, ab_nx 2 (ab_lit (.int 0))),
  (2, ab_nx 5 (ab_putf 11 0 0)),
  (5, ab_nx 6 (ab_aload 0)),
  (6, ab_nx 9 (ab_lit (.int 900))),
  (9, ab_nx 12 (ab_callV 2 11 f_X11_taken 0 0 0 0)),
  (12, ab_nx 13 (ab_aload 0)),
  (13, ab_nx 14 (ab_lit (.int 0))),
  (14, ab_nx 17 (ab_putf 11 15 0)),
  (17, ab_nx 18 (ab_aload 0)),
  (18, ab_nx 19 (ab_lit (.int 0))),
  (19, ab_nx 22 (ab_putf 11 19 0)),
  (22, ab_nx 23 (ab_aload 0)),
  (23, ab_nx 24 (ab_lit (.int 0))),
  (24, ab_nx 27 (ab_putf 11 20 3)),
  (27, ab_nx 28 (ab_lit (.int 0))),
  (28, ab_nx 29 (ab_istore 1)),
  (29, ab_nx 30 (ab_iload 1)),
  (30, ab_nx 31 (ab_lit (.int 4))),
  (31, ab_icmp 34 47 (fun x y => decide (y ≤ x))),
  (34, ab_nx 35 (ab_aload 0)),
  (35, ab_nx 38 (ab_getf 11 21)),
  (38, ab_nx 39 (ab_iload 1)),
  (39, ab_nx 40 (ab_lit (.int 0))),
  (40, ab_nx 41 (ab_ast 1)),
  (41, ab_nx 44 (ab_iinc 1 1)),
  (44, ab_goto 29),
  (47, ab_nx 48 (ab_lit (.int 0))),
  (48, ab_nx 49 (ab_istore 1)),
  (49, ab_nx 50 (ab_iload 1)),
  (50, ab_nx 52 (ab_lit (.int 120))),
  (52, ab_icmp 55 68 (fun x y => decide (y ≤ x))),
  (55, ab_nx 56 (ab_aload 0)),
  (56, ab_nx 59 (ab_getf 11 7)),
  (59, ab_nx 60 (ab_iload 1)),
  (60, ab_nx 61 (ab_lit (.int 0))),
  (61, ab_nx 62 (ab_ast 1)),
  (62, ab_nx 65 (ab_iinc 1 1)),
  (65, ab_goto 49),
  (68, ab_nx 69 (ab_aload 0)),
  (69, ab_nx 72 (ab_getf 11 7)),
  (72, ab_nx 73 (ab_lit (.int 2))),
  (73, ab_nx 75 (ab_lit (.int 10))),
  (75, ab_nx 76 (ab_ast 1)),
  (76, ab_nx 77 (ab_aload 0)),
  (77, ab_nx 80 (ab_callV 1 11 f_X11_next 0 0 0 0)),
  (80, ab_nx 81 (ab_aload 0)),
  (81, ab_nx 84 (ab_getf 11 11)),
  (84, ab_if 87 123 (fun x => decide (x = 0))),
  (87, ab_nx 88 (ab_aload 0)),
  (88, ab_nx 91 (ab_callV 1 11 f_X11_line 0 0 0 0)),
  (91, ab_if 94 103 (fun x => decide (x = 0))),
  (94, ab_nx 95 (ab_aload 0)),
  (95, ab_nx 97 (ab_lit (.int 59))),
  (97, ab_nx 100 (ab_callV 2 11 f_X11_sign 0 0 0 0)),
  (100, ab_if 103 110 (fun x => !decide (x = 0))),
  (103, ab_nx 104 (ab_lit (.int (-1)))),
  (104, ab_nx 105 (ab_aload 0)),
  (105, ab_nx 108 (ab_getf 11 16)),
  (108, ab_nx 109 (ab_bin (fun x y => x - y))),
  (109, ab_ret 0 0),
  (110, ab_nx 111 (ab_aload 0)),
  (111, ab_nx 112 ab_dup),
  (112, ab_nx 115 (ab_getf 11 19)),
  (115, ab_nx 116 (ab_lit (.int 1))),
  (116, ab_nx 117 (ab_bin (fun x y => x + y))),
  (117, ab_nx 120 (ab_putf 11 19 0)),
  (120, ab_goto 80),
  (123, ab_nx 124 (ab_lit (.int 0))),
  (124, ab_nx 125 (ab_istore 1)),
  (125, ab_nx 126 (ab_iload 1)),
  (126, ab_nx 129 (ab_lit (.int 434))),
  (129, ab_icmp 132 160 (fun x y => decide (y ≤ x))),
  (132, ab_nx 133 (ab_aload 0)),
  (133, ab_nx 136 (ab_getf 11 6)),
  (136, ab_nx 137 (ab_iload 1)),
  (137, ab_nx 138 (ab_iload 1)),
  (138, ab_nx 140 (ab_lit (.int 120))),
  (140, ab_icmp 143 152 (fun x y => decide (y ≤ x))),
  (143, ab_nx 144 (ab_aload 0)),
  (144, ab_nx 147 (ab_getf 11 7)),
  (147, ab_nx 148 (ab_iload 1)),
  (148, ab_nx 149 (ab_ald 1)),
  (149, ab_goto 153),
  (152, ab_nx 153 (ab_lit (.int 0))),
  (153, ab_nx 154 (ab_ast 1)),
  (154, ab_nx 157 (ab_iinc 1 1)),
  (157, ab_goto 125),
  (160, ab_nx 161 (ab_lit (.int 0))),
  (161, ab_nx 162 (ab_istore 1)),
  (162, ab_nx 163 (ab_iload 1)),
  (163, ab_nx 165 (ab_lit (.int 14))),
  (165, ab_icmp 168 189 (fun x y => decide (y ≤ x))),
  (168, ab_nx 169 (ab_aload 0)),
  (169, ab_nx 172 (ab_getf 11 9)),
  (172, ab_nx 173 (ab_iload 1)),
  (173, ab_nx 174 (ab_aload 0)),
  (174, ab_nx 177 (ab_getf 11 9)),
  (177, ab_nx 179 (ab_lit (.int 14))),
  (179, ab_nx 180 (ab_iload 1)),
  (180, ab_nx 181 (ab_bin (fun x y => x + y))),
  (181, ab_nx 182 ab_lald),
  (182, ab_nx 183 ab_last),
  (183, ab_nx 186 (ab_iinc 1 1)),
  (186, ab_goto 162),
  (189, ab_nx 190 (ab_lit (.int 0))),
  (190, ab_nx 191 (ab_istore 1)),
  (191, ab_nx 192 (ab_iload 1)),
  (192, ab_nx 194 (ab_lit (.int 12))),
  (194, ab_icmp 197 220 (fun x y => decide (y ≤ x))),
  (197, ab_nx 198 (ab_aload 0)),
  (198, ab_nx 201 (ab_getf 11 6)),
  (201, ab_nx 203 (ab_lit (.int 124))),
  (203, ab_nx 204 (ab_iload 1)),
  (204, ab_nx 205 (ab_bin (fun x y => x + y))),
  (205, ab_nx 206 (ab_aload 0)),
  (206, ab_nx 209 (ab_getf 11 6)),
  (209, ab_nx 210 (ab_lit (.int 4))),
  (210, ab_nx 211 (ab_iload 1)),
  (211, ab_nx 212 (ab_bin (fun x y => x + y))),
  (212, ab_nx 213 (ab_ald 1)),
  (213, ab_nx 214 (ab_ast 1)),
  (214, ab_nx 217 (ab_iinc 1 1)),
  (217, ab_goto 191),
  (220, ab_nx 221 (ab_lit (.int 0))),
  (221, ab_nx 222 (ab_istore 1)),
  (222, ab_nx 223 (ab_iload 1)),
  (223, ab_nx 225 (ab_lit (.int 8))),
  (225, ab_icmp 228 253 (fun x y => decide (y ≤ x))),
  (228, ab_nx 229 (ab_aload 0)),
  (229, ab_nx 232 (ab_getf 11 6)),
  (232, ab_nx 235 (ab_lit (.int 172))),
  (235, ab_nx 236 (ab_iload 1)),
  (236, ab_nx 237 (ab_bin (fun x y => x + y))),
  (237, ab_nx 238 (ab_aload 0)),
  (238, ab_nx 241 (ab_getf 11 6)),
  (241, ab_nx 243 (ab_lit (.int 52))),
  (243, ab_nx 244 (ab_iload 1)),
  (244, ab_nx 245 (ab_bin (fun x y => x + y))),
  (245, ab_nx 246 (ab_ald 1)),
  (246, ab_nx 247 (ab_ast 1)),
  (247, ab_nx 250 (ab_iinc 1 1)),
  (250, ab_goto 222),
  (253, ab_nx 254 (ab_aload 0)),
  (254, ab_nx 255 (ab_lit (.int 0))),
  (255, ab_nx 258 (ab_putf 11 25 0)),
  (258, ab_nx 259 (ab_aload 0)),
  (259, ab_nx 262 (ab_getf 11 19)),
  (262, ab_ret 0 0)]
set_option maxRecDepth 100000 in
theorem dq35_0 : ([(0, .aload_n 0, 1), (1, .iconst 0, 1), (2, .putfield 1, 3), (5, .aload_n 0, 1), (6, .sipush 900, 3), (9, .invokevirtual 224, 3), (12, .aload_n 0, 1), (13, .iconst 0, 1), (14, .putfield 164, 3), (17, .aload_n 0, 1), (18, .iconst 0, 1), (19, .putfield 227, 3), (22, .aload_n 0, 1), (23, .iconst 0, 1), (24, .putfield 205, 3), (27, .iconst 0, 1)] : List (Nat × Instr × Nat)).all (fun q => decide (decode cX11_strait q.1 = .ok q.2)) = true := by decide +kernel
set_option maxRecDepth 100000 in
theorem dq35_1 : ([(28, .istore_n 1, 1), (29, .iload_n 1, 1), (30, .iconst 4, 1), (31, .if_icmp .ge 16, 3), (34, .aload_n 0, 1), (35, .getfield 50, 3), (38, .iload_n 1, 1), (39, .iconst 0, 1), (40, .iastore, 1), (41, .iinc 1 1, 3), (44, .goto (-15), 3), (47, .iconst 0, 1), (48, .istore_n 1, 1), (49, .iload_n 1, 1), (50, .bipush 120, 2), (52, .if_icmp .ge 16, 3)] : List (Nat × Instr × Nat)).all (fun q => decide (decode cX11_strait q.1 = .ok q.2)) = true := by decide +kernel
set_option maxRecDepth 100000 in
theorem dq35_2 : ([(55, .aload_n 0, 1), (56, .getfield 37, 3), (59, .iload_n 1, 1), (60, .iconst 0, 1), (61, .iastore, 1), (62, .iinc 1 1, 3), (65, .goto (-16), 3), (68, .aload_n 0, 1), (69, .getfield 37, 3), (72, .iconst 2, 1), (73, .bipush 10, 2), (75, .iastore, 1), (76, .aload_n 0, 1), (77, .invokevirtual 176, 3), (80, .aload_n 0, 1), (81, .getfield 147, 3)] : List (Nat × Instr × Nat)).all (fun q => decide (decode cX11_strait q.1 = .ok q.2)) = true := by decide +kernel
set_option maxRecDepth 100000 in
theorem dq35_3 : ([(84, .ifCond .eq 39, 3), (87, .aload_n 0, 1), (88, .invokevirtual 230, 3), (91, .ifCond .eq 12, 3), (94, .aload_n 0, 1), (95, .bipush 59, 2), (97, .invokevirtual 233, 3), (100, .ifCond .ne 10, 3), (103, .iconst (-1), 1), (104, .aload_n 0, 1), (105, .getfield 167, 3), (108, .isub, 1), (109, .ireturn, 1), (110, .aload_n 0, 1), (111, .dup, 1), (112, .getfield 227, 3)] : List (Nat × Instr × Nat)).all (fun q => decide (decode cX11_strait q.1 = .ok q.2)) = true := by decide +kernel
set_option maxRecDepth 100000 in
theorem dq35_4 : ([(115, .iconst 1, 1), (116, .iadd, 1), (117, .putfield 227, 3), (120, .goto (-40), 3), (123, .iconst 0, 1), (124, .istore_n 1, 1), (125, .iload_n 1, 1), (126, .sipush 434, 3), (129, .if_icmp .ge 31, 3), (132, .aload_n 0, 1), (133, .getfield 33, 3), (136, .iload_n 1, 1), (137, .iload_n 1, 1), (138, .bipush 120, 2), (140, .if_icmp .ge 12, 3), (143, .aload_n 0, 1)] : List (Nat × Instr × Nat)).all (fun q => decide (decode cX11_strait q.1 = .ok q.2)) = true := by decide +kernel
set_option maxRecDepth 100000 in
theorem dq35_5 : ([(144, .getfield 37, 3), (147, .iload_n 1, 1), (148, .iaload, 1), (149, .goto 4, 3), (152, .iconst 0, 1), (153, .iastore, 1), (154, .iinc 1 1, 3), (157, .goto (-32), 3), (160, .iconst 0, 1), (161, .istore_n 1, 1), (162, .iload_n 1, 1), (163, .bipush 14, 2), (165, .if_icmp .ge 24, 3), (168, .aload_n 0, 1), (169, .getfield 43, 3), (172, .iload_n 1, 1)] : List (Nat × Instr × Nat)).all (fun q => decide (decode cX11_strait q.1 = .ok q.2)) = true := by decide +kernel
set_option maxRecDepth 100000 in
theorem dq35_6 : ([(173, .aload_n 0, 1), (174, .getfield 43, 3), (177, .bipush 14, 2), (179, .iload_n 1, 1), (180, .iadd, 1), (181, .laload, 1), (182, .lastore, 1), (183, .iinc 1 1, 3), (186, .goto (-24), 3), (189, .iconst 0, 1), (190, .istore_n 1, 1), (191, .iload_n 1, 1), (192, .bipush 12, 2), (194, .if_icmp .ge 26, 3), (197, .aload_n 0, 1), (198, .getfield 33, 3)] : List (Nat × Instr × Nat)).all (fun q => decide (decode cX11_strait q.1 = .ok q.2)) = true := by decide +kernel
set_option maxRecDepth 100000 in
theorem dq35_7 : ([(201, .bipush 124, 2), (203, .iload_n 1, 1), (204, .iadd, 1), (205, .aload_n 0, 1), (206, .getfield 33, 3), (209, .iconst 4, 1), (210, .iload_n 1, 1), (211, .iadd, 1), (212, .iaload, 1), (213, .iastore, 1), (214, .iinc 1 1, 3), (217, .goto (-26), 3), (220, .iconst 0, 1), (221, .istore_n 1, 1), (222, .iload_n 1, 1), (223, .bipush 8, 2)] : List (Nat × Instr × Nat)).all (fun q => decide (decode cX11_strait q.1 = .ok q.2)) = true := by decide +kernel
set_option maxRecDepth 100000 in
theorem dq35_8 : ([(225, .if_icmp .ge 28, 3), (228, .aload_n 0, 1), (229, .getfield 33, 3), (232, .sipush 172, 3), (235, .iload_n 1, 1), (236, .iadd, 1), (237, .aload_n 0, 1), (238, .getfield 33, 3), (241, .bipush 52, 2), (243, .iload_n 1, 1), (244, .iadd, 1), (245, .iaload, 1), (246, .iastore, 1), (247, .iinc 1 1, 3), (250, .goto (-28), 3), (253, .aload_n 0, 1)] : List (Nat × Instr × Nat)).all (fun q => decide (decode cX11_strait q.1 = .ok q.2)) = true := by decide +kernel
set_option maxRecDepth 100000 in
theorem dq35_9 : ([(254, .iconst 0, 1), (255, .putfield 236, 3), (258, .aload_n 0, 1), (259, .getfield 227, 3), (262, .ireturn, 1)] : List (Nat × Instr × Nat)).all (fun q => decide (decode cX11_strait q.1 = .ok q.2)) = true := by decide +kernel
set_option maxRecDepth 100000 in
set_option maxHeartbeats 4000000 in
theorem M_X11_strait {l : Launch} {b : ab_B} {D : va_G} {cA : Nat → ClassId} {f_X11_taken : List Value → ab_H → Option ab_O} (h_X11_taken : ab_M l b D ab_cl cA (ab_E0 b) yX11_taken (Cond.code yX11_taken cX11_taken 2 none :: ab_G) ({ frames := 1, cells := 0, slots := 0, locals := 100 } : Room) f_X11_taken) {f_X11_next : List Value → ab_H → Option ab_O} (h_X11_next : ab_M l b D ab_cl cA (ab_E0 b) yX11_next (Cond.code yX11_next cX11_next 4 none :: ab_G) ({ frames := 2, cells := 0, slots := 0, locals := 200 } : Room) f_X11_next) {f_X11_line : List Value → ab_H → Option ab_O} (h_X11_line : ab_M l b D ab_cl cA (ab_E0 b) yX11_line (Cond.code yX11_line cX11_line 4 (some .boolean) :: ab_G) ({ frames := 6, cells := 0, slots := 0, locals := 600 } : Room) f_X11_line) {f_X11_sign : List Value → ab_H → Option ab_O} (h_X11_sign : ab_M l b D ab_cl cA (ab_E0 b) yX11_sign (Cond.code yX11_sign cX11_sign 2 (some .boolean) :: ab_G) ({ frames := 3, cells := 0, slots := 0, locals := 300 } : Room) f_X11_sign) : ab_M l b D ab_cl cA (ab_E0 b) yX11_strait (Cond.code yX11_strait cX11_strait 2 (some .int) :: ab_G) ({ frames := 7, cells := 0, slots := 0, locals := 700 } : Room) (ab_X (ab_T (L_X11_strait f_X11_taken f_X11_next f_X11_line f_X11_sign)) 2) := by
  refine ab_meth (ret := (some .int)) (L_X11_strait f_X11_taken f_X11_next f_X11_line f_X11_sign) (by decide) rfl fun p e R s m args below meth c o C => ?_
  unfold L_X11_strait
  refine List.forall_mem_cons.mpr ⟨ok_aload_n C (show decode cX11_strait 0 = .ok (.aload_n 0, 1) from dk_at dq35_0 (i := 0) rfl) rfl rfl, ?_⟩
  refine List.forall_mem_cons.mpr ⟨ok_iconst C (show decode cX11_strait 1 = .ok (.iconst 0, 1) from dk_at dq35_0 (i := 1) rfl) (by decide) rfl, ?_⟩
  refine List.forall_mem_cons.mpr ⟨ok_putf C (wi_X11) tyX11 tyX11_ok nmX11 rfl (by decide) kw_1180 (Or.inl rfl) (Or.inl ⟨rfl, rfl⟩) (show decode cX11_strait 2 = .ok (.putfield 1, 3) from dk_at dq35_0 (i := 2) rfl) rfl, ?_⟩
  refine List.forall_mem_cons.mpr ⟨ok_aload_n C (show decode cX11_strait 5 = .ok (.aload_n 0, 1) from dk_at dq35_0 (i := 3) rfl) rfl rfl, ?_⟩
  refine List.forall_mem_cons.mpr ⟨ok_sipush C (show decode cX11_strait 6 = .ok (.sipush 900, 3) from dk_at dq35_0 (i := 4) rfl) (by decide) rfl, ?_⟩
  refine List.forall_mem_cons.mpr ⟨ok_callV C h_X11_taken ⟨rfl, rfl⟩ rfl kw_1318 kw_1315 kw_1317 kp_48 kw_11 rfl ds_X11_taken ⟨by decide, by decide⟩ (show decode cX11_strait 9 = .ok (.invokevirtual 224, 3) from dk_at dq35_0 (i := 5) rfl) rfl, ?_⟩
  refine List.forall_mem_cons.mpr ⟨ok_aload_n C (show decode cX11_strait 12 = .ok (.aload_n 0, 1) from dk_at dq35_0 (i := 6) rfl) rfl rfl, ?_⟩
  refine List.forall_mem_cons.mpr ⟨ok_iconst C (show decode cX11_strait 13 = .ok (.iconst 0, 1) from dk_at dq35_0 (i := 7) rfl) (by decide) rfl, ?_⟩
  refine List.forall_mem_cons.mpr ⟨ok_putf C (wi_X11) tyX11 tyX11_ok nmX11 rfl (by decide) kw_1195 (Or.inl rfl) (Or.inl ⟨rfl, rfl⟩) (show decode cX11_strait 14 = .ok (.putfield 164, 3) from dk_at dq35_0 (i := 8) rfl) rfl, ?_⟩
  refine List.forall_mem_cons.mpr ⟨ok_aload_n C (show decode cX11_strait 17 = .ok (.aload_n 0, 1) from dk_at dq35_0 (i := 9) rfl) rfl rfl, ?_⟩
  refine List.forall_mem_cons.mpr ⟨ok_iconst C (show decode cX11_strait 18 = .ok (.iconst 0, 1) from dk_at dq35_0 (i := 10) rfl) (by decide) rfl, ?_⟩
  refine List.forall_mem_cons.mpr ⟨ok_putf C (wi_X11) tyX11 tyX11_ok nmX11 rfl (by decide) kw_1199 (Or.inl rfl) (Or.inl ⟨rfl, rfl⟩) (show decode cX11_strait 19 = .ok (.putfield 227, 3) from dk_at dq35_0 (i := 11) rfl) rfl, ?_⟩
  refine List.forall_mem_cons.mpr ⟨ok_aload_n C (show decode cX11_strait 22 = .ok (.aload_n 0, 1) from dk_at dq35_0 (i := 12) rfl) rfl rfl, ?_⟩
  refine List.forall_mem_cons.mpr ⟨ok_iconst C (show decode cX11_strait 23 = .ok (.iconst 0, 1) from dk_at dq35_0 (i := 13) rfl) (by decide) rfl, ?_⟩
  refine List.forall_mem_cons.mpr ⟨ok_putf C (wi_X11) tyX11 tyX11_ok nmX11 rfl (by decide) kw_1200 (Or.inl rfl) (Or.inr (Or.inr (Or.inr ⟨rfl, rfl⟩))) (show decode cX11_strait 24 = .ok (.putfield 205, 3) from dk_at dq35_0 (i := 14) rfl) rfl, ?_⟩
  refine List.forall_mem_cons.mpr ⟨ok_iconst C (show decode cX11_strait 27 = .ok (.iconst 0, 1) from dk_at dq35_0 (i := 15) rfl) (by decide) rfl, ?_⟩
  refine List.forall_mem_cons.mpr ⟨ok_istore_n C (show decode cX11_strait 28 = .ok (.istore_n 1, 1) from dk_at dq35_1 (i := 0) rfl) rfl (by decide) rfl, ?_⟩
  refine List.forall_mem_cons.mpr ⟨ok_iload_n C (show decode cX11_strait 29 = .ok (.iload_n 1, 1) from dk_at dq35_1 (i := 1) rfl) rfl rfl, ?_⟩
  refine List.forall_mem_cons.mpr ⟨ok_iconst C (show decode cX11_strait 30 = .ok (.iconst 4, 1) from dk_at dq35_1 (i := 2) rfl) (by decide) rfl, ?_⟩
  refine List.forall_mem_cons.mpr ⟨ok_icmpge C (show decode cX11_strait 31 = .ok (.if_icmp .ge 16, 3) from dk_at dq35_1 (i := 3) rfl) (tg := 47) (by decide) rfl rfl, ?_⟩
  refine List.forall_mem_cons.mpr ⟨ok_aload_n C (show decode cX11_strait 34 = .ok (.aload_n 0, 1) from dk_at dq35_1 (i := 4) rfl) rfl rfl, ?_⟩
  refine List.forall_mem_cons.mpr ⟨ok_getf C (wi_X11) rfl (by decide) kw_1201 (show decode cX11_strait 35 = .ok (.getfield 50, 3) from dk_at dq35_1 (i := 5) rfl) rfl, ?_⟩
  refine List.forall_mem_cons.mpr ⟨ok_iload_n C (show decode cX11_strait 38 = .ok (.iload_n 1, 1) from dk_at dq35_1 (i := 6) rfl) rfl rfl, ?_⟩
  refine List.forall_mem_cons.mpr ⟨ok_iconst C (show decode cX11_strait 39 = .ok (.iconst 0, 1) from dk_at dq35_1 (i := 7) rfl) (by decide) rfl, ?_⟩
  refine List.forall_mem_cons.mpr ⟨ok_iastore C (show decode cX11_strait 40 = .ok (.iastore, 1) from dk_at dq35_1 (i := 8) rfl) rfl, ?_⟩
  refine List.forall_mem_cons.mpr ⟨ok_iinc C (show decode cX11_strait 41 = .ok (.iinc 1 1, 3) from dk_at dq35_1 (i := 9) rfl) (by decide) (by decide) rfl, ?_⟩
  refine List.forall_mem_cons.mpr ⟨ok_goto C (show decode cX11_strait 44 = .ok (.goto (-15), 3) from dk_at dq35_1 (i := 10) rfl) (tg := 29) (by decide) rfl, ?_⟩
  refine List.forall_mem_cons.mpr ⟨ok_iconst C (show decode cX11_strait 47 = .ok (.iconst 0, 1) from dk_at dq35_1 (i := 11) rfl) (by decide) rfl, ?_⟩
  refine List.forall_mem_cons.mpr ⟨ok_istore_n C (show decode cX11_strait 48 = .ok (.istore_n 1, 1) from dk_at dq35_1 (i := 12) rfl) rfl (by decide) rfl, ?_⟩
  refine List.forall_mem_cons.mpr ⟨ok_iload_n C (show decode cX11_strait 49 = .ok (.iload_n 1, 1) from dk_at dq35_1 (i := 13) rfl) rfl rfl, ?_⟩
  refine List.forall_mem_cons.mpr ⟨ok_bipush C (show decode cX11_strait 50 = .ok (.bipush 120, 2) from dk_at dq35_1 (i := 14) rfl) (by decide) rfl, ?_⟩
  refine List.forall_mem_cons.mpr ⟨ok_icmpge C (show decode cX11_strait 52 = .ok (.if_icmp .ge 16, 3) from dk_at dq35_1 (i := 15) rfl) (tg := 68) (by decide) rfl rfl, ?_⟩
  refine List.forall_mem_cons.mpr ⟨ok_aload_n C (show decode cX11_strait 55 = .ok (.aload_n 0, 1) from dk_at dq35_2 (i := 0) rfl) rfl rfl, ?_⟩
  refine List.forall_mem_cons.mpr ⟨ok_getf C (wi_X11) rfl (by decide) kw_1187 (show decode cX11_strait 56 = .ok (.getfield 37, 3) from dk_at dq35_2 (i := 1) rfl) rfl, ?_⟩
  refine List.forall_mem_cons.mpr ⟨ok_iload_n C (show decode cX11_strait 59 = .ok (.iload_n 1, 1) from dk_at dq35_2 (i := 2) rfl) rfl rfl, ?_⟩
  refine List.forall_mem_cons.mpr ⟨ok_iconst C (show decode cX11_strait 60 = .ok (.iconst 0, 1) from dk_at dq35_2 (i := 3) rfl) (by decide) rfl, ?_⟩
  refine List.forall_mem_cons.mpr ⟨ok_iastore C (show decode cX11_strait 61 = .ok (.iastore, 1) from dk_at dq35_2 (i := 4) rfl) rfl, ?_⟩
  refine List.forall_mem_cons.mpr ⟨ok_iinc C (show decode cX11_strait 62 = .ok (.iinc 1 1, 3) from dk_at dq35_2 (i := 5) rfl) (by decide) (by decide) rfl, ?_⟩
  refine List.forall_mem_cons.mpr ⟨ok_goto C (show decode cX11_strait 65 = .ok (.goto (-16), 3) from dk_at dq35_2 (i := 6) rfl) (tg := 49) (by decide) rfl, ?_⟩
  refine List.forall_mem_cons.mpr ⟨ok_aload_n C (show decode cX11_strait 68 = .ok (.aload_n 0, 1) from dk_at dq35_2 (i := 7) rfl) rfl rfl, ?_⟩
  refine List.forall_mem_cons.mpr ⟨ok_getf C (wi_X11) rfl (by decide) kw_1187 (show decode cX11_strait 69 = .ok (.getfield 37, 3) from dk_at dq35_2 (i := 8) rfl) rfl, ?_⟩
  refine List.forall_mem_cons.mpr ⟨ok_iconst C (show decode cX11_strait 72 = .ok (.iconst 2, 1) from dk_at dq35_2 (i := 9) rfl) (by decide) rfl, ?_⟩
  refine List.forall_mem_cons.mpr ⟨ok_bipush C (show decode cX11_strait 73 = .ok (.bipush 10, 2) from dk_at dq35_2 (i := 10) rfl) (by decide) rfl, ?_⟩
  refine List.forall_mem_cons.mpr ⟨ok_iastore C (show decode cX11_strait 75 = .ok (.iastore, 1) from dk_at dq35_2 (i := 11) rfl) rfl, ?_⟩
  refine List.forall_mem_cons.mpr ⟨ok_aload_n C (show decode cX11_strait 76 = .ok (.aload_n 0, 1) from dk_at dq35_2 (i := 12) rfl) rfl rfl, ?_⟩
  refine List.forall_mem_cons.mpr ⟨ok_callV C h_X11_next ⟨rfl, rfl⟩ rfl kw_1322 kw_1319 kw_1321 kp_49 kw_11 rfl ds_X11_next ⟨by decide, by decide⟩ (show decode cX11_strait 77 = .ok (.invokevirtual 176, 3) from dk_at dq35_2 (i := 13) rfl) rfl, ?_⟩
  refine List.forall_mem_cons.mpr ⟨ok_aload_n C (show decode cX11_strait 80 = .ok (.aload_n 0, 1) from dk_at dq35_2 (i := 14) rfl) rfl rfl, ?_⟩
  refine List.forall_mem_cons.mpr ⟨ok_getf C (wi_X11) rfl (by decide) kw_1191 (show decode cX11_strait 81 = .ok (.getfield 147, 3) from dk_at dq35_2 (i := 15) rfl) rfl, ?_⟩
  refine List.forall_mem_cons.mpr ⟨ok_ifeq C (show decode cX11_strait 84 = .ok (.ifCond .eq 39, 3) from dk_at dq35_3 (i := 0) rfl) (tg := 123) (by decide) rfl rfl, ?_⟩
  refine List.forall_mem_cons.mpr ⟨ok_aload_n C (show decode cX11_strait 87 = .ok (.aload_n 0, 1) from dk_at dq35_3 (i := 1) rfl) rfl rfl, ?_⟩
  refine List.forall_mem_cons.mpr ⟨ok_callV C h_X11_line ⟨rfl, rfl⟩ rfl kw_1336 kw_1333 kw_1335 kp_51 kw_11 rfl ds_X11_line ⟨by decide, by decide⟩ (show decode cX11_strait 88 = .ok (.invokevirtual 230, 3) from dk_at dq35_3 (i := 2) rfl) rfl, ?_⟩
  refine List.forall_mem_cons.mpr ⟨ok_ifeq C (show decode cX11_strait 91 = .ok (.ifCond .eq 12, 3) from dk_at dq35_3 (i := 3) rfl) (tg := 103) (by decide) rfl rfl, ?_⟩
  refine List.forall_mem_cons.mpr ⟨ok_aload_n C (show decode cX11_strait 94 = .ok (.aload_n 0, 1) from dk_at dq35_3 (i := 4) rfl) rfl rfl, ?_⟩
  refine List.forall_mem_cons.mpr ⟨ok_bipush C (show decode cX11_strait 95 = .ok (.bipush 59, 2) from dk_at dq35_3 (i := 5) rfl) (by decide) rfl, ?_⟩
  refine List.forall_mem_cons.mpr ⟨ok_callV C h_X11_sign ⟨rfl, rfl⟩ rfl kw_1386 kw_1383 kw_1385 kp_62 kw_11 rfl ds_X11_sign ⟨by decide, by decide⟩ (show decode cX11_strait 97 = .ok (.invokevirtual 233, 3) from dk_at dq35_3 (i := 6) rfl) rfl, ?_⟩
  refine List.forall_mem_cons.mpr ⟨ok_ifne C (show decode cX11_strait 100 = .ok (.ifCond .ne 10, 3) from dk_at dq35_3 (i := 7) rfl) (tg := 110) (by decide) rfl rfl, ?_⟩
  refine List.forall_mem_cons.mpr ⟨ok_iconst C (show decode cX11_strait 103 = .ok (.iconst (-1), 1) from dk_at dq35_3 (i := 8) rfl) (by decide) rfl, ?_⟩
  refine List.forall_mem_cons.mpr ⟨ok_aload_n C (show decode cX11_strait 104 = .ok (.aload_n 0, 1) from dk_at dq35_3 (i := 9) rfl) rfl rfl, ?_⟩
  refine List.forall_mem_cons.mpr ⟨ok_getf C (wi_X11) rfl (by decide) kw_1196 (show decode cX11_strait 105 = .ok (.getfield 167, 3) from dk_at dq35_3 (i := 10) rfl) rfl, ?_⟩
  refine List.forall_mem_cons.mpr ⟨ok_isub C (show decode cX11_strait 108 = .ok (.isub, 1) from dk_at dq35_3 (i := 11) rfl) rfl, ?_⟩
  refine List.forall_mem_cons.mpr ⟨ok_ret C rfl (show decode cX11_strait 109 = .ok (.ireturn, 1) from dk_at dq35_3 (i := 12) rfl), ?_⟩
  refine List.forall_mem_cons.mpr ⟨ok_aload_n C (show decode cX11_strait 110 = .ok (.aload_n 0, 1) from dk_at dq35_3 (i := 13) rfl) rfl rfl, ?_⟩
  refine List.forall_mem_cons.mpr ⟨ok_dup C (show decode cX11_strait 111 = .ok (.dup, 1) from dk_at dq35_3 (i := 14) rfl) rfl, ?_⟩
  refine List.forall_mem_cons.mpr ⟨ok_getf C (wi_X11) rfl (by decide) kw_1199 (show decode cX11_strait 112 = .ok (.getfield 227, 3) from dk_at dq35_3 (i := 15) rfl) rfl, ?_⟩
  refine List.forall_mem_cons.mpr ⟨ok_iconst C (show decode cX11_strait 115 = .ok (.iconst 1, 1) from dk_at dq35_4 (i := 0) rfl) (by decide) rfl, ?_⟩
  refine List.forall_mem_cons.mpr ⟨ok_iadd C (show decode cX11_strait 116 = .ok (.iadd, 1) from dk_at dq35_4 (i := 1) rfl) rfl, ?_⟩
  refine List.forall_mem_cons.mpr ⟨ok_putf C (wi_X11) tyX11 tyX11_ok nmX11 rfl (by decide) kw_1199 (Or.inl rfl) (Or.inl ⟨rfl, rfl⟩) (show decode cX11_strait 117 = .ok (.putfield 227, 3) from dk_at dq35_4 (i := 2) rfl) rfl, ?_⟩
  refine List.forall_mem_cons.mpr ⟨ok_goto C (show decode cX11_strait 120 = .ok (.goto (-40), 3) from dk_at dq35_4 (i := 3) rfl) (tg := 80) (by decide) rfl, ?_⟩
  refine List.forall_mem_cons.mpr ⟨ok_iconst C (show decode cX11_strait 123 = .ok (.iconst 0, 1) from dk_at dq35_4 (i := 4) rfl) (by decide) rfl, ?_⟩
  refine List.forall_mem_cons.mpr ⟨ok_istore_n C (show decode cX11_strait 124 = .ok (.istore_n 1, 1) from dk_at dq35_4 (i := 5) rfl) rfl (by decide) rfl, ?_⟩
  refine List.forall_mem_cons.mpr ⟨ok_iload_n C (show decode cX11_strait 125 = .ok (.iload_n 1, 1) from dk_at dq35_4 (i := 6) rfl) rfl rfl, ?_⟩
  refine List.forall_mem_cons.mpr ⟨ok_sipush C (show decode cX11_strait 126 = .ok (.sipush 434, 3) from dk_at dq35_4 (i := 7) rfl) (by decide) rfl, ?_⟩
  refine List.forall_mem_cons.mpr ⟨ok_icmpge C (show decode cX11_strait 129 = .ok (.if_icmp .ge 31, 3) from dk_at dq35_4 (i := 8) rfl) (tg := 160) (by decide) rfl rfl, ?_⟩
  refine List.forall_mem_cons.mpr ⟨ok_aload_n C (show decode cX11_strait 132 = .ok (.aload_n 0, 1) from dk_at dq35_4 (i := 9) rfl) rfl rfl, ?_⟩
  refine List.forall_mem_cons.mpr ⟨ok_getf C (wi_X11) rfl (by decide) kw_1186 (show decode cX11_strait 133 = .ok (.getfield 33, 3) from dk_at dq35_4 (i := 10) rfl) rfl, ?_⟩
  refine List.forall_mem_cons.mpr ⟨ok_iload_n C (show decode cX11_strait 136 = .ok (.iload_n 1, 1) from dk_at dq35_4 (i := 11) rfl) rfl rfl, ?_⟩
  refine List.forall_mem_cons.mpr ⟨ok_iload_n C (show decode cX11_strait 137 = .ok (.iload_n 1, 1) from dk_at dq35_4 (i := 12) rfl) rfl rfl, ?_⟩
  refine List.forall_mem_cons.mpr ⟨ok_bipush C (show decode cX11_strait 138 = .ok (.bipush 120, 2) from dk_at dq35_4 (i := 13) rfl) (by decide) rfl, ?_⟩
  refine List.forall_mem_cons.mpr ⟨ok_icmpge C (show decode cX11_strait 140 = .ok (.if_icmp .ge 12, 3) from dk_at dq35_4 (i := 14) rfl) (tg := 152) (by decide) rfl rfl, ?_⟩
  refine List.forall_mem_cons.mpr ⟨ok_aload_n C (show decode cX11_strait 143 = .ok (.aload_n 0, 1) from dk_at dq35_4 (i := 15) rfl) rfl rfl, ?_⟩
  refine List.forall_mem_cons.mpr ⟨ok_getf C (wi_X11) rfl (by decide) kw_1187 (show decode cX11_strait 144 = .ok (.getfield 37, 3) from dk_at dq35_5 (i := 0) rfl) rfl, ?_⟩
  refine List.forall_mem_cons.mpr ⟨ok_iload_n C (show decode cX11_strait 147 = .ok (.iload_n 1, 1) from dk_at dq35_5 (i := 1) rfl) rfl rfl, ?_⟩
  refine List.forall_mem_cons.mpr ⟨ok_iaload C (show decode cX11_strait 148 = .ok (.iaload, 1) from dk_at dq35_5 (i := 2) rfl) rfl, ?_⟩
  refine List.forall_mem_cons.mpr ⟨ok_goto C (show decode cX11_strait 149 = .ok (.goto 4, 3) from dk_at dq35_5 (i := 3) rfl) (tg := 153) (by decide) rfl, ?_⟩
  refine List.forall_mem_cons.mpr ⟨ok_iconst C (show decode cX11_strait 152 = .ok (.iconst 0, 1) from dk_at dq35_5 (i := 4) rfl) (by decide) rfl, ?_⟩
  refine List.forall_mem_cons.mpr ⟨ok_iastore C (show decode cX11_strait 153 = .ok (.iastore, 1) from dk_at dq35_5 (i := 5) rfl) rfl, ?_⟩
  refine List.forall_mem_cons.mpr ⟨ok_iinc C (show decode cX11_strait 154 = .ok (.iinc 1 1, 3) from dk_at dq35_5 (i := 6) rfl) (by decide) (by decide) rfl, ?_⟩
  refine List.forall_mem_cons.mpr ⟨ok_goto C (show decode cX11_strait 157 = .ok (.goto (-32), 3) from dk_at dq35_5 (i := 7) rfl) (tg := 125) (by decide) rfl, ?_⟩
  refine List.forall_mem_cons.mpr ⟨ok_iconst C (show decode cX11_strait 160 = .ok (.iconst 0, 1) from dk_at dq35_5 (i := 8) rfl) (by decide) rfl, ?_⟩
  refine List.forall_mem_cons.mpr ⟨ok_istore_n C (show decode cX11_strait 161 = .ok (.istore_n 1, 1) from dk_at dq35_5 (i := 9) rfl) rfl (by decide) rfl, ?_⟩
  refine List.forall_mem_cons.mpr ⟨ok_iload_n C (show decode cX11_strait 162 = .ok (.iload_n 1, 1) from dk_at dq35_5 (i := 10) rfl) rfl rfl, ?_⟩
  refine List.forall_mem_cons.mpr ⟨ok_bipush C (show decode cX11_strait 163 = .ok (.bipush 14, 2) from dk_at dq35_5 (i := 11) rfl) (by decide) rfl, ?_⟩
  refine List.forall_mem_cons.mpr ⟨ok_icmpge C (show decode cX11_strait 165 = .ok (.if_icmp .ge 24, 3) from dk_at dq35_5 (i := 12) rfl) (tg := 189) (by decide) rfl rfl, ?_⟩
  refine List.forall_mem_cons.mpr ⟨ok_aload_n C (show decode cX11_strait 168 = .ok (.aload_n 0, 1) from dk_at dq35_5 (i := 13) rfl) rfl rfl, ?_⟩
  refine List.forall_mem_cons.mpr ⟨ok_getf C (wi_X11) rfl (by decide) kw_1189 (show decode cX11_strait 169 = .ok (.getfield 43, 3) from dk_at dq35_5 (i := 14) rfl) rfl, ?_⟩
  refine List.forall_mem_cons.mpr ⟨ok_iload_n C (show decode cX11_strait 172 = .ok (.iload_n 1, 1) from dk_at dq35_5 (i := 15) rfl) rfl rfl, ?_⟩
  refine List.forall_mem_cons.mpr ⟨ok_aload_n C (show decode cX11_strait 173 = .ok (.aload_n 0, 1) from dk_at dq35_6 (i := 0) rfl) rfl rfl, ?_⟩
  refine List.forall_mem_cons.mpr ⟨ok_getf C (wi_X11) rfl (by decide) kw_1189 (show decode cX11_strait 174 = .ok (.getfield 43, 3) from dk_at dq35_6 (i := 1) rfl) rfl, ?_⟩
  refine List.forall_mem_cons.mpr ⟨ok_bipush C (show decode cX11_strait 177 = .ok (.bipush 14, 2) from dk_at dq35_6 (i := 2) rfl) (by decide) rfl, ?_⟩
  refine List.forall_mem_cons.mpr ⟨ok_iload_n C (show decode cX11_strait 179 = .ok (.iload_n 1, 1) from dk_at dq35_6 (i := 3) rfl) rfl rfl, ?_⟩
  refine List.forall_mem_cons.mpr ⟨ok_iadd C (show decode cX11_strait 180 = .ok (.iadd, 1) from dk_at dq35_6 (i := 4) rfl) rfl, ?_⟩
  refine List.forall_mem_cons.mpr ⟨ok_laload C (show decode cX11_strait 181 = .ok (.laload, 1) from dk_at dq35_6 (i := 5) rfl) rfl, ?_⟩
  refine List.forall_mem_cons.mpr ⟨ok_lastore C (show decode cX11_strait 182 = .ok (.lastore, 1) from dk_at dq35_6 (i := 6) rfl) rfl, ?_⟩
  refine List.forall_mem_cons.mpr ⟨ok_iinc C (show decode cX11_strait 183 = .ok (.iinc 1 1, 3) from dk_at dq35_6 (i := 7) rfl) (by decide) (by decide) rfl, ?_⟩
  refine List.forall_mem_cons.mpr ⟨ok_goto C (show decode cX11_strait 186 = .ok (.goto (-24), 3) from dk_at dq35_6 (i := 8) rfl) (tg := 162) (by decide) rfl, ?_⟩
  refine List.forall_mem_cons.mpr ⟨ok_iconst C (show decode cX11_strait 189 = .ok (.iconst 0, 1) from dk_at dq35_6 (i := 9) rfl) (by decide) rfl, ?_⟩
  refine List.forall_mem_cons.mpr ⟨ok_istore_n C (show decode cX11_strait 190 = .ok (.istore_n 1, 1) from dk_at dq35_6 (i := 10) rfl) rfl (by decide) rfl, ?_⟩
  refine List.forall_mem_cons.mpr ⟨ok_iload_n C (show decode cX11_strait 191 = .ok (.iload_n 1, 1) from dk_at dq35_6 (i := 11) rfl) rfl rfl, ?_⟩
  refine List.forall_mem_cons.mpr ⟨ok_bipush C (show decode cX11_strait 192 = .ok (.bipush 12, 2) from dk_at dq35_6 (i := 12) rfl) (by decide) rfl, ?_⟩
  refine List.forall_mem_cons.mpr ⟨ok_icmpge C (show decode cX11_strait 194 = .ok (.if_icmp .ge 26, 3) from dk_at dq35_6 (i := 13) rfl) (tg := 220) (by decide) rfl rfl, ?_⟩
  refine List.forall_mem_cons.mpr ⟨ok_aload_n C (show decode cX11_strait 197 = .ok (.aload_n 0, 1) from dk_at dq35_6 (i := 14) rfl) rfl rfl, ?_⟩
  refine List.forall_mem_cons.mpr ⟨ok_getf C (wi_X11) rfl (by decide) kw_1186 (show decode cX11_strait 198 = .ok (.getfield 33, 3) from dk_at dq35_6 (i := 15) rfl) rfl, ?_⟩
  refine List.forall_mem_cons.mpr ⟨ok_bipush C (show decode cX11_strait 201 = .ok (.bipush 124, 2) from dk_at dq35_7 (i := 0) rfl) (by decide) rfl, ?_⟩
  refine List.forall_mem_cons.mpr ⟨ok_iload_n C (show decode cX11_strait 203 = .ok (.iload_n 1, 1) from dk_at dq35_7 (i := 1) rfl) rfl rfl, ?_⟩
  refine List.forall_mem_cons.mpr ⟨ok_iadd C (show decode cX11_strait 204 = .ok (.iadd, 1) from dk_at dq35_7 (i := 2) rfl) rfl, ?_⟩
  refine List.forall_mem_cons.mpr ⟨ok_aload_n C (show decode cX11_strait 205 = .ok (.aload_n 0, 1) from dk_at dq35_7 (i := 3) rfl) rfl rfl, ?_⟩
  refine List.forall_mem_cons.mpr ⟨ok_getf C (wi_X11) rfl (by decide) kw_1186 (show decode cX11_strait 206 = .ok (.getfield 33, 3) from dk_at dq35_7 (i := 4) rfl) rfl, ?_⟩
  refine List.forall_mem_cons.mpr ⟨ok_iconst C (show decode cX11_strait 209 = .ok (.iconst 4, 1) from dk_at dq35_7 (i := 5) rfl) (by decide) rfl, ?_⟩
  refine List.forall_mem_cons.mpr ⟨ok_iload_n C (show decode cX11_strait 210 = .ok (.iload_n 1, 1) from dk_at dq35_7 (i := 6) rfl) rfl rfl, ?_⟩
  refine List.forall_mem_cons.mpr ⟨ok_iadd C (show decode cX11_strait 211 = .ok (.iadd, 1) from dk_at dq35_7 (i := 7) rfl) rfl, ?_⟩
  refine List.forall_mem_cons.mpr ⟨ok_iaload C (show decode cX11_strait 212 = .ok (.iaload, 1) from dk_at dq35_7 (i := 8) rfl) rfl, ?_⟩
  refine List.forall_mem_cons.mpr ⟨ok_iastore C (show decode cX11_strait 213 = .ok (.iastore, 1) from dk_at dq35_7 (i := 9) rfl) rfl, ?_⟩
  refine List.forall_mem_cons.mpr ⟨ok_iinc C (show decode cX11_strait 214 = .ok (.iinc 1 1, 3) from dk_at dq35_7 (i := 10) rfl) (by decide) (by decide) rfl, ?_⟩
  refine List.forall_mem_cons.mpr ⟨ok_goto C (show decode cX11_strait 217 = .ok (.goto (-26), 3) from dk_at dq35_7 (i := 11) rfl) (tg := 191) (by decide) rfl, ?_⟩
  refine List.forall_mem_cons.mpr ⟨ok_iconst C (show decode cX11_strait 220 = .ok (.iconst 0, 1) from dk_at dq35_7 (i := 12) rfl) (by decide) rfl, ?_⟩
  refine List.forall_mem_cons.mpr ⟨ok_istore_n C (show decode cX11_strait 221 = .ok (.istore_n 1, 1) from dk_at dq35_7 (i := 13) rfl) rfl (by decide) rfl, ?_⟩
  refine List.forall_mem_cons.mpr ⟨ok_iload_n C (show decode cX11_strait 222 = .ok (.iload_n 1, 1) from dk_at dq35_7 (i := 14) rfl) rfl rfl, ?_⟩
  refine List.forall_mem_cons.mpr ⟨ok_bipush C (show decode cX11_strait 223 = .ok (.bipush 8, 2) from dk_at dq35_7 (i := 15) rfl) (by decide) rfl, ?_⟩
  refine List.forall_mem_cons.mpr ⟨ok_icmpge C (show decode cX11_strait 225 = .ok (.if_icmp .ge 28, 3) from dk_at dq35_8 (i := 0) rfl) (tg := 253) (by decide) rfl rfl, ?_⟩
  refine List.forall_mem_cons.mpr ⟨ok_aload_n C (show decode cX11_strait 228 = .ok (.aload_n 0, 1) from dk_at dq35_8 (i := 1) rfl) rfl rfl, ?_⟩
  refine List.forall_mem_cons.mpr ⟨ok_getf C (wi_X11) rfl (by decide) kw_1186 (show decode cX11_strait 229 = .ok (.getfield 33, 3) from dk_at dq35_8 (i := 2) rfl) rfl, ?_⟩
  refine List.forall_mem_cons.mpr ⟨ok_sipush C (show decode cX11_strait 232 = .ok (.sipush 172, 3) from dk_at dq35_8 (i := 3) rfl) (by decide) rfl, ?_⟩
  refine List.forall_mem_cons.mpr ⟨ok_iload_n C (show decode cX11_strait 235 = .ok (.iload_n 1, 1) from dk_at dq35_8 (i := 4) rfl) rfl rfl, ?_⟩
  refine List.forall_mem_cons.mpr ⟨ok_iadd C (show decode cX11_strait 236 = .ok (.iadd, 1) from dk_at dq35_8 (i := 5) rfl) rfl, ?_⟩
  refine List.forall_mem_cons.mpr ⟨ok_aload_n C (show decode cX11_strait 237 = .ok (.aload_n 0, 1) from dk_at dq35_8 (i := 6) rfl) rfl rfl, ?_⟩
  refine List.forall_mem_cons.mpr ⟨ok_getf C (wi_X11) rfl (by decide) kw_1186 (show decode cX11_strait 238 = .ok (.getfield 33, 3) from dk_at dq35_8 (i := 7) rfl) rfl, ?_⟩
  refine List.forall_mem_cons.mpr ⟨ok_bipush C (show decode cX11_strait 241 = .ok (.bipush 52, 2) from dk_at dq35_8 (i := 8) rfl) (by decide) rfl, ?_⟩
  refine List.forall_mem_cons.mpr ⟨ok_iload_n C (show decode cX11_strait 243 = .ok (.iload_n 1, 1) from dk_at dq35_8 (i := 9) rfl) rfl rfl, ?_⟩
  refine List.forall_mem_cons.mpr ⟨ok_iadd C (show decode cX11_strait 244 = .ok (.iadd, 1) from dk_at dq35_8 (i := 10) rfl) rfl, ?_⟩
  refine List.forall_mem_cons.mpr ⟨ok_iaload C (show decode cX11_strait 245 = .ok (.iaload, 1) from dk_at dq35_8 (i := 11) rfl) rfl, ?_⟩
  refine List.forall_mem_cons.mpr ⟨ok_iastore C (show decode cX11_strait 246 = .ok (.iastore, 1) from dk_at dq35_8 (i := 12) rfl) rfl, ?_⟩
  refine List.forall_mem_cons.mpr ⟨ok_iinc C (show decode cX11_strait 247 = .ok (.iinc 1 1, 3) from dk_at dq35_8 (i := 13) rfl) (by decide) (by decide) rfl, ?_⟩
  refine List.forall_mem_cons.mpr ⟨ok_goto C (show decode cX11_strait 250 = .ok (.goto (-28), 3) from dk_at dq35_8 (i := 14) rfl) (tg := 222) (by decide) rfl, ?_⟩
  refine List.forall_mem_cons.mpr ⟨ok_aload_n C (show decode cX11_strait 253 = .ok (.aload_n 0, 1) from dk_at dq35_8 (i := 15) rfl) rfl rfl, ?_⟩
  refine List.forall_mem_cons.mpr ⟨ok_iconst C (show decode cX11_strait 254 = .ok (.iconst 0, 1) from dk_at dq35_9 (i := 0) rfl) (by decide) rfl, ?_⟩
  refine List.forall_mem_cons.mpr ⟨ok_putf C (wi_X11) tyX11 tyX11_ok nmX11 rfl (by decide) kw_1205 (Or.inl rfl) (Or.inl ⟨rfl, rfl⟩) (show decode cX11_strait 255 = .ok (.putfield 236, 3) from dk_at dq35_9 (i := 1) rfl) rfl, ?_⟩
  refine List.forall_mem_cons.mpr ⟨ok_aload_n C (show decode cX11_strait 258 = .ok (.aload_n 0, 1) from dk_at dq35_9 (i := 2) rfl) rfl rfl, ?_⟩
  refine List.forall_mem_cons.mpr ⟨ok_getf C (wi_X11) rfl (by decide) kw_1199 (show decode cX11_strait 259 = .ok (.getfield 227, 3) from dk_at dq35_9 (i := 3) rfl) rfl, ?_⟩
  refine List.forall_mem_cons.mpr ⟨ok_ret C rfl (show decode cX11_strait 262 = .ok (.ireturn, 1) from dk_at dq35_9 (i := 4) rfl), ?_⟩
  exact fun _ h => absurd h List.not_mem_nil
def L_X11_fault : List (Nat × ab_A) := [
  (0, ab_nx 1 (ab_aload 0)),
  (1, ab_nx 2 (ab_lit (.int 0))),
  (2, ab_nx 5 (ab_putf 11 0 0)),
  (5, ab_nx 6 (ab_aload 0)),
  (6, ab_nx 9 (ab_getf 11 15)),
  (9, ab_ret 0 0)]
set_option maxRecDepth 100000 in
theorem dq35_10 : ([(0, .aload_n 0, 1), (1, .iconst 0, 1), (2, .putfield 1, 3), (5, .aload_n 0, 1), (6, .getfield 164, 3), (9, .ireturn, 1)] : List (Nat × Instr × Nat)).all (fun q => decide (decode cX11_fault q.1 = .ok q.2)) = true := by decide +kernel
set_option maxRecDepth 100000 in
set_option maxHeartbeats 4000000 in
theorem M_X11_fault {l : Launch} {b : ab_B} {D : va_G} {cA : Nat → ClassId} : ab_M l b D ab_cl cA (ab_E0 b) yX11_fault (Cond.code yX11_fault cX11_fault 1 (some .int) :: ab_G) ({ frames := 1, cells := 0, slots := 0, locals := 100 } : Room) (ab_X (ab_T L_X11_fault) 1) := by
  refine ab_meth (ret := (some .int)) L_X11_fault (by decide) rfl fun p e R s m args below meth c o C => ?_
  unfold L_X11_fault
  refine List.forall_mem_cons.mpr ⟨ok_aload_n C (show decode cX11_fault 0 = .ok (.aload_n 0, 1) from dk_at dq35_10 (i := 0) rfl) rfl rfl, ?_⟩
  refine List.forall_mem_cons.mpr ⟨ok_iconst C (show decode cX11_fault 1 = .ok (.iconst 0, 1) from dk_at dq35_10 (i := 1) rfl) (by decide) rfl, ?_⟩
  refine List.forall_mem_cons.mpr ⟨ok_putf C (wi_X11) tyX11 tyX11_ok nmX11 rfl (by decide) kw_1180 (Or.inl rfl) (Or.inl ⟨rfl, rfl⟩) (show decode cX11_fault 2 = .ok (.putfield 1, 3) from dk_at dq35_10 (i := 2) rfl) rfl, ?_⟩
  refine List.forall_mem_cons.mpr ⟨ok_aload_n C (show decode cX11_fault 5 = .ok (.aload_n 0, 1) from dk_at dq35_10 (i := 3) rfl) rfl rfl, ?_⟩
  refine List.forall_mem_cons.mpr ⟨ok_getf C (wi_X11) rfl (by decide) kw_1195 (show decode cX11_fault 6 = .ok (.getfield 164, 3) from dk_at dq35_10 (i := 4) rfl) rfl, ?_⟩
  refine List.forall_mem_cons.mpr ⟨ok_ret C rfl (show decode cX11_fault 9 = .ok (.ireturn, 1) from dk_at dq35_10 (i := 5) rfl), ?_⟩
  exact fun _ h => absurd h List.not_mem_nil
def L_X11_isGood (f_X11_isIn : List Value → ab_H → Option ab_O) : List (Nat × ab_A) := [
  (0, ab_nx 1 (ab_iload 1)),
  (1, ab_nx 2 (ab_lit (.int 0))),
  (2, ab_nx 3 (ab_aload 0)),
  (3, ab_nx 6 (ab_getf 11 6)),
  (6, ab_nx 7 (ab_lit (.int 0))),
  (7, ab_nx 8 (ab_ald 1)),
  (8, ab_nx 9 (ab_lit (.int 1))),
  (9, ab_nx 10 (ab_bin (fun x y => x - y))),
  (10, ab_nx 13 (ab_call 3 f_X11_isIn 0 0 0 0)),
  (13, ab_zret 0 0)]
set_option maxRecDepth 100000 in
theorem dq35_11 : ([(0, .iload_n 1, 1), (1, .iconst 0, 1), (2, .aload_n 0, 1), (3, .getfield 33, 3), (6, .iconst 0, 1), (7, .iaload, 1), (8, .iconst 1, 1), (9, .isub, 1), (10, .invokestatic 179, 3), (13, .ireturn, 1)] : List (Nat × Instr × Nat)).all (fun q => decide (decode cX11_isGood q.1 = .ok q.2)) = true := by decide +kernel
set_option maxRecDepth 100000 in
set_option maxHeartbeats 4000000 in
theorem M_X11_isGood {l : Launch} {b : ab_B} {D : va_G} {cA : Nat → ClassId} {f_X11_isIn : List Value → ab_H → Option ab_O} (h_X11_isIn : ab_M l b D ab_cl cA (ab_E0 b) yX11_isIn (Cond.code yX11_isIn cX11_isIn 3 (some .boolean) :: ab_G) ({ frames := 1, cells := 0, slots := 0, locals := 100 } : Room) f_X11_isIn) : ab_M l b D ab_cl cA (ab_E0 b) yX11_isGood (Cond.code yX11_isGood cX11_isGood 2 (some .boolean) :: ab_G) ({ frames := 2, cells := 0, slots := 0, locals := 200 } : Room) (ab_X (ab_T (L_X11_isGood f_X11_isIn)) 2) := by
  refine ab_meth (ret := (some .boolean)) (L_X11_isGood f_X11_isIn) (by decide) rfl fun p e R s m args below meth c o C => ?_
  unfold L_X11_isGood
  refine List.forall_mem_cons.mpr ⟨ok_iload_n C (show decode cX11_isGood 0 = .ok (.iload_n 1, 1) from dk_at dq35_11 (i := 0) rfl) rfl rfl, ?_⟩
  refine List.forall_mem_cons.mpr ⟨ok_iconst C (show decode cX11_isGood 1 = .ok (.iconst 0, 1) from dk_at dq35_11 (i := 1) rfl) (by decide) rfl, ?_⟩
  refine List.forall_mem_cons.mpr ⟨ok_aload_n C (show decode cX11_isGood 2 = .ok (.aload_n 0, 1) from dk_at dq35_11 (i := 2) rfl) rfl rfl, ?_⟩
  refine List.forall_mem_cons.mpr ⟨ok_getf C (wi_X11) rfl (by decide) kw_1186 (show decode cX11_isGood 3 = .ok (.getfield 33, 3) from dk_at dq35_11 (i := 3) rfl) rfl, ?_⟩
  refine List.forall_mem_cons.mpr ⟨ok_iconst C (show decode cX11_isGood 6 = .ok (.iconst 0, 1) from dk_at dq35_11 (i := 4) rfl) (by decide) rfl, ?_⟩
  refine List.forall_mem_cons.mpr ⟨ok_iaload C (show decode cX11_isGood 7 = .ok (.iaload, 1) from dk_at dq35_11 (i := 5) rfl) rfl, ?_⟩
  refine List.forall_mem_cons.mpr ⟨ok_iconst C (show decode cX11_isGood 8 = .ok (.iconst 1, 1) from dk_at dq35_11 (i := 6) rfl) (by decide) rfl, ?_⟩
  refine List.forall_mem_cons.mpr ⟨ok_isub C (show decode cX11_isGood 9 = .ok (.isub, 1) from dk_at dq35_11 (i := 7) rfl) rfl, ?_⟩
  refine List.forall_mem_cons.mpr ⟨ok_callS C h_X11_isIn ⟨rfl, rfl⟩ kw_1355 kw_1353 kw_1354 kw_11 ds_X11_isIn ⟨by decide, by decide⟩ (show decode cX11_isGood 10 = .ok (.invokestatic 179, 3) from dk_at dq35_11 (i := 8) rfl) rfl, ?_⟩
  refine List.forall_mem_cons.mpr ⟨ok_zret C rfl (show decode cX11_isGood 13 = .ok (.ireturn, 1) from dk_at dq35_11 (i := 9) rfl), ?_⟩
  exact fun _ h => absurd h List.not_mem_nil
def L_X11_isShore (f_X11_isIn : List Value → ab_H → Option ab_O) : List (Nat × ab_A) := [
  (0, ab_nx 1 (ab_iload 1)),
  (1, ab_nx 2 (ab_lit (.int 0))),
  (2, ab_nx 3 (ab_lit (.int 1))),
  (3, ab_nx 6 (ab_call 3 f_X11_isIn 0 0 0 0)),
  (6, ab_zret 0 0)]
set_option maxRecDepth 100000 in
theorem dq35_12 : ([(0, .iload_n 1, 1), (1, .iconst 0, 1), (2, .iconst 1, 1), (3, .invokestatic 179, 3), (6, .ireturn, 1)] : List (Nat × Instr × Nat)).all (fun q => decide (decode cX11_isShore q.1 = .ok q.2)) = true := by decide +kernel
set_option maxRecDepth 100000 in
set_option maxHeartbeats 4000000 in
theorem M_X11_isShore {l : Launch} {b : ab_B} {D : va_G} {cA : Nat → ClassId} {f_X11_isIn : List Value → ab_H → Option ab_O} (h_X11_isIn : ab_M l b D ab_cl cA (ab_E0 b) yX11_isIn (Cond.code yX11_isIn cX11_isIn 3 (some .boolean) :: ab_G) ({ frames := 1, cells := 0, slots := 0, locals := 100 } : Room) f_X11_isIn) : ab_M l b D ab_cl cA (ab_E0 b) yX11_isShore (Cond.code yX11_isShore cX11_isShore 2 (some .boolean) :: ab_G) ({ frames := 2, cells := 0, slots := 0, locals := 200 } : Room) (ab_X (ab_T (L_X11_isShore f_X11_isIn)) 2) := by
  refine ab_meth (ret := (some .boolean)) (L_X11_isShore f_X11_isIn) (by decide) rfl fun p e R s m args below meth c o C => ?_
  unfold L_X11_isShore
  refine List.forall_mem_cons.mpr ⟨ok_iload_n C (show decode cX11_isShore 0 = .ok (.iload_n 1, 1) from dk_at dq35_12 (i := 0) rfl) rfl rfl, ?_⟩
  refine List.forall_mem_cons.mpr ⟨ok_iconst C (show decode cX11_isShore 1 = .ok (.iconst 0, 1) from dk_at dq35_12 (i := 1) rfl) (by decide) rfl, ?_⟩
  refine List.forall_mem_cons.mpr ⟨ok_iconst C (show decode cX11_isShore 2 = .ok (.iconst 1, 1) from dk_at dq35_12 (i := 2) rfl) (by decide) rfl, ?_⟩
  refine List.forall_mem_cons.mpr ⟨ok_callS C h_X11_isIn ⟨rfl, rfl⟩ kw_1355 kw_1353 kw_1354 kw_11 ds_X11_isIn ⟨by decide, by decide⟩ (show decode cX11_isShore 3 = .ok (.invokestatic 179, 3) from dk_at dq35_12 (i := 3) rfl) rfl, ?_⟩
  refine List.forall_mem_cons.mpr ⟨ok_zret C rfl (show decode cX11_isShore 6 = .ok (.ireturn, 1) from dk_at dq35_12 (i := 4) rfl), ?_⟩
  exact fun _ h => absurd h List.not_mem_nil
def L_X11_isPlace (f_X11_isGood : List Value → ab_H → Option ab_O) (f_X11_isShore : List Value → ab_H → Option ab_O) : List (Nat × ab_A) := [
  (0, ab_nx 1 (ab_aload 0)),
  (1, ab_nx 2 (ab_iload 1)),
  (2, ab_nx 5 (ab_callV 2 11 f_X11_isGood 0 0 0 0)),
  (5, ab_if 8 20 (fun x => decide (x = 0))),
  (8, ab_nx 9 (ab_aload 0)),
  (9, ab_nx 10 (ab_iload 2)),
  (10, ab_nx 13 (ab_callV 2 11 f_X11_isShore 0 0 0 0)),
  (13, ab_if 16 20 (fun x => decide (x = 0))),
  (16, ab_nx 17 (ab_lit (.int 1))),
  (17, ab_goto 21),
  (20, ab_nx 21 (ab_lit (.int 0))),
  (21, ab_zret 0 0)]
set_option maxRecDepth 100000 in
theorem dq35_13 : ([(0, .aload_n 0, 1), (1, .iload_n 1, 1), (2, .invokevirtual 239, 3), (5, .ifCond .eq 15, 3), (8, .aload_n 0, 1), (9, .iload_n 2, 1), (10, .invokevirtual 242, 3), (13, .ifCond .eq 7, 3), (16, .iconst 1, 1), (17, .goto 4, 3), (20, .iconst 0, 1), (21, .ireturn, 1)] : List (Nat × Instr × Nat)).all (fun q => decide (decode cX11_isPlace q.1 = .ok q.2)) = true := by decide +kernel
set_option maxRecDepth 100000 in
set_option maxHeartbeats 4000000 in
theorem M_X11_isPlace {l : Launch} {b : ab_B} {D : va_G} {cA : Nat → ClassId} {f_X11_isGood : List Value → ab_H → Option ab_O} (h_X11_isGood : ab_M l b D ab_cl cA (ab_E0 b) yX11_isGood (Cond.code yX11_isGood cX11_isGood 2 (some .boolean) :: ab_G) ({ frames := 2, cells := 0, slots := 0, locals := 200 } : Room) f_X11_isGood) {f_X11_isShore : List Value → ab_H → Option ab_O} (h_X11_isShore : ab_M l b D ab_cl cA (ab_E0 b) yX11_isShore (Cond.code yX11_isShore cX11_isShore 2 (some .boolean) :: ab_G) ({ frames := 2, cells := 0, slots := 0, locals := 200 } : Room) f_X11_isShore) : ab_M l b D ab_cl cA (ab_E0 b) yX11_isPlace (Cond.code yX11_isPlace cX11_isPlace 3 (some .boolean) :: ab_G) ({ frames := 3, cells := 0, slots := 0, locals := 300 } : Room) (ab_X (ab_T (L_X11_isPlace f_X11_isGood f_X11_isShore)) 3) := by
  refine ab_meth (ret := (some .boolean)) (L_X11_isPlace f_X11_isGood f_X11_isShore) (by decide) rfl fun p e R s m args below meth c o C => ?_
  unfold L_X11_isPlace
  refine List.forall_mem_cons.mpr ⟨ok_aload_n C (show decode cX11_isPlace 0 = .ok (.aload_n 0, 1) from dk_at dq35_13 (i := 0) rfl) rfl rfl, ?_⟩
  refine List.forall_mem_cons.mpr ⟨ok_iload_n C (show decode cX11_isPlace 1 = .ok (.iload_n 1, 1) from dk_at dq35_13 (i := 1) rfl) rfl rfl, ?_⟩
  refine List.forall_mem_cons.mpr ⟨ok_callV C h_X11_isGood ⟨rfl, rfl⟩ rfl kw_1406 kw_1403 kw_1405 kp_65 kw_11 rfl ds_X11_isGood ⟨by decide, by decide⟩ (show decode cX11_isPlace 2 = .ok (.invokevirtual 239, 3) from dk_at dq35_13 (i := 2) rfl) rfl, ?_⟩
  refine List.forall_mem_cons.mpr ⟨ok_ifeq C (show decode cX11_isPlace 5 = .ok (.ifCond .eq 15, 3) from dk_at dq35_13 (i := 3) rfl) (tg := 20) (by decide) rfl rfl, ?_⟩
  refine List.forall_mem_cons.mpr ⟨ok_aload_n C (show decode cX11_isPlace 8 = .ok (.aload_n 0, 1) from dk_at dq35_13 (i := 4) rfl) rfl rfl, ?_⟩
  refine List.forall_mem_cons.mpr ⟨ok_iload_n C (show decode cX11_isPlace 9 = .ok (.iload_n 2, 1) from dk_at dq35_13 (i := 5) rfl) rfl rfl, ?_⟩
  refine List.forall_mem_cons.mpr ⟨ok_callV C h_X11_isShore ⟨rfl, rfl⟩ rfl kw_1410 kw_1407 kw_1409 kp_66 kw_11 rfl ds_X11_isShore ⟨by decide, by decide⟩ (show decode cX11_isPlace 10 = .ok (.invokevirtual 242, 3) from dk_at dq35_13 (i := 6) rfl) rfl, ?_⟩
  refine List.forall_mem_cons.mpr ⟨ok_ifeq C (show decode cX11_isPlace 13 = .ok (.ifCond .eq 7, 3) from dk_at dq35_13 (i := 7) rfl) (tg := 20) (by decide) rfl rfl, ?_⟩
  refine List.forall_mem_cons.mpr ⟨ok_iconst C (show decode cX11_isPlace 16 = .ok (.iconst 1, 1) from dk_at dq35_13 (i := 8) rfl) (by decide) rfl, ?_⟩
  refine List.forall_mem_cons.mpr ⟨ok_goto C (show decode cX11_isPlace 17 = .ok (.goto 4, 3) from dk_at dq35_13 (i := 9) rfl) (tg := 21) (by decide) rfl, ?_⟩
  refine List.forall_mem_cons.mpr ⟨ok_iconst C (show decode cX11_isPlace 20 = .ok (.iconst 0, 1) from dk_at dq35_13 (i := 10) rfl) (by decide) rfl, ?_⟩
  refine List.forall_mem_cons.mpr ⟨ok_zret C rfl (show decode cX11_isPlace 21 = .ok (.ireturn, 1) from dk_at dq35_13 (i := 11) rfl), ?_⟩
  exact fun _ h => absurd h List.not_mem_nil
def L_X11_isMan (f_X11_isIn : List Value → ab_H → Option ab_O) : List (Nat × ab_A) := [
  (0, ab_nx 1 (ab_iload 1)),
  (1, ab_nx 2 (ab_lit (.int 0))),
  (2, ab_nx 3 (ab_aload 0)),
  (3, ab_nx 6 (ab_getf 11 6)),
  (6, ab_nx 7 (ab_lit (.int 1))),
  (7, ab_nx 8 (ab_ald 1)),
  (8, ab_nx 9 (ab_lit (.int 1))),
  (9, ab_nx 10 (ab_bin (fun x y => x - y))),
  (10, ab_nx 13 (ab_call 3 f_X11_isIn 0 0 0 0)),
  (13, ab_zret 0 0)]
set_option maxRecDepth 100000 in
theorem dq35_14 : ([(0, .iload_n 1, 1), (1, .iconst 0, 1), (2, .aload_n 0, 1), (3, .getfield 33, 3), (6, .iconst 1, 1), (7, .iaload, 1), (8, .iconst 1, 1), (9, .isub, 1), (10, .invokestatic 179, 3), (13, .ireturn, 1)] : List (Nat × Instr × Nat)).all (fun q => decide (decode cX11_isMan q.1 = .ok q.2)) = true := by decide +kernel
set_option maxRecDepth 100000 in
set_option maxHeartbeats 4000000 in
theorem M_X11_isMan {l : Launch} {b : ab_B} {D : va_G} {cA : Nat → ClassId} {f_X11_isIn : List Value → ab_H → Option ab_O} (h_X11_isIn : ab_M l b D ab_cl cA (ab_E0 b) yX11_isIn (Cond.code yX11_isIn cX11_isIn 3 (some .boolean) :: ab_G) ({ frames := 1, cells := 0, slots := 0, locals := 100 } : Room) f_X11_isIn) : ab_M l b D ab_cl cA (ab_E0 b) yX11_isMan (Cond.code yX11_isMan cX11_isMan 2 (some .boolean) :: ab_G) ({ frames := 2, cells := 0, slots := 0, locals := 200 } : Room) (ab_X (ab_T (L_X11_isMan f_X11_isIn)) 2) := by
  refine ab_meth (ret := (some .boolean)) (L_X11_isMan f_X11_isIn) (by decide) rfl fun p e R s m args below meth c o C => ?_
  unfold L_X11_isMan
  refine List.forall_mem_cons.mpr ⟨ok_iload_n C (show decode cX11_isMan 0 = .ok (.iload_n 1, 1) from dk_at dq35_14 (i := 0) rfl) rfl rfl, ?_⟩
  refine List.forall_mem_cons.mpr ⟨ok_iconst C (show decode cX11_isMan 1 = .ok (.iconst 0, 1) from dk_at dq35_14 (i := 1) rfl) (by decide) rfl, ?_⟩
  refine List.forall_mem_cons.mpr ⟨ok_aload_n C (show decode cX11_isMan 2 = .ok (.aload_n 0, 1) from dk_at dq35_14 (i := 2) rfl) rfl rfl, ?_⟩
  refine List.forall_mem_cons.mpr ⟨ok_getf C (wi_X11) rfl (by decide) kw_1186 (show decode cX11_isMan 3 = .ok (.getfield 33, 3) from dk_at dq35_14 (i := 3) rfl) rfl, ?_⟩
  refine List.forall_mem_cons.mpr ⟨ok_iconst C (show decode cX11_isMan 6 = .ok (.iconst 1, 1) from dk_at dq35_14 (i := 4) rfl) (by decide) rfl, ?_⟩
  refine List.forall_mem_cons.mpr ⟨ok_iaload C (show decode cX11_isMan 7 = .ok (.iaload, 1) from dk_at dq35_14 (i := 5) rfl) rfl, ?_⟩
  refine List.forall_mem_cons.mpr ⟨ok_iconst C (show decode cX11_isMan 8 = .ok (.iconst 1, 1) from dk_at dq35_14 (i := 6) rfl) (by decide) rfl, ?_⟩
  refine List.forall_mem_cons.mpr ⟨ok_isub C (show decode cX11_isMan 9 = .ok (.isub, 1) from dk_at dq35_14 (i := 7) rfl) rfl, ?_⟩
  refine List.forall_mem_cons.mpr ⟨ok_callS C h_X11_isIn ⟨rfl, rfl⟩ kw_1355 kw_1353 kw_1354 kw_11 ds_X11_isIn ⟨by decide, by decide⟩ (show decode cX11_isMan 10 = .ok (.invokestatic 179, 3) from dk_at dq35_14 (i := 8) rfl) rfl, ?_⟩
  refine List.forall_mem_cons.mpr ⟨ok_zret C rfl (show decode cX11_isMan 13 = .ok (.ireturn, 1) from dk_at dq35_14 (i := 9) rfl), ?_⟩
  exact fun _ h => absurd h List.not_mem_nil
def L_X11_isDead (f_X11_bitOf : List Value → ab_H → Option ab_O) : List (Nat × ab_A) := [
  (0, ab_nx 1 (ab_aload 0)),
  (1, ab_nx 4 (ab_getf 11 6)),
  (4, ab_nx 7 (ab_lit (.int 180))),
  (7, ab_nx 8 (ab_ald 1)),
  (8, ab_nx 9 (ab_iload 1)),
  (9, ab_nx 12 (ab_call 2 f_X11_bitOf 0 0 0 0)),
  (12, ab_zret 0 0)]
set_option maxRecDepth 100000 in
theorem dq35_15 : ([(0, .aload_n 0, 1), (1, .getfield 33, 3), (4, .sipush 180, 3), (7, .iaload, 1), (8, .iload_n 1, 1), (9, .invokestatic 221, 3), (12, .ireturn, 1)] : List (Nat × Instr × Nat)).all (fun q => decide (decode cX11_isDead q.1 = .ok q.2)) = true := by decide +kernel
set_option maxRecDepth 100000 in
set_option maxHeartbeats 4000000 in
theorem M_X11_isDead {l : Launch} {b : ab_B} {D : va_G} {cA : Nat → ClassId} {f_X11_bitOf : List Value → ab_H → Option ab_O} (h_X11_bitOf : ab_M l b D ab_cl cA (ab_E0 b) yX11_bitOf (Cond.code yX11_bitOf cX11_bitOf 2 (some .boolean) :: ab_G) ({ frames := 1, cells := 0, slots := 0, locals := 100 } : Room) f_X11_bitOf) : ab_M l b D ab_cl cA (ab_E0 b) yX11_isDead (Cond.code yX11_isDead cX11_isDead 2 (some .boolean) :: ab_G) ({ frames := 2, cells := 0, slots := 0, locals := 200 } : Room) (ab_X (ab_T (L_X11_isDead f_X11_bitOf)) 2) := by
  refine ab_meth (ret := (some .boolean)) (L_X11_isDead f_X11_bitOf) (by decide) rfl fun p e R s m args below meth c o C => ?_
  unfold L_X11_isDead
  refine List.forall_mem_cons.mpr ⟨ok_aload_n C (show decode cX11_isDead 0 = .ok (.aload_n 0, 1) from dk_at dq35_15 (i := 0) rfl) rfl rfl, ?_⟩
  refine List.forall_mem_cons.mpr ⟨ok_getf C (wi_X11) rfl (by decide) kw_1186 (show decode cX11_isDead 1 = .ok (.getfield 33, 3) from dk_at dq35_15 (i := 1) rfl) rfl, ?_⟩
  refine List.forall_mem_cons.mpr ⟨ok_sipush C (show decode cX11_isDead 4 = .ok (.sipush 180, 3) from dk_at dq35_15 (i := 2) rfl) (by decide) rfl, ?_⟩
  refine List.forall_mem_cons.mpr ⟨ok_iaload C (show decode cX11_isDead 7 = .ok (.iaload, 1) from dk_at dq35_15 (i := 3) rfl) rfl, ?_⟩
  refine List.forall_mem_cons.mpr ⟨ok_iload_n C (show decode cX11_isDead 8 = .ok (.iload_n 1, 1) from dk_at dq35_15 (i := 4) rfl) rfl rfl, ?_⟩
  refine List.forall_mem_cons.mpr ⟨ok_callS C h_X11_bitOf ⟨rfl, rfl⟩ kw_1382 kw_1380 kw_1381 kw_11 ds_X11_bitOf ⟨by decide, by decide⟩ (show decode cX11_isDead 9 = .ok (.invokestatic 221, 3) from dk_at dq35_15 (i := 5) rfl) rfl, ?_⟩
  refine List.forall_mem_cons.mpr ⟨ok_zret C rfl (show decode cX11_isDead 12 = .ok (.ireturn, 1) from dk_at dq35_15 (i := 6) rfl), ?_⟩
  exact fun _ h => absurd h List.not_mem_nil
def L_X11_cell : List (Nat × ab_A) := [
  (0, ab_nx 1 (ab_lit (.int 2))),
  (1, ab_nx 2 (ab_iload 0)),
  (2, ab_nx 3 (ab_bin (fun x y => x * y))),
  (3, ab_nx 4 (ab_iload 1)),
  (4, ab_nx 5 (ab_bin (fun x y => x + y))),
  (5, ab_ret 0 0)]
set_option maxRecDepth 100000 in
theorem dq35_16 : ([(0, .iconst 2, 1), (1, .iload_n 0, 1), (2, .imul, 1), (3, .iload_n 1, 1), (4, .iadd, 1), (5, .ireturn, 1)] : List (Nat × Instr × Nat)).all (fun q => decide (decode cX11_cell q.1 = .ok q.2)) = true := by decide +kernel
set_option maxRecDepth 100000 in
set_option maxHeartbeats 4000000 in
theorem M_X11_cell {l : Launch} {b : ab_B} {D : va_G} {cA : Nat → ClassId} : ab_M l b D ab_cl cA (ab_E0 b) yX11_cell (Cond.code yX11_cell cX11_cell 2 (some .int) :: ab_G) ({ frames := 1, cells := 0, slots := 0, locals := 100 } : Room) (ab_X (ab_T L_X11_cell) 2) := by
  refine ab_meth (ret := (some .int)) L_X11_cell (by decide) rfl fun p e R s m args below meth c o C => ?_
  unfold L_X11_cell
  refine List.forall_mem_cons.mpr ⟨ok_iconst C (show decode cX11_cell 0 = .ok (.iconst 2, 1) from dk_at dq35_16 (i := 0) rfl) (by decide) rfl, ?_⟩
  refine List.forall_mem_cons.mpr ⟨ok_iload_n C (show decode cX11_cell 1 = .ok (.iload_n 0, 1) from dk_at dq35_16 (i := 1) rfl) rfl rfl, ?_⟩
  refine List.forall_mem_cons.mpr ⟨ok_imul C (show decode cX11_cell 2 = .ok (.imul, 1) from dk_at dq35_16 (i := 2) rfl) rfl, ?_⟩
  refine List.forall_mem_cons.mpr ⟨ok_iload_n C (show decode cX11_cell 3 = .ok (.iload_n 1, 1) from dk_at dq35_16 (i := 3) rfl) rfl rfl, ?_⟩
  refine List.forall_mem_cons.mpr ⟨ok_iadd C (show decode cX11_cell 4 = .ok (.iadd, 1) from dk_at dq35_16 (i := 4) rfl) rfl, ?_⟩
  refine List.forall_mem_cons.mpr ⟨ok_ret C rfl (show decode cX11_cell 5 = .ok (.ireturn, 1) from dk_at dq35_16 (i := 5) rfl), ?_⟩
  exact fun _ h => absurd h List.not_mem_nil
def L_X11_lackOf (f_X11_cell : List Value → ab_H → Option ab_O) : List (Nat × ab_A) := [
  (0, ab_nx 1 (ab_aload 0)),
  (1, ab_nx 4 (ab_getf 11 6)),
  (4, ab_nx 6 (ab_lit (.int 16))),
  (6, ab_nx 7 (ab_iload 1)),
  (7, ab_nx 8 (ab_iload 2)),
  (8, ab_nx 11 (ab_call 2 f_X11_cell 0 0 0 0)),
  (11, ab_nx 12 (ab_bin (fun x y => x + y))),
  (12, ab_nx 13 (ab_ald 1)),
  (13, ab_nx 14 (ab_aload 0)),
  (14, ab_nx 17 (ab_getf 11 6)),
  (17, ab_nx 19 (ab_lit (.int 124))),
  (19, ab_nx 20 (ab_iload 1)),
  (20, ab_nx 21 (ab_iload 2)),
  (21, ab_nx 24 (ab_call 2 f_X11_cell 0 0 0 0)),
  (24, ab_nx 25 (ab_bin (fun x y => x + y))),
  (25, ab_nx 26 (ab_ald 1)),
  (26, ab_nx 27 (ab_bin (fun x y => x - y))),
  (27, ab_nx 28 (ab_istore 3)),
  (28, ab_nx 29 (ab_iload 3)),
  (29, ab_if 32 36 (fun x => decide (x ≤ 0))),
  (32, ab_nx 33 (ab_iload 3)),
  (33, ab_goto 37),
  (36, ab_nx 37 (ab_lit (.int 0))),
  (37, ab_ret 0 0)]
set_option maxRecDepth 100000 in
theorem dq35_17 : ([(0, .aload_n 0, 1), (1, .getfield 33, 3), (4, .bipush 16, 2), (6, .iload_n 1, 1), (7, .iload_n 2, 1), (8, .invokestatic 245, 3), (11, .iadd, 1), (12, .iaload, 1), (13, .aload_n 0, 1), (14, .getfield 33, 3), (17, .bipush 124, 2), (19, .iload_n 1, 1), (20, .iload_n 2, 1), (21, .invokestatic 245, 3), (24, .iadd, 1), (25, .iaload, 1)] : List (Nat × Instr × Nat)).all (fun q => decide (decode cX11_lackOf q.1 = .ok q.2)) = true := by decide +kernel
set_option maxRecDepth 100000 in
theorem dq35_18 : ([(26, .isub, 1), (27, .istore_n 3, 1), (28, .iload_n 3, 1), (29, .ifCond .le 7, 3), (32, .iload_n 3, 1), (33, .goto 4, 3), (36, .iconst 0, 1), (37, .ireturn, 1)] : List (Nat × Instr × Nat)).all (fun q => decide (decode cX11_lackOf q.1 = .ok q.2)) = true := by decide +kernel
set_option maxRecDepth 100000 in
set_option maxHeartbeats 4000000 in
theorem M_X11_lackOf {l : Launch} {b : ab_B} {D : va_G} {cA : Nat → ClassId} {f_X11_cell : List Value → ab_H → Option ab_O} (h_X11_cell : ab_M l b D ab_cl cA (ab_E0 b) yX11_cell (Cond.code yX11_cell cX11_cell 2 (some .int) :: ab_G) ({ frames := 1, cells := 0, slots := 0, locals := 100 } : Room) f_X11_cell) : ab_M l b D ab_cl cA (ab_E0 b) yX11_lackOf (Cond.code yX11_lackOf cX11_lackOf 4 (some .int) :: ab_G) ({ frames := 2, cells := 0, slots := 0, locals := 200 } : Room) (ab_X (ab_T (L_X11_lackOf f_X11_cell)) 4) := by
  refine ab_meth (ret := (some .int)) (L_X11_lackOf f_X11_cell) (by decide) rfl fun p e R s m args below meth c o C => ?_
  unfold L_X11_lackOf
  refine List.forall_mem_cons.mpr ⟨ok_aload_n C (show decode cX11_lackOf 0 = .ok (.aload_n 0, 1) from dk_at dq35_17 (i := 0) rfl) rfl rfl, ?_⟩
  refine List.forall_mem_cons.mpr ⟨ok_getf C (wi_X11) rfl (by decide) kw_1186 (show decode cX11_lackOf 1 = .ok (.getfield 33, 3) from dk_at dq35_17 (i := 1) rfl) rfl, ?_⟩
  refine List.forall_mem_cons.mpr ⟨ok_bipush C (show decode cX11_lackOf 4 = .ok (.bipush 16, 2) from dk_at dq35_17 (i := 2) rfl) (by decide) rfl, ?_⟩
  refine List.forall_mem_cons.mpr ⟨ok_iload_n C (show decode cX11_lackOf 6 = .ok (.iload_n 1, 1) from dk_at dq35_17 (i := 3) rfl) rfl rfl, ?_⟩
  refine List.forall_mem_cons.mpr ⟨ok_iload_n C (show decode cX11_lackOf 7 = .ok (.iload_n 2, 1) from dk_at dq35_17 (i := 4) rfl) rfl rfl, ?_⟩
  refine List.forall_mem_cons.mpr ⟨ok_callS C h_X11_cell ⟨rfl, rfl⟩ kw_1413 kw_1411 kw_1412 kw_11 ds_X11_cell ⟨by decide, by decide⟩ (show decode cX11_lackOf 8 = .ok (.invokestatic 245, 3) from dk_at dq35_17 (i := 5) rfl) rfl, ?_⟩
  refine List.forall_mem_cons.mpr ⟨ok_iadd C (show decode cX11_lackOf 11 = .ok (.iadd, 1) from dk_at dq35_17 (i := 6) rfl) rfl, ?_⟩
  refine List.forall_mem_cons.mpr ⟨ok_iaload C (show decode cX11_lackOf 12 = .ok (.iaload, 1) from dk_at dq35_17 (i := 7) rfl) rfl, ?_⟩
  refine List.forall_mem_cons.mpr ⟨ok_aload_n C (show decode cX11_lackOf 13 = .ok (.aload_n 0, 1) from dk_at dq35_17 (i := 8) rfl) rfl rfl, ?_⟩
  refine List.forall_mem_cons.mpr ⟨ok_getf C (wi_X11) rfl (by decide) kw_1186 (show decode cX11_lackOf 14 = .ok (.getfield 33, 3) from dk_at dq35_17 (i := 9) rfl) rfl, ?_⟩
  refine List.forall_mem_cons.mpr ⟨ok_bipush C (show decode cX11_lackOf 17 = .ok (.bipush 124, 2) from dk_at dq35_17 (i := 10) rfl) (by decide) rfl, ?_⟩
  refine List.forall_mem_cons.mpr ⟨ok_iload_n C (show decode cX11_lackOf 19 = .ok (.iload_n 1, 1) from dk_at dq35_17 (i := 11) rfl) rfl rfl, ?_⟩
  refine List.forall_mem_cons.mpr ⟨ok_iload_n C (show decode cX11_lackOf 20 = .ok (.iload_n 2, 1) from dk_at dq35_17 (i := 12) rfl) rfl rfl, ?_⟩
  refine List.forall_mem_cons.mpr ⟨ok_callS C h_X11_cell ⟨rfl, rfl⟩ kw_1413 kw_1411 kw_1412 kw_11 ds_X11_cell ⟨by decide, by decide⟩ (show decode cX11_lackOf 21 = .ok (.invokestatic 245, 3) from dk_at dq35_17 (i := 13) rfl) rfl, ?_⟩
  refine List.forall_mem_cons.mpr ⟨ok_iadd C (show decode cX11_lackOf 24 = .ok (.iadd, 1) from dk_at dq35_17 (i := 14) rfl) rfl, ?_⟩
  refine List.forall_mem_cons.mpr ⟨ok_iaload C (show decode cX11_lackOf 25 = .ok (.iaload, 1) from dk_at dq35_17 (i := 15) rfl) rfl, ?_⟩
  refine List.forall_mem_cons.mpr ⟨ok_isub C (show decode cX11_lackOf 26 = .ok (.isub, 1) from dk_at dq35_18 (i := 0) rfl) rfl, ?_⟩
  refine List.forall_mem_cons.mpr ⟨ok_istore_n C (show decode cX11_lackOf 27 = .ok (.istore_n 3, 1) from dk_at dq35_18 (i := 1) rfl) rfl (by decide) rfl, ?_⟩
  refine List.forall_mem_cons.mpr ⟨ok_iload_n C (show decode cX11_lackOf 28 = .ok (.iload_n 3, 1) from dk_at dq35_18 (i := 2) rfl) rfl rfl, ?_⟩
  refine List.forall_mem_cons.mpr ⟨ok_ifle C (show decode cX11_lackOf 29 = .ok (.ifCond .le 7, 3) from dk_at dq35_18 (i := 3) rfl) (tg := 36) (by decide) rfl rfl, ?_⟩
  refine List.forall_mem_cons.mpr ⟨ok_iload_n C (show decode cX11_lackOf 32 = .ok (.iload_n 3, 1) from dk_at dq35_18 (i := 4) rfl) rfl rfl, ?_⟩
  refine List.forall_mem_cons.mpr ⟨ok_goto C (show decode cX11_lackOf 33 = .ok (.goto 4, 3) from dk_at dq35_18 (i := 5) rfl) (tg := 37) (by decide) rfl, ?_⟩
  refine List.forall_mem_cons.mpr ⟨ok_iconst C (show decode cX11_lackOf 36 = .ok (.iconst 0, 1) from dk_at dq35_18 (i := 6) rfl) (by decide) rfl, ?_⟩
  refine List.forall_mem_cons.mpr ⟨ok_ret C rfl (show decode cX11_lackOf 37 = .ok (.ireturn, 1) from dk_at dq35_18 (i := 7) rfl), ?_⟩
  exact fun _ h => absurd h List.not_mem_nil
def L_X11_isFalse (f_X11_lackOf : List Value → ab_H → Option ab_O) (f_X11_cell : List Value → ab_H → Option ab_O) : List (Nat × ab_A) := [
  (0, ab_nx 1 (ab_aload 0)),
  (1, ab_nx 2 (ab_iload 1)),
  (2, ab_nx 3 (ab_iload 2)),
  (3, ab_nx 6 (ab_callV 3 11 f_X11_lackOf 0 0 0 0)),
  (6, ab_if 9 36 (fun x => decide (x ≤ 0))),
  (9, ab_nx 10 (ab_aload 0)),
  (10, ab_nx 11 (ab_iload 1)),
  (11, ab_nx 12 (ab_iload 2)),
  (12, ab_nx 15 (ab_callV 3 11 f_X11_lackOf 0 0 0 0)),
  (15, ab_nx 16 (ab_aload 0)),
  (16, ab_nx 19 (ab_getf 11 6)),
  (19, ab_nx 22 (ab_lit (.int 136))),
  (22, ab_nx 23 (ab_iload 1)),
  (23, ab_nx 24 (ab_iload 2)),
  (24, ab_nx 27 (ab_call 2 f_X11_cell 0 0 0 0)),
  (27, ab_nx 28 (ab_bin (fun x y => x + y))),
  (28, ab_nx 29 (ab_ald 1)),
  (29, ab_icmp 32 36 (fun x y => decide (y < x))),
  (32, ab_nx 33 (ab_lit (.int 1))),
  (33, ab_goto 37),
  (36, ab_nx 37 (ab_lit (.int 0))),
  (37, ab_zret 0 0)]
set_option maxRecDepth 100000 in
theorem dq35_19 : ([(0, .aload_n 0, 1), (1, .iload_n 1, 1), (2, .iload_n 2, 1), (3, .invokevirtual 248, 3), (6, .ifCond .le 30, 3), (9, .aload_n 0, 1), (10, .iload_n 1, 1), (11, .iload_n 2, 1), (12, .invokevirtual 248, 3), (15, .aload_n 0, 1), (16, .getfield 33, 3), (19, .sipush 136, 3), (22, .iload_n 1, 1), (23, .iload_n 2, 1), (24, .invokestatic 245, 3), (27, .iadd, 1)] : List (Nat × Instr × Nat)).all (fun q => decide (decode cX11_isFalse q.1 = .ok q.2)) = true := by decide +kernel
set_option maxRecDepth 100000 in
theorem dq35_20 : ([(28, .iaload, 1), (29, .if_icmp .gt 7, 3), (32, .iconst 1, 1), (33, .goto 4, 3), (36, .iconst 0, 1), (37, .ireturn, 1)] : List (Nat × Instr × Nat)).all (fun q => decide (decode cX11_isFalse q.1 = .ok q.2)) = true := by decide +kernel
set_option maxRecDepth 100000 in
set_option maxHeartbeats 4000000 in
theorem M_X11_isFalse {l : Launch} {b : ab_B} {D : va_G} {cA : Nat → ClassId} {f_X11_lackOf : List Value → ab_H → Option ab_O} (h_X11_lackOf : ab_M l b D ab_cl cA (ab_E0 b) yX11_lackOf (Cond.code yX11_lackOf cX11_lackOf 4 (some .int) :: ab_G) ({ frames := 2, cells := 0, slots := 0, locals := 200 } : Room) f_X11_lackOf) {f_X11_cell : List Value → ab_H → Option ab_O} (h_X11_cell : ab_M l b D ab_cl cA (ab_E0 b) yX11_cell (Cond.code yX11_cell cX11_cell 2 (some .int) :: ab_G) ({ frames := 1, cells := 0, slots := 0, locals := 100 } : Room) f_X11_cell) : ab_M l b D ab_cl cA (ab_E0 b) yX11_isFalse (Cond.code yX11_isFalse cX11_isFalse 3 (some .boolean) :: ab_G) ({ frames := 3, cells := 0, slots := 0, locals := 300 } : Room) (ab_X (ab_T (L_X11_isFalse f_X11_lackOf f_X11_cell)) 3) := by
  refine ab_meth (ret := (some .boolean)) (L_X11_isFalse f_X11_lackOf f_X11_cell) (by decide) rfl fun p e R s m args below meth c o C => ?_
  unfold L_X11_isFalse
  refine List.forall_mem_cons.mpr ⟨ok_aload_n C (show decode cX11_isFalse 0 = .ok (.aload_n 0, 1) from dk_at dq35_19 (i := 0) rfl) rfl rfl, ?_⟩
  refine List.forall_mem_cons.mpr ⟨ok_iload_n C (show decode cX11_isFalse 1 = .ok (.iload_n 1, 1) from dk_at dq35_19 (i := 1) rfl) rfl rfl, ?_⟩
  refine List.forall_mem_cons.mpr ⟨ok_iload_n C (show decode cX11_isFalse 2 = .ok (.iload_n 2, 1) from dk_at dq35_19 (i := 2) rfl) rfl rfl, ?_⟩
  refine List.forall_mem_cons.mpr ⟨ok_callV C h_X11_lackOf ⟨rfl, rfl⟩ rfl kw_1417 kw_1414 kw_1416 kp_67 kw_11 rfl ds_X11_lackOf ⟨by decide, by decide⟩ (show decode cX11_isFalse 3 = .ok (.invokevirtual 248, 3) from dk_at dq35_19 (i := 3) rfl) rfl, ?_⟩
  refine List.forall_mem_cons.mpr ⟨ok_ifle C (show decode cX11_isFalse 6 = .ok (.ifCond .le 30, 3) from dk_at dq35_19 (i := 4) rfl) (tg := 36) (by decide) rfl rfl, ?_⟩
  refine List.forall_mem_cons.mpr ⟨ok_aload_n C (show decode cX11_isFalse 9 = .ok (.aload_n 0, 1) from dk_at dq35_19 (i := 5) rfl) rfl rfl, ?_⟩
  refine List.forall_mem_cons.mpr ⟨ok_iload_n C (show decode cX11_isFalse 10 = .ok (.iload_n 1, 1) from dk_at dq35_19 (i := 6) rfl) rfl rfl, ?_⟩
  refine List.forall_mem_cons.mpr ⟨ok_iload_n C (show decode cX11_isFalse 11 = .ok (.iload_n 2, 1) from dk_at dq35_19 (i := 7) rfl) rfl rfl, ?_⟩
  refine List.forall_mem_cons.mpr ⟨ok_callV C h_X11_lackOf ⟨rfl, rfl⟩ rfl kw_1417 kw_1414 kw_1416 kp_67 kw_11 rfl ds_X11_lackOf ⟨by decide, by decide⟩ (show decode cX11_isFalse 12 = .ok (.invokevirtual 248, 3) from dk_at dq35_19 (i := 8) rfl) rfl, ?_⟩
  refine List.forall_mem_cons.mpr ⟨ok_aload_n C (show decode cX11_isFalse 15 = .ok (.aload_n 0, 1) from dk_at dq35_19 (i := 9) rfl) rfl rfl, ?_⟩
  refine List.forall_mem_cons.mpr ⟨ok_getf C (wi_X11) rfl (by decide) kw_1186 (show decode cX11_isFalse 16 = .ok (.getfield 33, 3) from dk_at dq35_19 (i := 10) rfl) rfl, ?_⟩
  refine List.forall_mem_cons.mpr ⟨ok_sipush C (show decode cX11_isFalse 19 = .ok (.sipush 136, 3) from dk_at dq35_19 (i := 11) rfl) (by decide) rfl, ?_⟩
  refine List.forall_mem_cons.mpr ⟨ok_iload_n C (show decode cX11_isFalse 22 = .ok (.iload_n 1, 1) from dk_at dq35_19 (i := 12) rfl) rfl rfl, ?_⟩
  refine List.forall_mem_cons.mpr ⟨ok_iload_n C (show decode cX11_isFalse 23 = .ok (.iload_n 2, 1) from dk_at dq35_19 (i := 13) rfl) rfl rfl, ?_⟩
  refine List.forall_mem_cons.mpr ⟨ok_callS C h_X11_cell ⟨rfl, rfl⟩ kw_1413 kw_1411 kw_1412 kw_11 ds_X11_cell ⟨by decide, by decide⟩ (show decode cX11_isFalse 24 = .ok (.invokestatic 245, 3) from dk_at dq35_19 (i := 14) rfl) rfl, ?_⟩
  refine List.forall_mem_cons.mpr ⟨ok_iadd C (show decode cX11_isFalse 27 = .ok (.iadd, 1) from dk_at dq35_19 (i := 15) rfl) rfl, ?_⟩
  refine List.forall_mem_cons.mpr ⟨ok_iaload C (show decode cX11_isFalse 28 = .ok (.iaload, 1) from dk_at dq35_20 (i := 0) rfl) rfl, ?_⟩
  refine List.forall_mem_cons.mpr ⟨ok_icmpgt C (show decode cX11_isFalse 29 = .ok (.if_icmp .gt 7, 3) from dk_at dq35_20 (i := 1) rfl) (tg := 36) (by decide) rfl rfl, ?_⟩
  refine List.forall_mem_cons.mpr ⟨ok_iconst C (show decode cX11_isFalse 32 = .ok (.iconst 1, 1) from dk_at dq35_20 (i := 2) rfl) (by decide) rfl, ?_⟩
  refine List.forall_mem_cons.mpr ⟨ok_goto C (show decode cX11_isFalse 33 = .ok (.goto 4, 3) from dk_at dq35_20 (i := 3) rfl) (tg := 37) (by decide) rfl, ?_⟩
  refine List.forall_mem_cons.mpr ⟨ok_iconst C (show decode cX11_isFalse 36 = .ok (.iconst 0, 1) from dk_at dq35_20 (i := 4) rfl) (by decide) rfl, ?_⟩
  refine List.forall_mem_cons.mpr ⟨ok_zret C rfl (show decode cX11_isFalse 37 = .ok (.ireturn, 1) from dk_at dq35_20 (i := 5) rfl), ?_⟩
  exact fun _ h => absurd h List.not_mem_nil
def L_X11_good (f_X11_isPlace : List Value → ab_H → Option ab_O) (f_X11_cell : List Value → ab_H → Option ab_O) (f_X11_lackOf : List Value → ab_H → Option ab_O) (f_X11_isFalse : List Value → ab_H → Option ab_O) : List (Nat × ab_A) := [
  (0, ab_nx 1 (ab_aload 0)),
  (1, ab_nx 2 (ab_lit (.int 0))),
  (2, ab_nx 5 (ab_putf 11 0 0)),
  (5, ab_nx 6 (ab_aload 0)),
  (6, ab_nx 7 (ab_iload 1)),
  (7, ab_nx 8 (ab_iload 2)),
  (8, ab_nx 11 (ab_callV 3 11 f_X11_isPlace 0 0 0 0)),
  (11, ab_if 14 16 (fun x => !decide (x = 0))),
  (14, ab_nx 15 (ab_lit (.int (-1)))),
  (15, ab_ret 0 0),
  (16, ab_nx 17 (ab_iload 1)),
  (17, ab_nx 18 (ab_iload 2)),
  (18, ab_nx 21 (ab_call 2 f_X11_cell 0 0 0 0)),
  (21, ab_nx 23 (ab_istore 4)),
  (23, ab_nx 24 (ab_iload 3)),
  (24, ab_tab 0 [72, 83, 95, 106, 117, 128, 135, 150] 162),
  (72, ab_nx 73 (ab_aload 0)),
  (73, ab_nx 76 (ab_getf 11 6)),
  (76, ab_nx 78 (ab_lit (.int 124))),
  (78, ab_nx 80 (ab_iload 4)),
  (80, ab_nx 81 (ab_bin (fun x y => x + y))),
  (81, ab_nx 82 (ab_ald 1)),
  (82, ab_ret 0 0),
  (83, ab_nx 84 (ab_aload 0)),
  (84, ab_nx 87 (ab_getf 11 6)),
  (87, ab_nx 90 (ab_lit (.int 136))),
  (90, ab_nx 92 (ab_iload 4)),
  (92, ab_nx 93 (ab_bin (fun x y => x + y))),
  (93, ab_nx 94 (ab_ald 1)),
  (94, ab_ret 0 0),
  (95, ab_nx 96 (ab_aload 0)),
  (96, ab_nx 99 (ab_getf 11 6)),
  (99, ab_nx 101 (ab_lit (.int 16))),
  (101, ab_nx 103 (ab_iload 4)),
  (103, ab_nx 104 (ab_bin (fun x y => x + y))),
  (104, ab_nx 105 (ab_ald 1)),
  (105, ab_ret 0 0),
  (106, ab_nx 107 (ab_aload 0)),
  (107, ab_nx 110 (ab_getf 11 6)),
  (110, ab_nx 112 (ab_lit (.int 28))),
  (112, ab_nx 114 (ab_iload 4)),
  (114, ab_nx 115 (ab_bin (fun x y => x + y))),
  (115, ab_nx 116 (ab_ald 1)),
  (116, ab_ret 0 0),
  (117, ab_nx 118 (ab_aload 0)),
  (118, ab_nx 121 (ab_getf 11 6)),
  (121, ab_nx 123 (ab_lit (.int 40))),
  (123, ab_nx 125 (ab_iload 4)),
  (125, ab_nx 126 (ab_bin (fun x y => x + y))),
  (126, ab_nx 127 (ab_ald 1)),
  (127, ab_ret 0 0),
  (128, ab_nx 129 (ab_aload 0)),
  (129, ab_nx 130 (ab_iload 1)),
  (130, ab_nx 131 (ab_iload 2)),
  (131, ab_nx 134 (ab_callV 3 11 f_X11_lackOf 0 0 0 0)),
  (134, ab_ret 0 0),
  (135, ab_nx 136 (ab_aload 0)),
  (136, ab_nx 137 (ab_iload 1)),
  (137, ab_nx 138 (ab_iload 2)),
  (138, ab_nx 141 (ab_callV 3 11 f_X11_isFalse 0 0 0 0)),
  (141, ab_if 144 148 (fun x => decide (x = 0))),
  (144, ab_nx 145 (ab_lit (.int 1))),
  (145, ab_goto 149),
  (148, ab_nx 149 (ab_lit (.int 0))),
  (149, ab_ret 0 0),
  (150, ab_nx 151 (ab_aload 0)),
  (151, ab_nx 154 (ab_getf 11 6)),
  (154, ab_nx 157 (ab_lit (.int 148))),
  (157, ab_nx 159 (ab_iload 4)),
  (159, ab_nx 160 (ab_bin (fun x y => x + y))),
  (160, ab_nx 161 (ab_ald 1)),
  (161, ab_ret 0 0),
  (162, ab_nx 163 (ab_lit (.int (-1)))),
  (163, ab_ret 0 0)]
set_option maxRecDepth 100000 in
theorem dq35_21 : ([(0, .aload_n 0, 1), (1, .iconst 0, 1), (2, .putfield 1, 3), (5, .aload_n 0, 1), (6, .iload_n 1, 1), (7, .iload_n 2, 1), (8, .invokevirtual 251, 3), (11, .ifCond .ne 5, 3), (14, .iconst (-1), 1), (15, .ireturn, 1), (16, .iload_n 1, 1), (17, .iload_n 2, 1), (18, .invokestatic 245, 3), (21, .istore 4, 2), (23, .iload_n 3, 1), (24, .tableswitch 138 0 7 #[48, 59, 71, 82, 93, 104, 111, 126], 48)] : List (Nat × Instr × Nat)).all (fun q => decide (decode cX11_good q.1 = .ok q.2)) = true := by decide +kernel
set_option maxRecDepth 100000 in
theorem dq35_22 : ([(72, .aload_n 0, 1), (73, .getfield 33, 3), (76, .bipush 124, 2), (78, .iload 4, 2), (80, .iadd, 1), (81, .iaload, 1), (82, .ireturn, 1), (83, .aload_n 0, 1), (84, .getfield 33, 3), (87, .sipush 136, 3), (90, .iload 4, 2), (92, .iadd, 1), (93, .iaload, 1), (94, .ireturn, 1), (95, .aload_n 0, 1), (96, .getfield 33, 3)] : List (Nat × Instr × Nat)).all (fun q => decide (decode cX11_good q.1 = .ok q.2)) = true := by decide +kernel
set_option maxRecDepth 100000 in
theorem dq35_23 : ([(99, .bipush 16, 2), (101, .iload 4, 2), (103, .iadd, 1), (104, .iaload, 1), (105, .ireturn, 1), (106, .aload_n 0, 1), (107, .getfield 33, 3), (110, .bipush 28, 2), (112, .iload 4, 2), (114, .iadd, 1), (115, .iaload, 1), (116, .ireturn, 1), (117, .aload_n 0, 1), (118, .getfield 33, 3), (121, .bipush 40, 2), (123, .iload 4, 2)] : List (Nat × Instr × Nat)).all (fun q => decide (decode cX11_good q.1 = .ok q.2)) = true := by decide +kernel
set_option maxRecDepth 100000 in
theorem dq35_24 : ([(125, .iadd, 1), (126, .iaload, 1), (127, .ireturn, 1), (128, .aload_n 0, 1), (129, .iload_n 1, 1), (130, .iload_n 2, 1), (131, .invokevirtual 248, 3), (134, .ireturn, 1), (135, .aload_n 0, 1), (136, .iload_n 1, 1), (137, .iload_n 2, 1), (138, .invokevirtual 254, 3), (141, .ifCond .eq 7, 3), (144, .iconst 1, 1), (145, .goto 4, 3), (148, .iconst 0, 1)] : List (Nat × Instr × Nat)).all (fun q => decide (decode cX11_good q.1 = .ok q.2)) = true := by decide +kernel
set_option maxRecDepth 100000 in
theorem dq35_25 : ([(149, .ireturn, 1), (150, .aload_n 0, 1), (151, .getfield 33, 3), (154, .sipush 148, 3), (157, .iload 4, 2), (159, .iadd, 1), (160, .iaload, 1), (161, .ireturn, 1), (162, .iconst (-1), 1), (163, .ireturn, 1)] : List (Nat × Instr × Nat)).all (fun q => decide (decode cX11_good q.1 = .ok q.2)) = true := by decide +kernel
set_option maxRecDepth 100000 in
set_option maxHeartbeats 4000000 in
theorem M_X11_good {l : Launch} {b : ab_B} {D : va_G} {cA : Nat → ClassId} {f_X11_isPlace : List Value → ab_H → Option ab_O} (h_X11_isPlace : ab_M l b D ab_cl cA (ab_E0 b) yX11_isPlace (Cond.code yX11_isPlace cX11_isPlace 3 (some .boolean) :: ab_G) ({ frames := 3, cells := 0, slots := 0, locals := 300 } : Room) f_X11_isPlace) {f_X11_cell : List Value → ab_H → Option ab_O} (h_X11_cell : ab_M l b D ab_cl cA (ab_E0 b) yX11_cell (Cond.code yX11_cell cX11_cell 2 (some .int) :: ab_G) ({ frames := 1, cells := 0, slots := 0, locals := 100 } : Room) f_X11_cell) {f_X11_lackOf : List Value → ab_H → Option ab_O} (h_X11_lackOf : ab_M l b D ab_cl cA (ab_E0 b) yX11_lackOf (Cond.code yX11_lackOf cX11_lackOf 4 (some .int) :: ab_G) ({ frames := 2, cells := 0, slots := 0, locals := 200 } : Room) f_X11_lackOf) {f_X11_isFalse : List Value → ab_H → Option ab_O} (h_X11_isFalse : ab_M l b D ab_cl cA (ab_E0 b) yX11_isFalse (Cond.code yX11_isFalse cX11_isFalse 3 (some .boolean) :: ab_G) ({ frames := 3, cells := 0, slots := 0, locals := 300 } : Room) f_X11_isFalse) : ab_M l b D ab_cl cA (ab_E0 b) yX11_good (Cond.code yX11_good cX11_good 5 (some .int) :: ab_G) ({ frames := 4, cells := 0, slots := 0, locals := 400 } : Room) (ab_X (ab_T (L_X11_good f_X11_isPlace f_X11_cell f_X11_lackOf f_X11_isFalse)) 5) := by
  refine ab_meth (ret := (some .int)) (L_X11_good f_X11_isPlace f_X11_cell f_X11_lackOf f_X11_isFalse) (by decide) rfl fun p e R s m args below meth c o C => ?_
  unfold L_X11_good
  refine List.forall_mem_cons.mpr ⟨ok_aload_n C (show decode cX11_good 0 = .ok (.aload_n 0, 1) from dk_at dq35_21 (i := 0) rfl) rfl rfl, ?_⟩
  refine List.forall_mem_cons.mpr ⟨ok_iconst C (show decode cX11_good 1 = .ok (.iconst 0, 1) from dk_at dq35_21 (i := 1) rfl) (by decide) rfl, ?_⟩
  refine List.forall_mem_cons.mpr ⟨ok_putf C (wi_X11) tyX11 tyX11_ok nmX11 rfl (by decide) kw_1180 (Or.inl rfl) (Or.inl ⟨rfl, rfl⟩) (show decode cX11_good 2 = .ok (.putfield 1, 3) from dk_at dq35_21 (i := 2) rfl) rfl, ?_⟩
  refine List.forall_mem_cons.mpr ⟨ok_aload_n C (show decode cX11_good 5 = .ok (.aload_n 0, 1) from dk_at dq35_21 (i := 3) rfl) rfl rfl, ?_⟩
  refine List.forall_mem_cons.mpr ⟨ok_iload_n C (show decode cX11_good 6 = .ok (.iload_n 1, 1) from dk_at dq35_21 (i := 4) rfl) rfl rfl, ?_⟩
  refine List.forall_mem_cons.mpr ⟨ok_iload_n C (show decode cX11_good 7 = .ok (.iload_n 2, 1) from dk_at dq35_21 (i := 5) rfl) rfl rfl, ?_⟩
  refine List.forall_mem_cons.mpr ⟨ok_callV C h_X11_isPlace ⟨rfl, rfl⟩ rfl kw_1402 kw_1399 kw_1401 kp_64 kw_11 rfl ds_X11_isPlace ⟨by decide, by decide⟩ (show decode cX11_good 8 = .ok (.invokevirtual 251, 3) from dk_at dq35_21 (i := 6) rfl) rfl, ?_⟩
  refine List.forall_mem_cons.mpr ⟨ok_ifne C (show decode cX11_good 11 = .ok (.ifCond .ne 5, 3) from dk_at dq35_21 (i := 7) rfl) (tg := 16) (by decide) rfl rfl, ?_⟩
  refine List.forall_mem_cons.mpr ⟨ok_iconst C (show decode cX11_good 14 = .ok (.iconst (-1), 1) from dk_at dq35_21 (i := 8) rfl) (by decide) rfl, ?_⟩
  refine List.forall_mem_cons.mpr ⟨ok_ret C rfl (show decode cX11_good 15 = .ok (.ireturn, 1) from dk_at dq35_21 (i := 9) rfl), ?_⟩
  refine List.forall_mem_cons.mpr ⟨ok_iload_n C (show decode cX11_good 16 = .ok (.iload_n 1, 1) from dk_at dq35_21 (i := 10) rfl) rfl rfl, ?_⟩
  refine List.forall_mem_cons.mpr ⟨ok_iload_n C (show decode cX11_good 17 = .ok (.iload_n 2, 1) from dk_at dq35_21 (i := 11) rfl) rfl rfl, ?_⟩
  refine List.forall_mem_cons.mpr ⟨ok_callS C h_X11_cell ⟨rfl, rfl⟩ kw_1413 kw_1411 kw_1412 kw_11 ds_X11_cell ⟨by decide, by decide⟩ (show decode cX11_good 18 = .ok (.invokestatic 245, 3) from dk_at dq35_21 (i := 12) rfl) rfl, ?_⟩
  refine List.forall_mem_cons.mpr ⟨ok_istore C (show decode cX11_good 21 = .ok (.istore 4, 2) from dk_at dq35_21 (i := 13) rfl) (by decide) rfl, ?_⟩
  refine List.forall_mem_cons.mpr ⟨ok_iload_n C (show decode cX11_good 23 = .ok (.iload_n 3, 1) from dk_at dq35_21 (i := 14) rfl) rfl rfl, ?_⟩
  refine List.forall_mem_cons.mpr ⟨ok_tab C (show decode cX11_good 24 = .ok (.tableswitch 138 0 7 #[48, 59, 71, 82, 93, 104, 111, 126], 48) from dk_at dq35_21 (i := 15) rfl) (by decide) (by decide) (by decide), ?_⟩
  refine List.forall_mem_cons.mpr ⟨ok_aload_n C (show decode cX11_good 72 = .ok (.aload_n 0, 1) from dk_at dq35_22 (i := 0) rfl) rfl rfl, ?_⟩
  refine List.forall_mem_cons.mpr ⟨ok_getf C (wi_X11) rfl (by decide) kw_1186 (show decode cX11_good 73 = .ok (.getfield 33, 3) from dk_at dq35_22 (i := 1) rfl) rfl, ?_⟩
  refine List.forall_mem_cons.mpr ⟨ok_bipush C (show decode cX11_good 76 = .ok (.bipush 124, 2) from dk_at dq35_22 (i := 2) rfl) (by decide) rfl, ?_⟩
  refine List.forall_mem_cons.mpr ⟨ok_iload C (show decode cX11_good 78 = .ok (.iload 4, 2) from dk_at dq35_22 (i := 3) rfl) rfl, ?_⟩
  refine List.forall_mem_cons.mpr ⟨ok_iadd C (show decode cX11_good 80 = .ok (.iadd, 1) from dk_at dq35_22 (i := 4) rfl) rfl, ?_⟩
  refine List.forall_mem_cons.mpr ⟨ok_iaload C (show decode cX11_good 81 = .ok (.iaload, 1) from dk_at dq35_22 (i := 5) rfl) rfl, ?_⟩
  refine List.forall_mem_cons.mpr ⟨ok_ret C rfl (show decode cX11_good 82 = .ok (.ireturn, 1) from dk_at dq35_22 (i := 6) rfl), ?_⟩
  refine List.forall_mem_cons.mpr ⟨ok_aload_n C (show decode cX11_good 83 = .ok (.aload_n 0, 1) from dk_at dq35_22 (i := 7) rfl) rfl rfl, ?_⟩
  refine List.forall_mem_cons.mpr ⟨ok_getf C (wi_X11) rfl (by decide) kw_1186 (show decode cX11_good 84 = .ok (.getfield 33, 3) from dk_at dq35_22 (i := 8) rfl) rfl, ?_⟩
  refine List.forall_mem_cons.mpr ⟨ok_sipush C (show decode cX11_good 87 = .ok (.sipush 136, 3) from dk_at dq35_22 (i := 9) rfl) (by decide) rfl, ?_⟩
  refine List.forall_mem_cons.mpr ⟨ok_iload C (show decode cX11_good 90 = .ok (.iload 4, 2) from dk_at dq35_22 (i := 10) rfl) rfl, ?_⟩
  refine List.forall_mem_cons.mpr ⟨ok_iadd C (show decode cX11_good 92 = .ok (.iadd, 1) from dk_at dq35_22 (i := 11) rfl) rfl, ?_⟩
  refine List.forall_mem_cons.mpr ⟨ok_iaload C (show decode cX11_good 93 = .ok (.iaload, 1) from dk_at dq35_22 (i := 12) rfl) rfl, ?_⟩
  refine List.forall_mem_cons.mpr ⟨ok_ret C rfl (show decode cX11_good 94 = .ok (.ireturn, 1) from dk_at dq35_22 (i := 13) rfl), ?_⟩
  refine List.forall_mem_cons.mpr ⟨ok_aload_n C (show decode cX11_good 95 = .ok (.aload_n 0, 1) from dk_at dq35_22 (i := 14) rfl) rfl rfl, ?_⟩
  refine List.forall_mem_cons.mpr ⟨ok_getf C (wi_X11) rfl (by decide) kw_1186 (show decode cX11_good 96 = .ok (.getfield 33, 3) from dk_at dq35_22 (i := 15) rfl) rfl, ?_⟩
  refine List.forall_mem_cons.mpr ⟨ok_bipush C (show decode cX11_good 99 = .ok (.bipush 16, 2) from dk_at dq35_23 (i := 0) rfl) (by decide) rfl, ?_⟩
  refine List.forall_mem_cons.mpr ⟨ok_iload C (show decode cX11_good 101 = .ok (.iload 4, 2) from dk_at dq35_23 (i := 1) rfl) rfl, ?_⟩
  refine List.forall_mem_cons.mpr ⟨ok_iadd C (show decode cX11_good 103 = .ok (.iadd, 1) from dk_at dq35_23 (i := 2) rfl) rfl, ?_⟩
  refine List.forall_mem_cons.mpr ⟨ok_iaload C (show decode cX11_good 104 = .ok (.iaload, 1) from dk_at dq35_23 (i := 3) rfl) rfl, ?_⟩
  refine List.forall_mem_cons.mpr ⟨ok_ret C rfl (show decode cX11_good 105 = .ok (.ireturn, 1) from dk_at dq35_23 (i := 4) rfl), ?_⟩
  refine List.forall_mem_cons.mpr ⟨ok_aload_n C (show decode cX11_good 106 = .ok (.aload_n 0, 1) from dk_at dq35_23 (i := 5) rfl) rfl rfl, ?_⟩
  refine List.forall_mem_cons.mpr ⟨ok_getf C (wi_X11) rfl (by decide) kw_1186 (show decode cX11_good 107 = .ok (.getfield 33, 3) from dk_at dq35_23 (i := 6) rfl) rfl, ?_⟩
  refine List.forall_mem_cons.mpr ⟨ok_bipush C (show decode cX11_good 110 = .ok (.bipush 28, 2) from dk_at dq35_23 (i := 7) rfl) (by decide) rfl, ?_⟩
  refine List.forall_mem_cons.mpr ⟨ok_iload C (show decode cX11_good 112 = .ok (.iload 4, 2) from dk_at dq35_23 (i := 8) rfl) rfl, ?_⟩
  refine List.forall_mem_cons.mpr ⟨ok_iadd C (show decode cX11_good 114 = .ok (.iadd, 1) from dk_at dq35_23 (i := 9) rfl) rfl, ?_⟩
  refine List.forall_mem_cons.mpr ⟨ok_iaload C (show decode cX11_good 115 = .ok (.iaload, 1) from dk_at dq35_23 (i := 10) rfl) rfl, ?_⟩
  refine List.forall_mem_cons.mpr ⟨ok_ret C rfl (show decode cX11_good 116 = .ok (.ireturn, 1) from dk_at dq35_23 (i := 11) rfl), ?_⟩
  refine List.forall_mem_cons.mpr ⟨ok_aload_n C (show decode cX11_good 117 = .ok (.aload_n 0, 1) from dk_at dq35_23 (i := 12) rfl) rfl rfl, ?_⟩
  refine List.forall_mem_cons.mpr ⟨ok_getf C (wi_X11) rfl (by decide) kw_1186 (show decode cX11_good 118 = .ok (.getfield 33, 3) from dk_at dq35_23 (i := 13) rfl) rfl, ?_⟩
  refine List.forall_mem_cons.mpr ⟨ok_bipush C (show decode cX11_good 121 = .ok (.bipush 40, 2) from dk_at dq35_23 (i := 14) rfl) (by decide) rfl, ?_⟩
  refine List.forall_mem_cons.mpr ⟨ok_iload C (show decode cX11_good 123 = .ok (.iload 4, 2) from dk_at dq35_23 (i := 15) rfl) rfl, ?_⟩
  refine List.forall_mem_cons.mpr ⟨ok_iadd C (show decode cX11_good 125 = .ok (.iadd, 1) from dk_at dq35_24 (i := 0) rfl) rfl, ?_⟩
  refine List.forall_mem_cons.mpr ⟨ok_iaload C (show decode cX11_good 126 = .ok (.iaload, 1) from dk_at dq35_24 (i := 1) rfl) rfl, ?_⟩
  refine List.forall_mem_cons.mpr ⟨ok_ret C rfl (show decode cX11_good 127 = .ok (.ireturn, 1) from dk_at dq35_24 (i := 2) rfl), ?_⟩
  refine List.forall_mem_cons.mpr ⟨ok_aload_n C (show decode cX11_good 128 = .ok (.aload_n 0, 1) from dk_at dq35_24 (i := 3) rfl) rfl rfl, ?_⟩
  refine List.forall_mem_cons.mpr ⟨ok_iload_n C (show decode cX11_good 129 = .ok (.iload_n 1, 1) from dk_at dq35_24 (i := 4) rfl) rfl rfl, ?_⟩
  refine List.forall_mem_cons.mpr ⟨ok_iload_n C (show decode cX11_good 130 = .ok (.iload_n 2, 1) from dk_at dq35_24 (i := 5) rfl) rfl rfl, ?_⟩
  refine List.forall_mem_cons.mpr ⟨ok_callV C h_X11_lackOf ⟨rfl, rfl⟩ rfl kw_1417 kw_1414 kw_1416 kp_67 kw_11 rfl ds_X11_lackOf ⟨by decide, by decide⟩ (show decode cX11_good 131 = .ok (.invokevirtual 248, 3) from dk_at dq35_24 (i := 6) rfl) rfl, ?_⟩
  refine List.forall_mem_cons.mpr ⟨ok_ret C rfl (show decode cX11_good 134 = .ok (.ireturn, 1) from dk_at dq35_24 (i := 7) rfl), ?_⟩
  refine List.forall_mem_cons.mpr ⟨ok_aload_n C (show decode cX11_good 135 = .ok (.aload_n 0, 1) from dk_at dq35_24 (i := 8) rfl) rfl rfl, ?_⟩
  refine List.forall_mem_cons.mpr ⟨ok_iload_n C (show decode cX11_good 136 = .ok (.iload_n 1, 1) from dk_at dq35_24 (i := 9) rfl) rfl rfl, ?_⟩
  refine List.forall_mem_cons.mpr ⟨ok_iload_n C (show decode cX11_good 137 = .ok (.iload_n 2, 1) from dk_at dq35_24 (i := 10) rfl) rfl rfl, ?_⟩
  refine List.forall_mem_cons.mpr ⟨ok_callV C h_X11_isFalse ⟨rfl, rfl⟩ rfl kw_1421 kw_1418 kw_1420 kp_68 kw_11 rfl ds_X11_isFalse ⟨by decide, by decide⟩ (show decode cX11_good 138 = .ok (.invokevirtual 254, 3) from dk_at dq35_24 (i := 11) rfl) rfl, ?_⟩
  refine List.forall_mem_cons.mpr ⟨ok_ifeq C (show decode cX11_good 141 = .ok (.ifCond .eq 7, 3) from dk_at dq35_24 (i := 12) rfl) (tg := 148) (by decide) rfl rfl, ?_⟩
  refine List.forall_mem_cons.mpr ⟨ok_iconst C (show decode cX11_good 144 = .ok (.iconst 1, 1) from dk_at dq35_24 (i := 13) rfl) (by decide) rfl, ?_⟩
  refine List.forall_mem_cons.mpr ⟨ok_goto C (show decode cX11_good 145 = .ok (.goto 4, 3) from dk_at dq35_24 (i := 14) rfl) (tg := 149) (by decide) rfl, ?_⟩
  refine List.forall_mem_cons.mpr ⟨ok_iconst C (show decode cX11_good 148 = .ok (.iconst 0, 1) from dk_at dq35_24 (i := 15) rfl) (by decide) rfl, ?_⟩
  refine List.forall_mem_cons.mpr ⟨ok_ret C rfl (show decode cX11_good 149 = .ok (.ireturn, 1) from dk_at dq35_25 (i := 0) rfl), ?_⟩
  refine List.forall_mem_cons.mpr ⟨ok_aload_n C (show decode cX11_good 150 = .ok (.aload_n 0, 1) from dk_at dq35_25 (i := 1) rfl) rfl rfl, ?_⟩
  refine List.forall_mem_cons.mpr ⟨ok_getf C (wi_X11) rfl (by decide) kw_1186 (show decode cX11_good 151 = .ok (.getfield 33, 3) from dk_at dq35_25 (i := 2) rfl) rfl, ?_⟩
  refine List.forall_mem_cons.mpr ⟨ok_sipush C (show decode cX11_good 154 = .ok (.sipush 148, 3) from dk_at dq35_25 (i := 3) rfl) (by decide) rfl, ?_⟩
  refine List.forall_mem_cons.mpr ⟨ok_iload C (show decode cX11_good 157 = .ok (.iload 4, 2) from dk_at dq35_25 (i := 4) rfl) rfl, ?_⟩
  refine List.forall_mem_cons.mpr ⟨ok_iadd C (show decode cX11_good 159 = .ok (.iadd, 1) from dk_at dq35_25 (i := 5) rfl) rfl, ?_⟩
  refine List.forall_mem_cons.mpr ⟨ok_iaload C (show decode cX11_good 160 = .ok (.iaload, 1) from dk_at dq35_25 (i := 6) rfl) rfl, ?_⟩
  refine List.forall_mem_cons.mpr ⟨ok_ret C rfl (show decode cX11_good 161 = .ok (.ireturn, 1) from dk_at dq35_25 (i := 7) rfl), ?_⟩
  refine List.forall_mem_cons.mpr ⟨ok_iconst C (show decode cX11_good 162 = .ok (.iconst (-1), 1) from dk_at dq35_25 (i := 8) rfl) (by decide) rfl, ?_⟩
  refine List.forall_mem_cons.mpr ⟨ok_ret C rfl (show decode cX11_good 163 = .ok (.ireturn, 1) from dk_at dq35_25 (i := 9) rfl), ?_⟩
  exact fun _ h => absurd h List.not_mem_nil
def L_X11_crossed (f_X11_isPlace : List Value → ab_H → Option ab_O) (f_X11_cell : List Value → ab_H → Option ab_O) : List (Nat × ab_A) := [
  (0, ab_nx 1 (ab_aload 0)),
  (1, ab_nx 2 (ab_lit (.int 0))),
  (2, ab_nx 5 (ab_putf 11 0 0)),
  (5, ab_nx 6 (ab_aload 0)),
  (6, ab_nx 7 (ab_iload 1)),
  (7, ab_nx 8 (ab_iload 2)),
  (8, ab_nx 11 (ab_callV 3 11 f_X11_isPlace 0 0 0 0)),
  (11, ab_if 14 31 (fun x => decide (x = 0))),
  (14, ab_nx 15 (ab_aload 0)),
  (15, ab_nx 18 (ab_getf 11 6)),
  (18, ab_nx 21 (ab_lit (.int 160))),
  (21, ab_nx 22 (ab_iload 1)),
  (22, ab_nx 23 (ab_iload 2)),
  (23, ab_nx 26 (ab_call 2 f_X11_cell 0 0 0 0)),
  (26, ab_nx 27 (ab_bin (fun x y => x + y))),
  (27, ab_nx 28 (ab_ald 1)),
  (28, ab_goto 32),
  (31, ab_nx 32 (ab_lit (.int (-1)))),
  (32, ab_ret 0 0)]
set_option maxRecDepth 100000 in
theorem dq35_26 : ([(0, .aload_n 0, 1), (1, .iconst 0, 1), (2, .putfield 1, 3), (5, .aload_n 0, 1), (6, .iload_n 1, 1), (7, .iload_n 2, 1), (8, .invokevirtual 251, 3), (11, .ifCond .eq 20, 3), (14, .aload_n 0, 1), (15, .getfield 33, 3), (18, .sipush 160, 3), (21, .iload_n 1, 1), (22, .iload_n 2, 1), (23, .invokestatic 245, 3), (26, .iadd, 1), (27, .iaload, 1)] : List (Nat × Instr × Nat)).all (fun q => decide (decode cX11_crossed q.1 = .ok q.2)) = true := by decide +kernel
set_option maxRecDepth 100000 in
theorem dq35_27 : ([(28, .goto 4, 3), (31, .iconst (-1), 1), (32, .ireturn, 1)] : List (Nat × Instr × Nat)).all (fun q => decide (decode cX11_crossed q.1 = .ok q.2)) = true := by decide +kernel
set_option maxRecDepth 100000 in
set_option maxHeartbeats 4000000 in
theorem M_X11_crossed {l : Launch} {b : ab_B} {D : va_G} {cA : Nat → ClassId} {f_X11_isPlace : List Value → ab_H → Option ab_O} (h_X11_isPlace : ab_M l b D ab_cl cA (ab_E0 b) yX11_isPlace (Cond.code yX11_isPlace cX11_isPlace 3 (some .boolean) :: ab_G) ({ frames := 3, cells := 0, slots := 0, locals := 300 } : Room) f_X11_isPlace) {f_X11_cell : List Value → ab_H → Option ab_O} (h_X11_cell : ab_M l b D ab_cl cA (ab_E0 b) yX11_cell (Cond.code yX11_cell cX11_cell 2 (some .int) :: ab_G) ({ frames := 1, cells := 0, slots := 0, locals := 100 } : Room) f_X11_cell) : ab_M l b D ab_cl cA (ab_E0 b) yX11_crossed (Cond.code yX11_crossed cX11_crossed 3 (some .int) :: ab_G) ({ frames := 4, cells := 0, slots := 0, locals := 400 } : Room) (ab_X (ab_T (L_X11_crossed f_X11_isPlace f_X11_cell)) 3) := by
  refine ab_meth (ret := (some .int)) (L_X11_crossed f_X11_isPlace f_X11_cell) (by decide) rfl fun p e R s m args below meth c o C => ?_
  unfold L_X11_crossed
  refine List.forall_mem_cons.mpr ⟨ok_aload_n C (show decode cX11_crossed 0 = .ok (.aload_n 0, 1) from dk_at dq35_26 (i := 0) rfl) rfl rfl, ?_⟩
  refine List.forall_mem_cons.mpr ⟨ok_iconst C (show decode cX11_crossed 1 = .ok (.iconst 0, 1) from dk_at dq35_26 (i := 1) rfl) (by decide) rfl, ?_⟩
  refine List.forall_mem_cons.mpr ⟨ok_putf C (wi_X11) tyX11 tyX11_ok nmX11 rfl (by decide) kw_1180 (Or.inl rfl) (Or.inl ⟨rfl, rfl⟩) (show decode cX11_crossed 2 = .ok (.putfield 1, 3) from dk_at dq35_26 (i := 2) rfl) rfl, ?_⟩
  refine List.forall_mem_cons.mpr ⟨ok_aload_n C (show decode cX11_crossed 5 = .ok (.aload_n 0, 1) from dk_at dq35_26 (i := 3) rfl) rfl rfl, ?_⟩
  refine List.forall_mem_cons.mpr ⟨ok_iload_n C (show decode cX11_crossed 6 = .ok (.iload_n 1, 1) from dk_at dq35_26 (i := 4) rfl) rfl rfl, ?_⟩
  refine List.forall_mem_cons.mpr ⟨ok_iload_n C (show decode cX11_crossed 7 = .ok (.iload_n 2, 1) from dk_at dq35_26 (i := 5) rfl) rfl rfl, ?_⟩
  refine List.forall_mem_cons.mpr ⟨ok_callV C h_X11_isPlace ⟨rfl, rfl⟩ rfl kw_1402 kw_1399 kw_1401 kp_64 kw_11 rfl ds_X11_isPlace ⟨by decide, by decide⟩ (show decode cX11_crossed 8 = .ok (.invokevirtual 251, 3) from dk_at dq35_26 (i := 6) rfl) rfl, ?_⟩
  refine List.forall_mem_cons.mpr ⟨ok_ifeq C (show decode cX11_crossed 11 = .ok (.ifCond .eq 20, 3) from dk_at dq35_26 (i := 7) rfl) (tg := 31) (by decide) rfl rfl, ?_⟩
  refine List.forall_mem_cons.mpr ⟨ok_aload_n C (show decode cX11_crossed 14 = .ok (.aload_n 0, 1) from dk_at dq35_26 (i := 8) rfl) rfl rfl, ?_⟩
  refine List.forall_mem_cons.mpr ⟨ok_getf C (wi_X11) rfl (by decide) kw_1186 (show decode cX11_crossed 15 = .ok (.getfield 33, 3) from dk_at dq35_26 (i := 9) rfl) rfl, ?_⟩
  refine List.forall_mem_cons.mpr ⟨ok_sipush C (show decode cX11_crossed 18 = .ok (.sipush 160, 3) from dk_at dq35_26 (i := 10) rfl) (by decide) rfl, ?_⟩
  refine List.forall_mem_cons.mpr ⟨ok_iload_n C (show decode cX11_crossed 21 = .ok (.iload_n 1, 1) from dk_at dq35_26 (i := 11) rfl) rfl rfl, ?_⟩
  refine List.forall_mem_cons.mpr ⟨ok_iload_n C (show decode cX11_crossed 22 = .ok (.iload_n 2, 1) from dk_at dq35_26 (i := 12) rfl) rfl rfl, ?_⟩
  refine List.forall_mem_cons.mpr ⟨ok_callS C h_X11_cell ⟨rfl, rfl⟩ kw_1413 kw_1411 kw_1412 kw_11 ds_X11_cell ⟨by decide, by decide⟩ (show decode cX11_crossed 23 = .ok (.invokestatic 245, 3) from dk_at dq35_26 (i := 13) rfl) rfl, ?_⟩
  refine List.forall_mem_cons.mpr ⟨ok_iadd C (show decode cX11_crossed 26 = .ok (.iadd, 1) from dk_at dq35_26 (i := 14) rfl) rfl, ?_⟩
  refine List.forall_mem_cons.mpr ⟨ok_iaload C (show decode cX11_crossed 27 = .ok (.iaload, 1) from dk_at dq35_26 (i := 15) rfl) rfl, ?_⟩
  refine List.forall_mem_cons.mpr ⟨ok_goto C (show decode cX11_crossed 28 = .ok (.goto 4, 3) from dk_at dq35_27 (i := 0) rfl) (tg := 32) (by decide) rfl, ?_⟩
  refine List.forall_mem_cons.mpr ⟨ok_iconst C (show decode cX11_crossed 31 = .ok (.iconst (-1), 1) from dk_at dq35_27 (i := 1) rfl) (by decide) rfl, ?_⟩
  refine List.forall_mem_cons.mpr ⟨ok_ret C rfl (show decode cX11_crossed 32 = .ok (.ireturn, 1) from dk_at dq35_27 (i := 2) rfl), ?_⟩
  exact fun _ h => absurd h List.not_mem_nil
def L_X11_areUnlike (f_X11_isDead : List Value → ab_H → Option ab_O) : List (Nat × ab_A) := [
  (0, ab_nx 1 (ab_aload 0)),
  (1, ab_nx 2 (ab_iload 1)),
  (2, ab_nx 5 (ab_callV 2 11 f_X11_isDead 0 0 0 0)),
  (5, ab_if 8 43 (fun x => !decide (x = 0))),
  (8, ab_nx 9 (ab_aload 0)),
  (9, ab_nx 10 (ab_iload 2)),
  (10, ab_nx 13 (ab_callV 2 11 f_X11_isDead 0 0 0 0)),
  (13, ab_if 16 43 (fun x => !decide (x = 0))),
  (16, ab_nx 17 (ab_aload 0)),
  (17, ab_nx 20 (ab_getf 11 6)),
  (20, ab_nx 23 (ab_lit (.int 172))),
  (23, ab_nx 24 (ab_iload 1)),
  (24, ab_nx 25 (ab_bin (fun x y => x + y))),
  (25, ab_nx 26 (ab_ald 1)),
  (26, ab_nx 27 (ab_aload 0)),
  (27, ab_nx 30 (ab_getf 11 6)),
  (30, ab_nx 33 (ab_lit (.int 172))),
  (33, ab_nx 34 (ab_iload 2)),
  (34, ab_nx 35 (ab_bin (fun x y => x + y))),
  (35, ab_nx 36 (ab_ald 1)),
  (36, ab_icmp 39 43 (fun x y => decide (x = y))),
  (39, ab_nx 40 (ab_lit (.int 1))),
  (40, ab_goto 44),
  (43, ab_nx 44 (ab_lit (.int 0))),
  (44, ab_zret 0 0)]
set_option maxRecDepth 100000 in
theorem dq35_28 : ([(0, .aload_n 0, 1), (1, .iload_n 1, 1), (2, .invokevirtual 257, 3), (5, .ifCond .ne 38, 3), (8, .aload_n 0, 1), (9, .iload_n 2, 1), (10, .invokevirtual 257, 3), (13, .ifCond .ne 30, 3), (16, .aload_n 0, 1), (17, .getfield 33, 3), (20, .sipush 172, 3), (23, .iload_n 1, 1), (24, .iadd, 1), (25, .iaload, 1), (26, .aload_n 0, 1), (27, .getfield 33, 3)] : List (Nat × Instr × Nat)).all (fun q => decide (decode cX11_areUnlike q.1 = .ok q.2)) = true := by decide +kernel
set_option maxRecDepth 100000 in
theorem dq35_29 : ([(30, .sipush 172, 3), (33, .iload_n 2, 1), (34, .iadd, 1), (35, .iaload, 1), (36, .if_icmp .eq 7, 3), (39, .iconst 1, 1), (40, .goto 4, 3), (43, .iconst 0, 1), (44, .ireturn, 1)] : List (Nat × Instr × Nat)).all (fun q => decide (decode cX11_areUnlike q.1 = .ok q.2)) = true := by decide +kernel
set_option maxRecDepth 100000 in
set_option maxHeartbeats 4000000 in
theorem M_X11_areUnlike {l : Launch} {b : ab_B} {D : va_G} {cA : Nat → ClassId} {f_X11_isDead : List Value → ab_H → Option ab_O} (h_X11_isDead : ab_M l b D ab_cl cA (ab_E0 b) yX11_isDead (Cond.code yX11_isDead cX11_isDead 2 (some .boolean) :: ab_G) ({ frames := 2, cells := 0, slots := 0, locals := 200 } : Room) f_X11_isDead) : ab_M l b D ab_cl cA (ab_E0 b) yX11_areUnlike (Cond.code yX11_areUnlike cX11_areUnlike 3 (some .boolean) :: ab_G) ({ frames := 3, cells := 0, slots := 0, locals := 300 } : Room) (ab_X (ab_T (L_X11_areUnlike f_X11_isDead)) 3) := by
  refine ab_meth (ret := (some .boolean)) (L_X11_areUnlike f_X11_isDead) (by decide) rfl fun p e R s m args below meth c o C => ?_
  unfold L_X11_areUnlike
  refine List.forall_mem_cons.mpr ⟨ok_aload_n C (show decode cX11_areUnlike 0 = .ok (.aload_n 0, 1) from dk_at dq35_28 (i := 0) rfl) rfl rfl, ?_⟩
  refine List.forall_mem_cons.mpr ⟨ok_iload_n C (show decode cX11_areUnlike 1 = .ok (.iload_n 1, 1) from dk_at dq35_28 (i := 1) rfl) rfl rfl, ?_⟩
  refine List.forall_mem_cons.mpr ⟨ok_callV C h_X11_isDead ⟨rfl, rfl⟩ rfl kw_1441 kw_1438 kw_1440 kp_71 kw_11 rfl ds_X11_isDead ⟨by decide, by decide⟩ (show decode cX11_areUnlike 2 = .ok (.invokevirtual 257, 3) from dk_at dq35_28 (i := 2) rfl) rfl, ?_⟩
  refine List.forall_mem_cons.mpr ⟨ok_ifne C (show decode cX11_areUnlike 5 = .ok (.ifCond .ne 38, 3) from dk_at dq35_28 (i := 3) rfl) (tg := 43) (by decide) rfl rfl, ?_⟩
  refine List.forall_mem_cons.mpr ⟨ok_aload_n C (show decode cX11_areUnlike 8 = .ok (.aload_n 0, 1) from dk_at dq35_28 (i := 4) rfl) rfl rfl, ?_⟩
  refine List.forall_mem_cons.mpr ⟨ok_iload_n C (show decode cX11_areUnlike 9 = .ok (.iload_n 2, 1) from dk_at dq35_28 (i := 5) rfl) rfl rfl, ?_⟩
  refine List.forall_mem_cons.mpr ⟨ok_callV C h_X11_isDead ⟨rfl, rfl⟩ rfl kw_1441 kw_1438 kw_1440 kp_71 kw_11 rfl ds_X11_isDead ⟨by decide, by decide⟩ (show decode cX11_areUnlike 10 = .ok (.invokevirtual 257, 3) from dk_at dq35_28 (i := 6) rfl) rfl, ?_⟩
  refine List.forall_mem_cons.mpr ⟨ok_ifne C (show decode cX11_areUnlike 13 = .ok (.ifCond .ne 30, 3) from dk_at dq35_28 (i := 7) rfl) (tg := 43) (by decide) rfl rfl, ?_⟩
  refine List.forall_mem_cons.mpr ⟨ok_aload_n C (show decode cX11_areUnlike 16 = .ok (.aload_n 0, 1) from dk_at dq35_28 (i := 8) rfl) rfl rfl, ?_⟩
  refine List.forall_mem_cons.mpr ⟨ok_getf C (wi_X11) rfl (by decide) kw_1186 (show decode cX11_areUnlike 17 = .ok (.getfield 33, 3) from dk_at dq35_28 (i := 9) rfl) rfl, ?_⟩
  refine List.forall_mem_cons.mpr ⟨ok_sipush C (show decode cX11_areUnlike 20 = .ok (.sipush 172, 3) from dk_at dq35_28 (i := 10) rfl) (by decide) rfl, ?_⟩
  refine List.forall_mem_cons.mpr ⟨ok_iload_n C (show decode cX11_areUnlike 23 = .ok (.iload_n 1, 1) from dk_at dq35_28 (i := 11) rfl) rfl rfl, ?_⟩
  refine List.forall_mem_cons.mpr ⟨ok_iadd C (show decode cX11_areUnlike 24 = .ok (.iadd, 1) from dk_at dq35_28 (i := 12) rfl) rfl, ?_⟩
  refine List.forall_mem_cons.mpr ⟨ok_iaload C (show decode cX11_areUnlike 25 = .ok (.iaload, 1) from dk_at dq35_28 (i := 13) rfl) rfl, ?_⟩
  refine List.forall_mem_cons.mpr ⟨ok_aload_n C (show decode cX11_areUnlike 26 = .ok (.aload_n 0, 1) from dk_at dq35_28 (i := 14) rfl) rfl rfl, ?_⟩
  refine List.forall_mem_cons.mpr ⟨ok_getf C (wi_X11) rfl (by decide) kw_1186 (show decode cX11_areUnlike 27 = .ok (.getfield 33, 3) from dk_at dq35_28 (i := 15) rfl) rfl, ?_⟩
  refine List.forall_mem_cons.mpr ⟨ok_sipush C (show decode cX11_areUnlike 30 = .ok (.sipush 172, 3) from dk_at dq35_29 (i := 0) rfl) (by decide) rfl, ?_⟩
  refine List.forall_mem_cons.mpr ⟨ok_iload_n C (show decode cX11_areUnlike 33 = .ok (.iload_n 2, 1) from dk_at dq35_29 (i := 1) rfl) rfl rfl, ?_⟩
  refine List.forall_mem_cons.mpr ⟨ok_iadd C (show decode cX11_areUnlike 34 = .ok (.iadd, 1) from dk_at dq35_29 (i := 2) rfl) rfl, ?_⟩
  refine List.forall_mem_cons.mpr ⟨ok_iaload C (show decode cX11_areUnlike 35 = .ok (.iaload, 1) from dk_at dq35_29 (i := 3) rfl) rfl, ?_⟩
  refine List.forall_mem_cons.mpr ⟨ok_icmpeq C (show decode cX11_areUnlike 36 = .ok (.if_icmp .eq 7, 3) from dk_at dq35_29 (i := 4) rfl) (tg := 43) (by decide) rfl rfl, ?_⟩
  refine List.forall_mem_cons.mpr ⟨ok_iconst C (show decode cX11_areUnlike 39 = .ok (.iconst 1, 1) from dk_at dq35_29 (i := 5) rfl) (by decide) rfl, ?_⟩
  refine List.forall_mem_cons.mpr ⟨ok_goto C (show decode cX11_areUnlike 40 = .ok (.goto 4, 3) from dk_at dq35_29 (i := 6) rfl) (tg := 44) (by decide) rfl, ?_⟩
  refine List.forall_mem_cons.mpr ⟨ok_iconst C (show decode cX11_areUnlike 43 = .ok (.iconst 0, 1) from dk_at dq35_29 (i := 7) rfl) (by decide) rfl, ?_⟩
  refine List.forall_mem_cons.mpr ⟨ok_zret C rfl (show decode cX11_areUnlike 44 = .ok (.ireturn, 1) from dk_at dq35_29 (i := 8) rfl), ?_⟩
  exact fun _ h => absurd h List.not_mem_nil
def L_X11_doesMiss (f_X11_areUnlike : List Value → ab_H → Option ab_O) : List (Nat × ab_A) := [
  (0, ab_nx 1 (ab_aload 0)),
  (1, ab_nx 2 (ab_iload 1)),
  (2, ab_nx 3 (ab_iload 2)),
  (3, ab_nx 6 (ab_callV 3 11 f_X11_areUnlike 0 0 0 0)),
  (6, ab_if 9 11 (fun x => !decide (x = 0))),
  (9, ab_nx 10 (ab_lit (.int 0))),
  (10, ab_zret 0 0),
  (11, ab_nx 12 (ab_lit (.int 0))),
  (12, ab_nx 13 (ab_istore 3)),
  (13, ab_nx 14 (ab_iload 3)),
  (14, ab_nx 15 (ab_aload 0)),
  (15, ab_nx 18 (ab_getf 11 6)),
  (18, ab_nx 19 (ab_lit (.int 3))),
  (19, ab_nx 20 (ab_ald 1)),
  (20, ab_icmp 23 88 (fun x y => decide (y ≤ x))),
  (23, ab_nx 24 (ab_aload 0)),
  (24, ab_nx 27 (ab_getf 11 6)),
  (27, ab_nx 29 (ab_lit (.int 60))),
  (29, ab_nx 30 (ab_iload 3)),
  (30, ab_nx 31 (ab_bin (fun x y => x + y))),
  (31, ab_nx 32 (ab_ald 1)),
  (32, ab_nx 33 (ab_iload 1)),
  (33, ab_icmp 36 82 (fun x y => !decide (x = y))),
  (36, ab_nx 37 (ab_aload 0)),
  (37, ab_nx 40 (ab_getf 11 6)),
  (40, ab_nx 42 (ab_lit (.int 80))),
  (42, ab_nx 43 (ab_iload 3)),
  (43, ab_nx 44 (ab_bin (fun x y => x + y))),
  (44, ab_nx 45 (ab_ald 1)),
  (45, ab_nx 46 (ab_iload 2)),
  (46, ab_icmp 49 82 (fun x y => !decide (x = y))),
  (49, ab_nx 50 (ab_aload 0)),
  (50, ab_nx 53 (ab_getf 11 6)),
  (53, ab_nx 56 (ab_lit (.int 189))),
  (56, ab_nx 58 (ab_lit (.int 8))),
  (58, ab_nx 59 (ab_iload 1)),
  (59, ab_nx 60 (ab_bin (fun x y => x * y))),
  (60, ab_nx 61 (ab_bin (fun x y => x + y))),
  (61, ab_nx 62 (ab_iload 2)),
  (62, ab_nx 63 (ab_bin (fun x y => x + y))),
  (63, ab_nx 64 (ab_ald 1)),
  (64, ab_nx 65 (ab_aload 0)),
  (65, ab_nx 68 (ab_getf 11 6)),
  (68, ab_nx 70 (ab_lit (.int 100))),
  (70, ab_nx 71 (ab_iload 3)),
  (71, ab_nx 72 (ab_bin (fun x y => x + y))),
  (72, ab_nx 73 (ab_ald 1)),
  (73, ab_icmp 76 80 (fun x y => decide (x < y))),
  (76, ab_nx 77 (ab_lit (.int 1))),
  (77, ab_goto 81),
  (80, ab_nx 81 (ab_lit (.int 0))),
  (81, ab_zret 0 0),
  (82, ab_nx 85 (ab_iinc 3 1)),
  (85, ab_goto 13),
  (88, ab_nx 89 (ab_lit (.int 0))),
  (89, ab_zret 0 0)]
set_option maxRecDepth 100000 in
theorem dq35_30 : ([(0, .aload_n 0, 1), (1, .iload_n 1, 1), (2, .iload_n 2, 1), (3, .invokevirtual 260, 3), (6, .ifCond .ne 5, 3), (9, .iconst 0, 1), (10, .ireturn, 1), (11, .iconst 0, 1), (12, .istore_n 3, 1), (13, .iload_n 3, 1), (14, .aload_n 0, 1), (15, .getfield 33, 3), (18, .iconst 3, 1), (19, .iaload, 1), (20, .if_icmp .ge 68, 3), (23, .aload_n 0, 1)] : List (Nat × Instr × Nat)).all (fun q => decide (decode cX11_doesMiss q.1 = .ok q.2)) = true := by decide +kernel
set_option maxRecDepth 100000 in
theorem dq35_31 : ([(24, .getfield 33, 3), (27, .bipush 60, 2), (29, .iload_n 3, 1), (30, .iadd, 1), (31, .iaload, 1), (32, .iload_n 1, 1), (33, .if_icmp .ne 49, 3), (36, .aload_n 0, 1), (37, .getfield 33, 3), (40, .bipush 80, 2), (42, .iload_n 3, 1), (43, .iadd, 1), (44, .iaload, 1), (45, .iload_n 2, 1), (46, .if_icmp .ne 36, 3), (49, .aload_n 0, 1)] : List (Nat × Instr × Nat)).all (fun q => decide (decode cX11_doesMiss q.1 = .ok q.2)) = true := by decide +kernel
set_option maxRecDepth 100000 in
theorem dq35_32 : ([(50, .getfield 33, 3), (53, .sipush 189, 3), (56, .bipush 8, 2), (58, .iload_n 1, 1), (59, .imul, 1), (60, .iadd, 1), (61, .iload_n 2, 1), (62, .iadd, 1), (63, .iaload, 1), (64, .aload_n 0, 1), (65, .getfield 33, 3), (68, .bipush 100, 2), (70, .iload_n 3, 1), (71, .iadd, 1), (72, .iaload, 1), (73, .if_icmp .lt 7, 3)] : List (Nat × Instr × Nat)).all (fun q => decide (decode cX11_doesMiss q.1 = .ok q.2)) = true := by decide +kernel
set_option maxRecDepth 100000 in
theorem dq35_33 : ([(76, .iconst 1, 1), (77, .goto 4, 3), (80, .iconst 0, 1), (81, .ireturn, 1), (82, .iinc 3 1, 3), (85, .goto (-72), 3), (88, .iconst 0, 1), (89, .ireturn, 1)] : List (Nat × Instr × Nat)).all (fun q => decide (decode cX11_doesMiss q.1 = .ok q.2)) = true := by decide +kernel
set_option maxRecDepth 100000 in
set_option maxHeartbeats 4000000 in
theorem M_X11_doesMiss {l : Launch} {b : ab_B} {D : va_G} {cA : Nat → ClassId} {f_X11_areUnlike : List Value → ab_H → Option ab_O} (h_X11_areUnlike : ab_M l b D ab_cl cA (ab_E0 b) yX11_areUnlike (Cond.code yX11_areUnlike cX11_areUnlike 3 (some .boolean) :: ab_G) ({ frames := 3, cells := 0, slots := 0, locals := 300 } : Room) f_X11_areUnlike) : ab_M l b D ab_cl cA (ab_E0 b) yX11_doesMiss (Cond.code yX11_doesMiss cX11_doesMiss 4 (some .boolean) :: ab_G) ({ frames := 4, cells := 0, slots := 0, locals := 400 } : Room) (ab_X (ab_T (L_X11_doesMiss f_X11_areUnlike)) 4) := by
  refine ab_meth (ret := (some .boolean)) (L_X11_doesMiss f_X11_areUnlike) (by decide) rfl fun p e R s m args below meth c o C => ?_
  unfold L_X11_doesMiss
  refine List.forall_mem_cons.mpr ⟨ok_aload_n C (show decode cX11_doesMiss 0 = .ok (.aload_n 0, 1) from dk_at dq35_30 (i := 0) rfl) rfl rfl, ?_⟩
  refine List.forall_mem_cons.mpr ⟨ok_iload_n C (show decode cX11_doesMiss 1 = .ok (.iload_n 1, 1) from dk_at dq35_30 (i := 1) rfl) rfl rfl, ?_⟩
  refine List.forall_mem_cons.mpr ⟨ok_iload_n C (show decode cX11_doesMiss 2 = .ok (.iload_n 2, 1) from dk_at dq35_30 (i := 2) rfl) rfl rfl, ?_⟩
  refine List.forall_mem_cons.mpr ⟨ok_callV C h_X11_areUnlike ⟨rfl, rfl⟩ rfl kw_1453 kw_1450 kw_1452 kp_74 kw_11 rfl ds_X11_areUnlike ⟨by decide, by decide⟩ (show decode cX11_doesMiss 3 = .ok (.invokevirtual 260, 3) from dk_at dq35_30 (i := 3) rfl) rfl, ?_⟩
  refine List.forall_mem_cons.mpr ⟨ok_ifne C (show decode cX11_doesMiss 6 = .ok (.ifCond .ne 5, 3) from dk_at dq35_30 (i := 4) rfl) (tg := 11) (by decide) rfl rfl, ?_⟩
  refine List.forall_mem_cons.mpr ⟨ok_iconst C (show decode cX11_doesMiss 9 = .ok (.iconst 0, 1) from dk_at dq35_30 (i := 5) rfl) (by decide) rfl, ?_⟩
  refine List.forall_mem_cons.mpr ⟨ok_zret C rfl (show decode cX11_doesMiss 10 = .ok (.ireturn, 1) from dk_at dq35_30 (i := 6) rfl), ?_⟩
  refine List.forall_mem_cons.mpr ⟨ok_iconst C (show decode cX11_doesMiss 11 = .ok (.iconst 0, 1) from dk_at dq35_30 (i := 7) rfl) (by decide) rfl, ?_⟩
  refine List.forall_mem_cons.mpr ⟨ok_istore_n C (show decode cX11_doesMiss 12 = .ok (.istore_n 3, 1) from dk_at dq35_30 (i := 8) rfl) rfl (by decide) rfl, ?_⟩
  refine List.forall_mem_cons.mpr ⟨ok_iload_n C (show decode cX11_doesMiss 13 = .ok (.iload_n 3, 1) from dk_at dq35_30 (i := 9) rfl) rfl rfl, ?_⟩
  refine List.forall_mem_cons.mpr ⟨ok_aload_n C (show decode cX11_doesMiss 14 = .ok (.aload_n 0, 1) from dk_at dq35_30 (i := 10) rfl) rfl rfl, ?_⟩
  refine List.forall_mem_cons.mpr ⟨ok_getf C (wi_X11) rfl (by decide) kw_1186 (show decode cX11_doesMiss 15 = .ok (.getfield 33, 3) from dk_at dq35_30 (i := 11) rfl) rfl, ?_⟩
  refine List.forall_mem_cons.mpr ⟨ok_iconst C (show decode cX11_doesMiss 18 = .ok (.iconst 3, 1) from dk_at dq35_30 (i := 12) rfl) (by decide) rfl, ?_⟩
  refine List.forall_mem_cons.mpr ⟨ok_iaload C (show decode cX11_doesMiss 19 = .ok (.iaload, 1) from dk_at dq35_30 (i := 13) rfl) rfl, ?_⟩
  refine List.forall_mem_cons.mpr ⟨ok_icmpge C (show decode cX11_doesMiss 20 = .ok (.if_icmp .ge 68, 3) from dk_at dq35_30 (i := 14) rfl) (tg := 88) (by decide) rfl rfl, ?_⟩
  refine List.forall_mem_cons.mpr ⟨ok_aload_n C (show decode cX11_doesMiss 23 = .ok (.aload_n 0, 1) from dk_at dq35_30 (i := 15) rfl) rfl rfl, ?_⟩
  refine List.forall_mem_cons.mpr ⟨ok_getf C (wi_X11) rfl (by decide) kw_1186 (show decode cX11_doesMiss 24 = .ok (.getfield 33, 3) from dk_at dq35_31 (i := 0) rfl) rfl, ?_⟩
  refine List.forall_mem_cons.mpr ⟨ok_bipush C (show decode cX11_doesMiss 27 = .ok (.bipush 60, 2) from dk_at dq35_31 (i := 1) rfl) (by decide) rfl, ?_⟩
  refine List.forall_mem_cons.mpr ⟨ok_iload_n C (show decode cX11_doesMiss 29 = .ok (.iload_n 3, 1) from dk_at dq35_31 (i := 2) rfl) rfl rfl, ?_⟩
  refine List.forall_mem_cons.mpr ⟨ok_iadd C (show decode cX11_doesMiss 30 = .ok (.iadd, 1) from dk_at dq35_31 (i := 3) rfl) rfl, ?_⟩
  refine List.forall_mem_cons.mpr ⟨ok_iaload C (show decode cX11_doesMiss 31 = .ok (.iaload, 1) from dk_at dq35_31 (i := 4) rfl) rfl, ?_⟩
  refine List.forall_mem_cons.mpr ⟨ok_iload_n C (show decode cX11_doesMiss 32 = .ok (.iload_n 1, 1) from dk_at dq35_31 (i := 5) rfl) rfl rfl, ?_⟩
  refine List.forall_mem_cons.mpr ⟨ok_icmpne C (show decode cX11_doesMiss 33 = .ok (.if_icmp .ne 49, 3) from dk_at dq35_31 (i := 6) rfl) (tg := 82) (by decide) rfl rfl, ?_⟩
  refine List.forall_mem_cons.mpr ⟨ok_aload_n C (show decode cX11_doesMiss 36 = .ok (.aload_n 0, 1) from dk_at dq35_31 (i := 7) rfl) rfl rfl, ?_⟩
  refine List.forall_mem_cons.mpr ⟨ok_getf C (wi_X11) rfl (by decide) kw_1186 (show decode cX11_doesMiss 37 = .ok (.getfield 33, 3) from dk_at dq35_31 (i := 8) rfl) rfl, ?_⟩
  refine List.forall_mem_cons.mpr ⟨ok_bipush C (show decode cX11_doesMiss 40 = .ok (.bipush 80, 2) from dk_at dq35_31 (i := 9) rfl) (by decide) rfl, ?_⟩
  refine List.forall_mem_cons.mpr ⟨ok_iload_n C (show decode cX11_doesMiss 42 = .ok (.iload_n 3, 1) from dk_at dq35_31 (i := 10) rfl) rfl rfl, ?_⟩
  refine List.forall_mem_cons.mpr ⟨ok_iadd C (show decode cX11_doesMiss 43 = .ok (.iadd, 1) from dk_at dq35_31 (i := 11) rfl) rfl, ?_⟩
  refine List.forall_mem_cons.mpr ⟨ok_iaload C (show decode cX11_doesMiss 44 = .ok (.iaload, 1) from dk_at dq35_31 (i := 12) rfl) rfl, ?_⟩
  refine List.forall_mem_cons.mpr ⟨ok_iload_n C (show decode cX11_doesMiss 45 = .ok (.iload_n 2, 1) from dk_at dq35_31 (i := 13) rfl) rfl rfl, ?_⟩
  refine List.forall_mem_cons.mpr ⟨ok_icmpne C (show decode cX11_doesMiss 46 = .ok (.if_icmp .ne 36, 3) from dk_at dq35_31 (i := 14) rfl) (tg := 82) (by decide) rfl rfl, ?_⟩
  refine List.forall_mem_cons.mpr ⟨ok_aload_n C (show decode cX11_doesMiss 49 = .ok (.aload_n 0, 1) from dk_at dq35_31 (i := 15) rfl) rfl rfl, ?_⟩
  refine List.forall_mem_cons.mpr ⟨ok_getf C (wi_X11) rfl (by decide) kw_1186 (show decode cX11_doesMiss 50 = .ok (.getfield 33, 3) from dk_at dq35_32 (i := 0) rfl) rfl, ?_⟩
  refine List.forall_mem_cons.mpr ⟨ok_sipush C (show decode cX11_doesMiss 53 = .ok (.sipush 189, 3) from dk_at dq35_32 (i := 1) rfl) (by decide) rfl, ?_⟩
  refine List.forall_mem_cons.mpr ⟨ok_bipush C (show decode cX11_doesMiss 56 = .ok (.bipush 8, 2) from dk_at dq35_32 (i := 2) rfl) (by decide) rfl, ?_⟩
  refine List.forall_mem_cons.mpr ⟨ok_iload_n C (show decode cX11_doesMiss 58 = .ok (.iload_n 1, 1) from dk_at dq35_32 (i := 3) rfl) rfl rfl, ?_⟩
  refine List.forall_mem_cons.mpr ⟨ok_imul C (show decode cX11_doesMiss 59 = .ok (.imul, 1) from dk_at dq35_32 (i := 4) rfl) rfl, ?_⟩
  refine List.forall_mem_cons.mpr ⟨ok_iadd C (show decode cX11_doesMiss 60 = .ok (.iadd, 1) from dk_at dq35_32 (i := 5) rfl) rfl, ?_⟩
  refine List.forall_mem_cons.mpr ⟨ok_iload_n C (show decode cX11_doesMiss 61 = .ok (.iload_n 2, 1) from dk_at dq35_32 (i := 6) rfl) rfl rfl, ?_⟩
  refine List.forall_mem_cons.mpr ⟨ok_iadd C (show decode cX11_doesMiss 62 = .ok (.iadd, 1) from dk_at dq35_32 (i := 7) rfl) rfl, ?_⟩
  refine List.forall_mem_cons.mpr ⟨ok_iaload C (show decode cX11_doesMiss 63 = .ok (.iaload, 1) from dk_at dq35_32 (i := 8) rfl) rfl, ?_⟩
  refine List.forall_mem_cons.mpr ⟨ok_aload_n C (show decode cX11_doesMiss 64 = .ok (.aload_n 0, 1) from dk_at dq35_32 (i := 9) rfl) rfl rfl, ?_⟩
  refine List.forall_mem_cons.mpr ⟨ok_getf C (wi_X11) rfl (by decide) kw_1186 (show decode cX11_doesMiss 65 = .ok (.getfield 33, 3) from dk_at dq35_32 (i := 10) rfl) rfl, ?_⟩
  refine List.forall_mem_cons.mpr ⟨ok_bipush C (show decode cX11_doesMiss 68 = .ok (.bipush 100, 2) from dk_at dq35_32 (i := 11) rfl) (by decide) rfl, ?_⟩
  refine List.forall_mem_cons.mpr ⟨ok_iload_n C (show decode cX11_doesMiss 70 = .ok (.iload_n 3, 1) from dk_at dq35_32 (i := 12) rfl) rfl rfl, ?_⟩
  refine List.forall_mem_cons.mpr ⟨ok_iadd C (show decode cX11_doesMiss 71 = .ok (.iadd, 1) from dk_at dq35_32 (i := 13) rfl) rfl, ?_⟩
  refine List.forall_mem_cons.mpr ⟨ok_iaload C (show decode cX11_doesMiss 72 = .ok (.iaload, 1) from dk_at dq35_32 (i := 14) rfl) rfl, ?_⟩
  refine List.forall_mem_cons.mpr ⟨ok_icmplt C (show decode cX11_doesMiss 73 = .ok (.if_icmp .lt 7, 3) from dk_at dq35_32 (i := 15) rfl) (tg := 80) (by decide) rfl rfl, ?_⟩
  refine List.forall_mem_cons.mpr ⟨ok_iconst C (show decode cX11_doesMiss 76 = .ok (.iconst 1, 1) from dk_at dq35_33 (i := 0) rfl) (by decide) rfl, ?_⟩
  refine List.forall_mem_cons.mpr ⟨ok_goto C (show decode cX11_doesMiss 77 = .ok (.goto 4, 3) from dk_at dq35_33 (i := 1) rfl) (tg := 81) (by decide) rfl, ?_⟩
  refine List.forall_mem_cons.mpr ⟨ok_iconst C (show decode cX11_doesMiss 80 = .ok (.iconst 0, 1) from dk_at dq35_33 (i := 2) rfl) (by decide) rfl, ?_⟩
  refine List.forall_mem_cons.mpr ⟨ok_zret C rfl (show decode cX11_doesMiss 81 = .ok (.ireturn, 1) from dk_at dq35_33 (i := 3) rfl), ?_⟩
  refine List.forall_mem_cons.mpr ⟨ok_iinc C (show decode cX11_doesMiss 82 = .ok (.iinc 3 1, 3) from dk_at dq35_33 (i := 4) rfl) (by decide) (by decide) rfl, ?_⟩
  refine List.forall_mem_cons.mpr ⟨ok_goto C (show decode cX11_doesMiss 85 = .ok (.goto (-72), 3) from dk_at dq35_33 (i := 5) rfl) (tg := 13) (by decide) rfl, ?_⟩
  refine List.forall_mem_cons.mpr ⟨ok_iconst C (show decode cX11_doesMiss 88 = .ok (.iconst 0, 1) from dk_at dq35_33 (i := 6) rfl) (by decide) rfl, ?_⟩
  refine List.forall_mem_cons.mpr ⟨ok_zret C rfl (show decode cX11_doesMiss 89 = .ok (.ireturn, 1) from dk_at dq35_33 (i := 7) rfl), ?_⟩
  exact fun _ h => absurd h List.not_mem_nil
end
-- 36.m16.lean.txt
section
def L_X11_missedBy (f_X11_doesMiss : List Value → ab_H → Option ab_O) : List (Nat × ab_A) := [
  (0, ab_nx 1 (ab_lit (.int 0))),
  (1, ab_nx 2 (ab_istore 2)),
  (2, ab_nx 3 (ab_lit (.int 0))),
  (3, ab_nx 4 (ab_istore 3)),
  (4, ab_nx 5 (ab_iload 3)),
  (5, ab_nx 6 (ab_aload 0)),
  (6, ab_nx 9 (ab_getf 11 6)),
  (9, ab_nx 10 (ab_lit (.int 1))),
  (10, ab_nx 11 (ab_ald 1)),
  (11, ab_icmp 14 39 (fun x y => decide (y ≤ x))),
  (14, ab_nx 15 (ab_iload 2)),
  (15, ab_nx 16 (ab_aload 0)),
  (16, ab_nx 17 (ab_iload 3)),
  (17, ab_nx 18 (ab_iload 1)),
  (18, ab_nx 21 (ab_callV 3 11 f_X11_doesMiss 0 0 0 0)),
  (21, ab_if 24 30 (fun x => decide (x = 0))),
  (24, ab_nx 25 (ab_lit (.int 1))),
  (25, ab_nx 26 (ab_iload 3)),
  (26, ab_nx 27 (ab_bin (fun x y => x <<< (y &&& 31)))),
  (27, ab_goto 31),
  (30, ab_nx 31 (ab_lit (.int 0))),
  (31, ab_nx 32 (ab_bin (fun x y => x ||| y))),
  (32, ab_nx 33 (ab_istore 2)),
  (33, ab_nx 36 (ab_iinc 3 1)),
  (36, ab_goto 4),
  (39, ab_nx 40 (ab_iload 2)),
  (40, ab_ret 0 0)]
set_option maxRecDepth 100000 in
theorem dq36_0 : ([(0, .iconst 0, 1), (1, .istore_n 2, 1), (2, .iconst 0, 1), (3, .istore_n 3, 1), (4, .iload_n 3, 1), (5, .aload_n 0, 1), (6, .getfield 33, 3), (9, .iconst 1, 1), (10, .iaload, 1), (11, .if_icmp .ge 28, 3), (14, .iload_n 2, 1), (15, .aload_n 0, 1), (16, .iload_n 3, 1), (17, .iload_n 1, 1), (18, .invokevirtual 263, 3), (21, .ifCond .eq 9, 3)] : List (Nat × Instr × Nat)).all (fun q => decide (decode cX11_missedBy q.1 = .ok q.2)) = true := by decide +kernel
set_option maxRecDepth 100000 in
theorem dq36_1 : ([(24, .iconst 1, 1), (25, .iload_n 3, 1), (26, .ishl, 1), (27, .goto 4, 3), (30, .iconst 0, 1), (31, .ior, 1), (32, .istore_n 2, 1), (33, .iinc 3 1, 3), (36, .goto (-32), 3), (39, .iload_n 2, 1), (40, .ireturn, 1)] : List (Nat × Instr × Nat)).all (fun q => decide (decode cX11_missedBy q.1 = .ok q.2)) = true := by decide +kernel
set_option maxRecDepth 100000 in
set_option maxHeartbeats 4000000 in
theorem M_X11_missedBy {l : Launch} {b : ab_B} {D : va_G} {cA : Nat → ClassId} {f_X11_doesMiss : List Value → ab_H → Option ab_O} (h_X11_doesMiss : ab_M l b D ab_cl cA (ab_E0 b) yX11_doesMiss (Cond.code yX11_doesMiss cX11_doesMiss 4 (some .boolean) :: ab_G) ({ frames := 4, cells := 0, slots := 0, locals := 400 } : Room) f_X11_doesMiss) : ab_M l b D ab_cl cA (ab_E0 b) yX11_missedBy (Cond.code yX11_missedBy cX11_missedBy 4 (some .int) :: ab_G) ({ frames := 5, cells := 0, slots := 0, locals := 500 } : Room) (ab_X (ab_T (L_X11_missedBy f_X11_doesMiss)) 4) := by
  refine ab_meth (ret := (some .int)) (L_X11_missedBy f_X11_doesMiss) (by decide) rfl fun p e R s m args below meth c o C => ?_
  unfold L_X11_missedBy
  refine List.forall_mem_cons.mpr ⟨ok_iconst C (show decode cX11_missedBy 0 = .ok (.iconst 0, 1) from dk_at dq36_0 (i := 0) rfl) (by decide) rfl, ?_⟩
  refine List.forall_mem_cons.mpr ⟨ok_istore_n C (show decode cX11_missedBy 1 = .ok (.istore_n 2, 1) from dk_at dq36_0 (i := 1) rfl) rfl (by decide) rfl, ?_⟩
  refine List.forall_mem_cons.mpr ⟨ok_iconst C (show decode cX11_missedBy 2 = .ok (.iconst 0, 1) from dk_at dq36_0 (i := 2) rfl) (by decide) rfl, ?_⟩
  refine List.forall_mem_cons.mpr ⟨ok_istore_n C (show decode cX11_missedBy 3 = .ok (.istore_n 3, 1) from dk_at dq36_0 (i := 3) rfl) rfl (by decide) rfl, ?_⟩
  refine List.forall_mem_cons.mpr ⟨ok_iload_n C (show decode cX11_missedBy 4 = .ok (.iload_n 3, 1) from dk_at dq36_0 (i := 4) rfl) rfl rfl, ?_⟩
  refine List.forall_mem_cons.mpr ⟨ok_aload_n C (show decode cX11_missedBy 5 = .ok (.aload_n 0, 1) from dk_at dq36_0 (i := 5) rfl) rfl rfl, ?_⟩
  refine List.forall_mem_cons.mpr ⟨ok_getf C (wi_X11) rfl (by decide) kw_1186 (show decode cX11_missedBy 6 = .ok (.getfield 33, 3) from dk_at dq36_0 (i := 6) rfl) rfl, ?_⟩
  refine List.forall_mem_cons.mpr ⟨ok_iconst C (show decode cX11_missedBy 9 = .ok (.iconst 1, 1) from dk_at dq36_0 (i := 7) rfl) (by decide) rfl, ?_⟩
  refine List.forall_mem_cons.mpr ⟨ok_iaload C (show decode cX11_missedBy 10 = .ok (.iaload, 1) from dk_at dq36_0 (i := 8) rfl) rfl, ?_⟩
  refine List.forall_mem_cons.mpr ⟨ok_icmpge C (show decode cX11_missedBy 11 = .ok (.if_icmp .ge 28, 3) from dk_at dq36_0 (i := 9) rfl) (tg := 39) (by decide) rfl rfl, ?_⟩
  refine List.forall_mem_cons.mpr ⟨ok_iload_n C (show decode cX11_missedBy 14 = .ok (.iload_n 2, 1) from dk_at dq36_0 (i := 10) rfl) rfl rfl, ?_⟩
  refine List.forall_mem_cons.mpr ⟨ok_aload_n C (show decode cX11_missedBy 15 = .ok (.aload_n 0, 1) from dk_at dq36_0 (i := 11) rfl) rfl rfl, ?_⟩
  refine List.forall_mem_cons.mpr ⟨ok_iload_n C (show decode cX11_missedBy 16 = .ok (.iload_n 3, 1) from dk_at dq36_0 (i := 12) rfl) rfl rfl, ?_⟩
  refine List.forall_mem_cons.mpr ⟨ok_iload_n C (show decode cX11_missedBy 17 = .ok (.iload_n 1, 1) from dk_at dq36_0 (i := 13) rfl) rfl rfl, ?_⟩
  refine List.forall_mem_cons.mpr ⟨ok_callV C h_X11_doesMiss ⟨rfl, rfl⟩ rfl kw_1449 kw_1446 kw_1448 kp_73 kw_11 rfl ds_X11_doesMiss ⟨by decide, by decide⟩ (show decode cX11_missedBy 18 = .ok (.invokevirtual 263, 3) from dk_at dq36_0 (i := 14) rfl) rfl, ?_⟩
  refine List.forall_mem_cons.mpr ⟨ok_ifeq C (show decode cX11_missedBy 21 = .ok (.ifCond .eq 9, 3) from dk_at dq36_0 (i := 15) rfl) (tg := 30) (by decide) rfl rfl, ?_⟩
  refine List.forall_mem_cons.mpr ⟨ok_iconst C (show decode cX11_missedBy 24 = .ok (.iconst 1, 1) from dk_at dq36_1 (i := 0) rfl) (by decide) rfl, ?_⟩
  refine List.forall_mem_cons.mpr ⟨ok_iload_n C (show decode cX11_missedBy 25 = .ok (.iload_n 3, 1) from dk_at dq36_1 (i := 1) rfl) rfl rfl, ?_⟩
  refine List.forall_mem_cons.mpr ⟨ok_ishl C (show decode cX11_missedBy 26 = .ok (.ishl, 1) from dk_at dq36_1 (i := 2) rfl) rfl, ?_⟩
  refine List.forall_mem_cons.mpr ⟨ok_goto C (show decode cX11_missedBy 27 = .ok (.goto 4, 3) from dk_at dq36_1 (i := 3) rfl) (tg := 31) (by decide) rfl, ?_⟩
  refine List.forall_mem_cons.mpr ⟨ok_iconst C (show decode cX11_missedBy 30 = .ok (.iconst 0, 1) from dk_at dq36_1 (i := 4) rfl) (by decide) rfl, ?_⟩
  refine List.forall_mem_cons.mpr ⟨ok_ior C (show decode cX11_missedBy 31 = .ok (.ior, 1) from dk_at dq36_1 (i := 5) rfl) rfl, ?_⟩
  refine List.forall_mem_cons.mpr ⟨ok_istore_n C (show decode cX11_missedBy 32 = .ok (.istore_n 2, 1) from dk_at dq36_1 (i := 6) rfl) rfl (by decide) rfl, ?_⟩
  refine List.forall_mem_cons.mpr ⟨ok_iinc C (show decode cX11_missedBy 33 = .ok (.iinc 3 1, 3) from dk_at dq36_1 (i := 7) rfl) (by decide) (by decide) rfl, ?_⟩
  refine List.forall_mem_cons.mpr ⟨ok_goto C (show decode cX11_missedBy 36 = .ok (.goto (-32), 3) from dk_at dq36_1 (i := 8) rfl) (tg := 4) (by decide) rfl, ?_⟩
  refine List.forall_mem_cons.mpr ⟨ok_iload_n C (show decode cX11_missedBy 39 = .ok (.iload_n 2, 1) from dk_at dq36_1 (i := 9) rfl) rfl rfl, ?_⟩
  refine List.forall_mem_cons.mpr ⟨ok_ret C rfl (show decode cX11_missedBy 40 = .ok (.ireturn, 1) from dk_at dq36_1 (i := 10) rfl), ?_⟩
  exact fun _ h => absurd h List.not_mem_nil
def L_X11_missesOf (f_X11_doesMiss : List Value → ab_H → Option ab_O) : List (Nat × ab_A) := [
  (0, ab_nx 1 (ab_lit (.int 0))),
  (1, ab_nx 2 (ab_istore 2)),
  (2, ab_nx 3 (ab_lit (.int 0))),
  (3, ab_nx 4 (ab_istore 3)),
  (4, ab_nx 5 (ab_iload 3)),
  (5, ab_nx 6 (ab_aload 0)),
  (6, ab_nx 9 (ab_getf 11 6)),
  (9, ab_nx 10 (ab_lit (.int 1))),
  (10, ab_nx 11 (ab_ald 1)),
  (11, ab_icmp 14 39 (fun x y => decide (y ≤ x))),
  (14, ab_nx 15 (ab_iload 2)),
  (15, ab_nx 16 (ab_aload 0)),
  (16, ab_nx 17 (ab_iload 1)),
  (17, ab_nx 18 (ab_iload 3)),
  (18, ab_nx 21 (ab_callV 3 11 f_X11_doesMiss 0 0 0 0)),
  (21, ab_if 24 30 (fun x => decide (x = 0))),
  (24, ab_nx 25 (ab_lit (.int 1))),
  (25, ab_nx 26 (ab_iload 3)),
  (26, ab_nx 27 (ab_bin (fun x y => x <<< (y &&& 31)))),
  (27, ab_goto 31),
  (30, ab_nx 31 (ab_lit (.int 0))),
  (31, ab_nx 32 (ab_bin (fun x y => x ||| y))),
  (32, ab_nx 33 (ab_istore 2)),
  (33, ab_nx 36 (ab_iinc 3 1)),
  (36, ab_goto 4),
  (39, ab_nx 40 (ab_iload 2)),
  (40, ab_ret 0 0)]
set_option maxRecDepth 100000 in
theorem dq36_2 : ([(0, .iconst 0, 1), (1, .istore_n 2, 1), (2, .iconst 0, 1), (3, .istore_n 3, 1), (4, .iload_n 3, 1), (5, .aload_n 0, 1), (6, .getfield 33, 3), (9, .iconst 1, 1), (10, .iaload, 1), (11, .if_icmp .ge 28, 3), (14, .iload_n 2, 1), (15, .aload_n 0, 1), (16, .iload_n 1, 1), (17, .iload_n 3, 1), (18, .invokevirtual 263, 3), (21, .ifCond .eq 9, 3)] : List (Nat × Instr × Nat)).all (fun q => decide (decode cX11_missesOf q.1 = .ok q.2)) = true := by decide +kernel
set_option maxRecDepth 100000 in
theorem dq36_3 : ([(24, .iconst 1, 1), (25, .iload_n 3, 1), (26, .ishl, 1), (27, .goto 4, 3), (30, .iconst 0, 1), (31, .ior, 1), (32, .istore_n 2, 1), (33, .iinc 3 1, 3), (36, .goto (-32), 3), (39, .iload_n 2, 1), (40, .ireturn, 1)] : List (Nat × Instr × Nat)).all (fun q => decide (decode cX11_missesOf q.1 = .ok q.2)) = true := by decide +kernel
set_option maxRecDepth 100000 in
set_option maxHeartbeats 4000000 in
theorem M_X11_missesOf {l : Launch} {b : ab_B} {D : va_G} {cA : Nat → ClassId} {f_X11_doesMiss : List Value → ab_H → Option ab_O} (h_X11_doesMiss : ab_M l b D ab_cl cA (ab_E0 b) yX11_doesMiss (Cond.code yX11_doesMiss cX11_doesMiss 4 (some .boolean) :: ab_G) ({ frames := 4, cells := 0, slots := 0, locals := 400 } : Room) f_X11_doesMiss) : ab_M l b D ab_cl cA (ab_E0 b) yX11_missesOf (Cond.code yX11_missesOf cX11_missesOf 4 (some .int) :: ab_G) ({ frames := 5, cells := 0, slots := 0, locals := 500 } : Room) (ab_X (ab_T (L_X11_missesOf f_X11_doesMiss)) 4) := by
  refine ab_meth (ret := (some .int)) (L_X11_missesOf f_X11_doesMiss) (by decide) rfl fun p e R s m args below meth c o C => ?_
  unfold L_X11_missesOf
  refine List.forall_mem_cons.mpr ⟨ok_iconst C (show decode cX11_missesOf 0 = .ok (.iconst 0, 1) from dk_at dq36_2 (i := 0) rfl) (by decide) rfl, ?_⟩
  refine List.forall_mem_cons.mpr ⟨ok_istore_n C (show decode cX11_missesOf 1 = .ok (.istore_n 2, 1) from dk_at dq36_2 (i := 1) rfl) rfl (by decide) rfl, ?_⟩
  refine List.forall_mem_cons.mpr ⟨ok_iconst C (show decode cX11_missesOf 2 = .ok (.iconst 0, 1) from dk_at dq36_2 (i := 2) rfl) (by decide) rfl, ?_⟩
  refine List.forall_mem_cons.mpr ⟨ok_istore_n C (show decode cX11_missesOf 3 = .ok (.istore_n 3, 1) from dk_at dq36_2 (i := 3) rfl) rfl (by decide) rfl, ?_⟩
  refine List.forall_mem_cons.mpr ⟨ok_iload_n C (show decode cX11_missesOf 4 = .ok (.iload_n 3, 1) from dk_at dq36_2 (i := 4) rfl) rfl rfl, ?_⟩
  refine List.forall_mem_cons.mpr ⟨ok_aload_n C (show decode cX11_missesOf 5 = .ok (.aload_n 0, 1) from dk_at dq36_2 (i := 5) rfl) rfl rfl, ?_⟩
  refine List.forall_mem_cons.mpr ⟨ok_getf C (wi_X11) rfl (by decide) kw_1186 (show decode cX11_missesOf 6 = .ok (.getfield 33, 3) from dk_at dq36_2 (i := 6) rfl) rfl, ?_⟩
  refine List.forall_mem_cons.mpr ⟨ok_iconst C (show decode cX11_missesOf 9 = .ok (.iconst 1, 1) from dk_at dq36_2 (i := 7) rfl) (by decide) rfl, ?_⟩
  refine List.forall_mem_cons.mpr ⟨ok_iaload C (show decode cX11_missesOf 10 = .ok (.iaload, 1) from dk_at dq36_2 (i := 8) rfl) rfl, ?_⟩
  refine List.forall_mem_cons.mpr ⟨ok_icmpge C (show decode cX11_missesOf 11 = .ok (.if_icmp .ge 28, 3) from dk_at dq36_2 (i := 9) rfl) (tg := 39) (by decide) rfl rfl, ?_⟩
  refine List.forall_mem_cons.mpr ⟨ok_iload_n C (show decode cX11_missesOf 14 = .ok (.iload_n 2, 1) from dk_at dq36_2 (i := 10) rfl) rfl rfl, ?_⟩
  refine List.forall_mem_cons.mpr ⟨ok_aload_n C (show decode cX11_missesOf 15 = .ok (.aload_n 0, 1) from dk_at dq36_2 (i := 11) rfl) rfl rfl, ?_⟩
  refine List.forall_mem_cons.mpr ⟨ok_iload_n C (show decode cX11_missesOf 16 = .ok (.iload_n 1, 1) from dk_at dq36_2 (i := 12) rfl) rfl rfl, ?_⟩
  refine List.forall_mem_cons.mpr ⟨ok_iload_n C (show decode cX11_missesOf 17 = .ok (.iload_n 3, 1) from dk_at dq36_2 (i := 13) rfl) rfl rfl, ?_⟩
  refine List.forall_mem_cons.mpr ⟨ok_callV C h_X11_doesMiss ⟨rfl, rfl⟩ rfl kw_1449 kw_1446 kw_1448 kp_73 kw_11 rfl ds_X11_doesMiss ⟨by decide, by decide⟩ (show decode cX11_missesOf 18 = .ok (.invokevirtual 263, 3) from dk_at dq36_2 (i := 14) rfl) rfl, ?_⟩
  refine List.forall_mem_cons.mpr ⟨ok_ifeq C (show decode cX11_missesOf 21 = .ok (.ifCond .eq 9, 3) from dk_at dq36_2 (i := 15) rfl) (tg := 30) (by decide) rfl rfl, ?_⟩
  refine List.forall_mem_cons.mpr ⟨ok_iconst C (show decode cX11_missesOf 24 = .ok (.iconst 1, 1) from dk_at dq36_3 (i := 0) rfl) (by decide) rfl, ?_⟩
  refine List.forall_mem_cons.mpr ⟨ok_iload_n C (show decode cX11_missesOf 25 = .ok (.iload_n 3, 1) from dk_at dq36_3 (i := 1) rfl) rfl rfl, ?_⟩
  refine List.forall_mem_cons.mpr ⟨ok_ishl C (show decode cX11_missesOf 26 = .ok (.ishl, 1) from dk_at dq36_3 (i := 2) rfl) rfl, ?_⟩
  refine List.forall_mem_cons.mpr ⟨ok_goto C (show decode cX11_missesOf 27 = .ok (.goto 4, 3) from dk_at dq36_3 (i := 3) rfl) (tg := 31) (by decide) rfl, ?_⟩
  refine List.forall_mem_cons.mpr ⟨ok_iconst C (show decode cX11_missesOf 30 = .ok (.iconst 0, 1) from dk_at dq36_3 (i := 4) rfl) (by decide) rfl, ?_⟩
  refine List.forall_mem_cons.mpr ⟨ok_ior C (show decode cX11_missesOf 31 = .ok (.ior, 1) from dk_at dq36_3 (i := 5) rfl) rfl, ?_⟩
  refine List.forall_mem_cons.mpr ⟨ok_istore_n C (show decode cX11_missesOf 32 = .ok (.istore_n 2, 1) from dk_at dq36_3 (i := 6) rfl) rfl (by decide) rfl, ?_⟩
  refine List.forall_mem_cons.mpr ⟨ok_iinc C (show decode cX11_missesOf 33 = .ok (.iinc 3 1, 3) from dk_at dq36_3 (i := 7) rfl) (by decide) (by decide) rfl, ?_⟩
  refine List.forall_mem_cons.mpr ⟨ok_goto C (show decode cX11_missesOf 36 = .ok (.goto (-32), 3) from dk_at dq36_3 (i := 8) rfl) (tg := 4) (by decide) rfl, ?_⟩
  refine List.forall_mem_cons.mpr ⟨ok_iload_n C (show decode cX11_missesOf 39 = .ok (.iload_n 2, 1) from dk_at dq36_3 (i := 9) rfl) rfl rfl, ?_⟩
  refine List.forall_mem_cons.mpr ⟨ok_ret C rfl (show decode cX11_missesOf 40 = .ok (.ireturn, 1) from dk_at dq36_3 (i := 10) rfl), ?_⟩
  exact fun _ h => absurd h List.not_mem_nil
def L_X11_man (f_X11_isMan : List Value → ab_H → Option ab_O) (f_X11_isIn : List Value → ab_H → Option ab_O) (f_X11_throwsIf : List Value → ab_H → Option ab_O) (f_X11_isDead : List Value → ab_H → Option ab_O) (f_X11_missedBy : List Value → ab_H → Option ab_O) (f_X11_missesOf : List Value → ab_H → Option ab_O) : List (Nat × ab_A) := [
  (0, ab_nx 1 (ab_aload 0)),
  (1, ab_nx 2 (ab_aload 0)),
  (2, ab_nx 3 (ab_iload 1)),
  (3, ab_nx 6 (ab_callV 2 11 f_X11_isMan 0 0 0 0)),
  (6, ab_if 9 18 (fun x => decide (x = 0))),
  (9, ab_nx 10 (ab_iload 2)),
  (10, ab_nx 11 (ab_lit (.int 0))),
  (11, ab_nx 12 (ab_lit (.int 4))),
  (12, ab_nx 15 (ab_call 3 f_X11_isIn 0 0 0 0)),
  (15, ab_if 18 22 (fun x => !decide (x = 0))),
  (18, ab_nx 19 (ab_lit (.int 1))),
  (19, ab_goto 23),
  (22, ab_nx 23 (ab_lit (.int 0))),
  (23, ab_nx 26 (ab_callV 2 11 f_X11_throwsIf 0 0 0 0)),
  (26, ab_if 29 31 (fun x => decide (x = 0))),
  (29, ab_nx 30 (ab_lit (.int 0))),
  (30, ab_ret 0 0),
  (31, ab_nx 32 (ab_iload 2)),
  (32, ab_tab 0 [64, 87, 93, 99] 110),
  (64, ab_nx 65 (ab_aload 0)),
  (65, ab_nx 66 (ab_iload 1)),
  (66, ab_nx 69 (ab_callV 2 11 f_X11_isDead 0 0 0 0)),
  (69, ab_if 72 76 (fun x => decide (x = 0))),
  (72, ab_nx 73 (ab_lit (.int (-1)))),
  (73, ab_goto 86),
  (76, ab_nx 77 (ab_aload 0)),
  (77, ab_nx 80 (ab_getf 11 6)),
  (80, ab_nx 83 (ab_lit (.int 172))),
  (83, ab_nx 84 (ab_iload 1)),
  (84, ab_nx 85 (ab_bin (fun x y => x + y))),
  (85, ab_nx 86 (ab_ald 1)),
  (86, ab_ret 0 0),
  (87, ab_nx 88 (ab_aload 0)),
  (88, ab_nx 89 (ab_iload 1)),
  (89, ab_nx 92 (ab_callV 2 11 f_X11_missedBy 0 0 0 0)),
  (92, ab_ret 0 0),
  (93, ab_nx 94 (ab_aload 0)),
  (94, ab_nx 95 (ab_iload 1)),
  (95, ab_nx 98 (ab_callV 2 11 f_X11_missesOf 0 0 0 0)),
  (98, ab_ret 0 0),
  (99, ab_nx 100 (ab_aload 0)),
  (100, ab_nx 103 (ab_getf 11 6)),
  (103, ab_nx 106 (ab_lit (.int 181))),
  (106, ab_nx 107 (ab_iload 1)),
  (107, ab_nx 108 (ab_bin (fun x y => x + y))),
  (108, ab_nx 109 (ab_ald 1)),
  (109, ab_ret 0 0),
  (110, ab_nx 111 (ab_aload 0)),
  (111, ab_nx 112 (ab_iload 1)),
  (112, ab_nx 115 (ab_callV 2 11 f_X11_isDead 0 0 0 0)),
  (115, ab_if 118 122 (fun x => decide (x = 0))),
  (118, ab_nx 119 (ab_lit (.int 0))),
  (119, ab_goto 123),
  (122, ab_nx 123 (ab_lit (.int 1))),
  (123, ab_ret 0 0)]
set_option maxRecDepth 100000 in
theorem dq36_4 : ([(0, .aload_n 0, 1), (1, .aload_n 0, 1), (2, .iload_n 1, 1), (3, .invokevirtual 266, 3), (6, .ifCond .eq 12, 3), (9, .iload_n 2, 1), (10, .iconst 0, 1), (11, .iconst 4, 1), (12, .invokestatic 179, 3), (15, .ifCond .ne 7, 3), (18, .iconst 1, 1), (19, .goto 4, 3), (22, .iconst 0, 1), (23, .invokevirtual 269, 3), (26, .ifCond .eq 5, 3), (29, .iconst 0, 1)] : List (Nat × Instr × Nat)).all (fun q => decide (decode cX11_man q.1 = .ok q.2)) = true := by decide +kernel
set_option maxRecDepth 100000 in
theorem dq36_5 : ([(30, .ireturn, 1), (31, .iload_n 2, 1), (32, .tableswitch 78 0 3 #[32, 55, 61, 67], 32), (64, .aload_n 0, 1), (65, .iload_n 1, 1), (66, .invokevirtual 257, 3), (69, .ifCond .eq 7, 3), (72, .iconst (-1), 1), (73, .goto 13, 3), (76, .aload_n 0, 1), (77, .getfield 33, 3), (80, .sipush 172, 3), (83, .iload_n 1, 1), (84, .iadd, 1), (85, .iaload, 1), (86, .ireturn, 1)] : List (Nat × Instr × Nat)).all (fun q => decide (decode cX11_man q.1 = .ok q.2)) = true := by decide +kernel
set_option maxRecDepth 100000 in
theorem dq36_6 : ([(87, .aload_n 0, 1), (88, .iload_n 1, 1), (89, .invokevirtual 273, 3), (92, .ireturn, 1), (93, .aload_n 0, 1), (94, .iload_n 1, 1), (95, .invokevirtual 277, 3), (98, .ireturn, 1), (99, .aload_n 0, 1), (100, .getfield 33, 3), (103, .sipush 181, 3), (106, .iload_n 1, 1), (107, .iadd, 1), (108, .iaload, 1), (109, .ireturn, 1), (110, .aload_n 0, 1)] : List (Nat × Instr × Nat)).all (fun q => decide (decode cX11_man q.1 = .ok q.2)) = true := by decide +kernel
set_option maxRecDepth 100000 in
theorem dq36_7 : ([(111, .iload_n 1, 1), (112, .invokevirtual 257, 3), (115, .ifCond .eq 7, 3), (118, .iconst 0, 1), (119, .goto 4, 3), (122, .iconst 1, 1), (123, .ireturn, 1)] : List (Nat × Instr × Nat)).all (fun q => decide (decode cX11_man q.1 = .ok q.2)) = true := by decide +kernel
set_option maxRecDepth 100000 in
set_option maxHeartbeats 4000000 in
theorem M_X11_man {l : Launch} {b : ab_B} {D : va_G} {cA : Nat → ClassId} {f_X11_isMan : List Value → ab_H → Option ab_O} (h_X11_isMan : ab_M l b D ab_cl cA (ab_E0 b) yX11_isMan (Cond.code yX11_isMan cX11_isMan 2 (some .boolean) :: ab_G) ({ frames := 2, cells := 0, slots := 0, locals := 200 } : Room) f_X11_isMan) {f_X11_isIn : List Value → ab_H → Option ab_O} (h_X11_isIn : ab_M l b D ab_cl cA (ab_E0 b) yX11_isIn (Cond.code yX11_isIn cX11_isIn 3 (some .boolean) :: ab_G) ({ frames := 1, cells := 0, slots := 0, locals := 100 } : Room) f_X11_isIn) {f_X11_throwsIf : List Value → ab_H → Option ab_O} (h_X11_throwsIf : ab_M l b D ab_cl cA (ab_E0 b) yX11_throwsIf (Cond.code yX11_throwsIf cX11_throwsIf 2 (some .boolean) :: ab_G) ({ frames := 1, cells := 0, slots := 0, locals := 100 } : Room) f_X11_throwsIf) {f_X11_isDead : List Value → ab_H → Option ab_O} (h_X11_isDead : ab_M l b D ab_cl cA (ab_E0 b) yX11_isDead (Cond.code yX11_isDead cX11_isDead 2 (some .boolean) :: ab_G) ({ frames := 2, cells := 0, slots := 0, locals := 200 } : Room) f_X11_isDead) {f_X11_missedBy : List Value → ab_H → Option ab_O} (h_X11_missedBy : ab_M l b D ab_cl cA (ab_E0 b) yX11_missedBy (Cond.code yX11_missedBy cX11_missedBy 4 (some .int) :: ab_G) ({ frames := 5, cells := 0, slots := 0, locals := 500 } : Room) f_X11_missedBy) {f_X11_missesOf : List Value → ab_H → Option ab_O} (h_X11_missesOf : ab_M l b D ab_cl cA (ab_E0 b) yX11_missesOf (Cond.code yX11_missesOf cX11_missesOf 4 (some .int) :: ab_G) ({ frames := 5, cells := 0, slots := 0, locals := 500 } : Room) f_X11_missesOf) : ab_M l b D ab_cl cA (ab_E0 b) yX11_man (Cond.code yX11_man cX11_man 3 (some .int) :: ab_G) ({ frames := 6, cells := 0, slots := 0, locals := 600 } : Room) (ab_X (ab_T (L_X11_man f_X11_isMan f_X11_isIn f_X11_throwsIf f_X11_isDead f_X11_missedBy f_X11_missesOf)) 3) := by
  refine ab_meth (ret := (some .int)) (L_X11_man f_X11_isMan f_X11_isIn f_X11_throwsIf f_X11_isDead f_X11_missedBy f_X11_missesOf) (by decide) rfl fun p e R s m args below meth c o C => ?_
  unfold L_X11_man
  refine List.forall_mem_cons.mpr ⟨ok_aload_n C (show decode cX11_man 0 = .ok (.aload_n 0, 1) from dk_at dq36_4 (i := 0) rfl) rfl rfl, ?_⟩
  refine List.forall_mem_cons.mpr ⟨ok_aload_n C (show decode cX11_man 1 = .ok (.aload_n 0, 1) from dk_at dq36_4 (i := 1) rfl) rfl rfl, ?_⟩
  refine List.forall_mem_cons.mpr ⟨ok_iload_n C (show decode cX11_man 2 = .ok (.iload_n 1, 1) from dk_at dq36_4 (i := 2) rfl) rfl rfl, ?_⟩
  refine List.forall_mem_cons.mpr ⟨ok_callV C h_X11_isMan ⟨rfl, rfl⟩ rfl kw_1433 kw_1430 kw_1432 kp_69 kw_11 rfl ds_X11_isMan ⟨by decide, by decide⟩ (show decode cX11_man 3 = .ok (.invokevirtual 266, 3) from dk_at dq36_4 (i := 3) rfl) rfl, ?_⟩
  refine List.forall_mem_cons.mpr ⟨ok_ifeq C (show decode cX11_man 6 = .ok (.ifCond .eq 12, 3) from dk_at dq36_4 (i := 4) rfl) (tg := 18) (by decide) rfl rfl, ?_⟩
  refine List.forall_mem_cons.mpr ⟨ok_iload_n C (show decode cX11_man 9 = .ok (.iload_n 2, 1) from dk_at dq36_4 (i := 5) rfl) rfl rfl, ?_⟩
  refine List.forall_mem_cons.mpr ⟨ok_iconst C (show decode cX11_man 10 = .ok (.iconst 0, 1) from dk_at dq36_4 (i := 6) rfl) (by decide) rfl, ?_⟩
  refine List.forall_mem_cons.mpr ⟨ok_iconst C (show decode cX11_man 11 = .ok (.iconst 4, 1) from dk_at dq36_4 (i := 7) rfl) (by decide) rfl, ?_⟩
  refine List.forall_mem_cons.mpr ⟨ok_callS C h_X11_isIn ⟨rfl, rfl⟩ kw_1355 kw_1353 kw_1354 kw_11 ds_X11_isIn ⟨by decide, by decide⟩ (show decode cX11_man 12 = .ok (.invokestatic 179, 3) from dk_at dq36_4 (i := 8) rfl) rfl, ?_⟩
  refine List.forall_mem_cons.mpr ⟨ok_ifne C (show decode cX11_man 15 = .ok (.ifCond .ne 7, 3) from dk_at dq36_4 (i := 9) rfl) (tg := 22) (by decide) rfl rfl, ?_⟩
  refine List.forall_mem_cons.mpr ⟨ok_iconst C (show decode cX11_man 18 = .ok (.iconst 1, 1) from dk_at dq36_4 (i := 10) rfl) (by decide) rfl, ?_⟩
  refine List.forall_mem_cons.mpr ⟨ok_goto C (show decode cX11_man 19 = .ok (.goto 4, 3) from dk_at dq36_4 (i := 11) rfl) (tg := 23) (by decide) rfl, ?_⟩
  refine List.forall_mem_cons.mpr ⟨ok_iconst C (show decode cX11_man 22 = .ok (.iconst 0, 1) from dk_at dq36_4 (i := 12) rfl) (by decide) rfl, ?_⟩
  refine List.forall_mem_cons.mpr ⟨ok_callV C h_X11_throwsIf ⟨rfl, rfl⟩ rfl kw_1437 kw_1434 kw_1436 kp_70 kw_11 rfl ds_X11_throwsIf ⟨by decide, by decide⟩ (show decode cX11_man 23 = .ok (.invokevirtual 269, 3) from dk_at dq36_4 (i := 13) rfl) rfl, ?_⟩
  refine List.forall_mem_cons.mpr ⟨ok_ifeq C (show decode cX11_man 26 = .ok (.ifCond .eq 5, 3) from dk_at dq36_4 (i := 14) rfl) (tg := 31) (by decide) rfl rfl, ?_⟩
  refine List.forall_mem_cons.mpr ⟨ok_iconst C (show decode cX11_man 29 = .ok (.iconst 0, 1) from dk_at dq36_4 (i := 15) rfl) (by decide) rfl, ?_⟩
  refine List.forall_mem_cons.mpr ⟨ok_ret C rfl (show decode cX11_man 30 = .ok (.ireturn, 1) from dk_at dq36_5 (i := 0) rfl), ?_⟩
  refine List.forall_mem_cons.mpr ⟨ok_iload_n C (show decode cX11_man 31 = .ok (.iload_n 2, 1) from dk_at dq36_5 (i := 1) rfl) rfl rfl, ?_⟩
  refine List.forall_mem_cons.mpr ⟨ok_tab C (show decode cX11_man 32 = .ok (.tableswitch 78 0 3 #[32, 55, 61, 67], 32) from dk_at dq36_5 (i := 2) rfl) (by decide) (by decide) (by decide), ?_⟩
  refine List.forall_mem_cons.mpr ⟨ok_aload_n C (show decode cX11_man 64 = .ok (.aload_n 0, 1) from dk_at dq36_5 (i := 3) rfl) rfl rfl, ?_⟩
  refine List.forall_mem_cons.mpr ⟨ok_iload_n C (show decode cX11_man 65 = .ok (.iload_n 1, 1) from dk_at dq36_5 (i := 4) rfl) rfl rfl, ?_⟩
  refine List.forall_mem_cons.mpr ⟨ok_callV C h_X11_isDead ⟨rfl, rfl⟩ rfl kw_1441 kw_1438 kw_1440 kp_71 kw_11 rfl ds_X11_isDead ⟨by decide, by decide⟩ (show decode cX11_man 66 = .ok (.invokevirtual 257, 3) from dk_at dq36_5 (i := 5) rfl) rfl, ?_⟩
  refine List.forall_mem_cons.mpr ⟨ok_ifeq C (show decode cX11_man 69 = .ok (.ifCond .eq 7, 3) from dk_at dq36_5 (i := 6) rfl) (tg := 76) (by decide) rfl rfl, ?_⟩
  refine List.forall_mem_cons.mpr ⟨ok_iconst C (show decode cX11_man 72 = .ok (.iconst (-1), 1) from dk_at dq36_5 (i := 7) rfl) (by decide) rfl, ?_⟩
  refine List.forall_mem_cons.mpr ⟨ok_goto C (show decode cX11_man 73 = .ok (.goto 13, 3) from dk_at dq36_5 (i := 8) rfl) (tg := 86) (by decide) rfl, ?_⟩
  refine List.forall_mem_cons.mpr ⟨ok_aload_n C (show decode cX11_man 76 = .ok (.aload_n 0, 1) from dk_at dq36_5 (i := 9) rfl) rfl rfl, ?_⟩
  refine List.forall_mem_cons.mpr ⟨ok_getf C (wi_X11) rfl (by decide) kw_1186 (show decode cX11_man 77 = .ok (.getfield 33, 3) from dk_at dq36_5 (i := 10) rfl) rfl, ?_⟩
  refine List.forall_mem_cons.mpr ⟨ok_sipush C (show decode cX11_man 80 = .ok (.sipush 172, 3) from dk_at dq36_5 (i := 11) rfl) (by decide) rfl, ?_⟩
  refine List.forall_mem_cons.mpr ⟨ok_iload_n C (show decode cX11_man 83 = .ok (.iload_n 1, 1) from dk_at dq36_5 (i := 12) rfl) rfl rfl, ?_⟩
  refine List.forall_mem_cons.mpr ⟨ok_iadd C (show decode cX11_man 84 = .ok (.iadd, 1) from dk_at dq36_5 (i := 13) rfl) rfl, ?_⟩
  refine List.forall_mem_cons.mpr ⟨ok_iaload C (show decode cX11_man 85 = .ok (.iaload, 1) from dk_at dq36_5 (i := 14) rfl) rfl, ?_⟩
  refine List.forall_mem_cons.mpr ⟨ok_ret C rfl (show decode cX11_man 86 = .ok (.ireturn, 1) from dk_at dq36_5 (i := 15) rfl), ?_⟩
  refine List.forall_mem_cons.mpr ⟨ok_aload_n C (show decode cX11_man 87 = .ok (.aload_n 0, 1) from dk_at dq36_6 (i := 0) rfl) rfl rfl, ?_⟩
  refine List.forall_mem_cons.mpr ⟨ok_iload_n C (show decode cX11_man 88 = .ok (.iload_n 1, 1) from dk_at dq36_6 (i := 1) rfl) rfl rfl, ?_⟩
  refine List.forall_mem_cons.mpr ⟨ok_callV C h_X11_missedBy ⟨rfl, rfl⟩ rfl kw_1445 kw_1442 kw_1444 kp_72 kw_11 rfl ds_X11_missedBy ⟨by decide, by decide⟩ (show decode cX11_man 89 = .ok (.invokevirtual 273, 3) from dk_at dq36_6 (i := 2) rfl) rfl, ?_⟩
  refine List.forall_mem_cons.mpr ⟨ok_ret C rfl (show decode cX11_man 92 = .ok (.ireturn, 1) from dk_at dq36_6 (i := 3) rfl), ?_⟩
  refine List.forall_mem_cons.mpr ⟨ok_aload_n C (show decode cX11_man 93 = .ok (.aload_n 0, 1) from dk_at dq36_6 (i := 4) rfl) rfl rfl, ?_⟩
  refine List.forall_mem_cons.mpr ⟨ok_iload_n C (show decode cX11_man 94 = .ok (.iload_n 1, 1) from dk_at dq36_6 (i := 5) rfl) rfl rfl, ?_⟩
  refine List.forall_mem_cons.mpr ⟨ok_callV C h_X11_missesOf ⟨rfl, rfl⟩ rfl kw_1457 kw_1454 kw_1456 kp_75 kw_11 rfl ds_X11_missesOf ⟨by decide, by decide⟩ (show decode cX11_man 95 = .ok (.invokevirtual 277, 3) from dk_at dq36_6 (i := 6) rfl) rfl, ?_⟩
  refine List.forall_mem_cons.mpr ⟨ok_ret C rfl (show decode cX11_man 98 = .ok (.ireturn, 1) from dk_at dq36_6 (i := 7) rfl), ?_⟩
  refine List.forall_mem_cons.mpr ⟨ok_aload_n C (show decode cX11_man 99 = .ok (.aload_n 0, 1) from dk_at dq36_6 (i := 8) rfl) rfl rfl, ?_⟩
  refine List.forall_mem_cons.mpr ⟨ok_getf C (wi_X11) rfl (by decide) kw_1186 (show decode cX11_man 100 = .ok (.getfield 33, 3) from dk_at dq36_6 (i := 9) rfl) rfl, ?_⟩
  refine List.forall_mem_cons.mpr ⟨ok_sipush C (show decode cX11_man 103 = .ok (.sipush 181, 3) from dk_at dq36_6 (i := 10) rfl) (by decide) rfl, ?_⟩
  refine List.forall_mem_cons.mpr ⟨ok_iload_n C (show decode cX11_man 106 = .ok (.iload_n 1, 1) from dk_at dq36_6 (i := 11) rfl) rfl rfl, ?_⟩
  refine List.forall_mem_cons.mpr ⟨ok_iadd C (show decode cX11_man 107 = .ok (.iadd, 1) from dk_at dq36_6 (i := 12) rfl) rfl, ?_⟩
  refine List.forall_mem_cons.mpr ⟨ok_iaload C (show decode cX11_man 108 = .ok (.iaload, 1) from dk_at dq36_6 (i := 13) rfl) rfl, ?_⟩
  refine List.forall_mem_cons.mpr ⟨ok_ret C rfl (show decode cX11_man 109 = .ok (.ireturn, 1) from dk_at dq36_6 (i := 14) rfl), ?_⟩
  refine List.forall_mem_cons.mpr ⟨ok_aload_n C (show decode cX11_man 110 = .ok (.aload_n 0, 1) from dk_at dq36_6 (i := 15) rfl) rfl rfl, ?_⟩
  refine List.forall_mem_cons.mpr ⟨ok_iload_n C (show decode cX11_man 111 = .ok (.iload_n 1, 1) from dk_at dq36_7 (i := 0) rfl) rfl rfl, ?_⟩
  refine List.forall_mem_cons.mpr ⟨ok_callV C h_X11_isDead ⟨rfl, rfl⟩ rfl kw_1441 kw_1438 kw_1440 kp_71 kw_11 rfl ds_X11_isDead ⟨by decide, by decide⟩ (show decode cX11_man 112 = .ok (.invokevirtual 257, 3) from dk_at dq36_7 (i := 1) rfl) rfl, ?_⟩
  refine List.forall_mem_cons.mpr ⟨ok_ifeq C (show decode cX11_man 115 = .ok (.ifCond .eq 7, 3) from dk_at dq36_7 (i := 2) rfl) (tg := 122) (by decide) rfl rfl, ?_⟩
  refine List.forall_mem_cons.mpr ⟨ok_iconst C (show decode cX11_man 118 = .ok (.iconst 0, 1) from dk_at dq36_7 (i := 3) rfl) (by decide) rfl, ?_⟩
  refine List.forall_mem_cons.mpr ⟨ok_goto C (show decode cX11_man 119 = .ok (.goto 4, 3) from dk_at dq36_7 (i := 4) rfl) (tg := 123) (by decide) rfl, ?_⟩
  refine List.forall_mem_cons.mpr ⟨ok_iconst C (show decode cX11_man 122 = .ok (.iconst 1, 1) from dk_at dq36_7 (i := 5) rfl) (by decide) rfl, ?_⟩
  refine List.forall_mem_cons.mpr ⟨ok_ret C rfl (show decode cX11_man 123 = .ok (.ireturn, 1) from dk_at dq36_7 (i := 6) rfl), ?_⟩
  exact fun _ h => absurd h List.not_mem_nil
def L_X11_apart (f_X11_isMan : List Value → ab_H → Option ab_O) (f_X11_isDead : List Value → ab_H → Option ab_O) : List (Nat × ab_A) := [
  (0, ab_nx 1 (ab_aload 0)),
  (1, ab_nx 2 (ab_lit (.int 0))),
  (2, ab_nx 5 (ab_putf 11 0 0)),
  (5, ab_nx 6 (ab_aload 0)),
  (6, ab_nx 7 (ab_iload 1)),
  (7, ab_nx 10 (ab_callV 2 11 f_X11_isMan 0 0 0 0)),
  (10, ab_if 13 60 (fun x => decide (x = 0))),
  (13, ab_nx 14 (ab_aload 0)),
  (14, ab_nx 15 (ab_iload 2)),
  (15, ab_nx 18 (ab_callV 2 11 f_X11_isMan 0 0 0 0)),
  (18, ab_if 21 60 (fun x => decide (x = 0))),
  (21, ab_nx 22 (ab_iload 1)),
  (22, ab_nx 23 (ab_iload 2)),
  (23, ab_icmp 26 60 (fun x y => decide (x = y))),
  (26, ab_nx 27 (ab_aload 0)),
  (27, ab_nx 28 (ab_iload 1)),
  (28, ab_nx 31 (ab_callV 2 11 f_X11_isDead 0 0 0 0)),
  (31, ab_if 34 60 (fun x => !decide (x = 0))),
  (34, ab_nx 35 (ab_aload 0)),
  (35, ab_nx 36 (ab_iload 2)),
  (36, ab_nx 39 (ab_callV 2 11 f_X11_isDead 0 0 0 0)),
  (39, ab_if 42 60 (fun x => !decide (x = 0))),
  (42, ab_nx 43 (ab_aload 0)),
  (43, ab_nx 46 (ab_getf 11 6)),
  (46, ab_nx 49 (ab_lit (.int 189))),
  (49, ab_nx 51 (ab_lit (.int 8))),
  (51, ab_nx 52 (ab_iload 1)),
  (52, ab_nx 53 (ab_bin (fun x y => x * y))),
  (53, ab_nx 54 (ab_bin (fun x y => x + y))),
  (54, ab_nx 55 (ab_iload 2)),
  (55, ab_nx 56 (ab_bin (fun x y => x + y))),
  (56, ab_nx 57 (ab_ald 1)),
  (57, ab_goto 61),
  (60, ab_nx 61 (ab_lit (.int (-1)))),
  (61, ab_ret 0 0)]
set_option maxRecDepth 100000 in
theorem dq36_8 : ([(0, .aload_n 0, 1), (1, .iconst 0, 1), (2, .putfield 1, 3), (5, .aload_n 0, 1), (6, .iload_n 1, 1), (7, .invokevirtual 266, 3), (10, .ifCond .eq 50, 3), (13, .aload_n 0, 1), (14, .iload_n 2, 1), (15, .invokevirtual 266, 3), (18, .ifCond .eq 42, 3), (21, .iload_n 1, 1), (22, .iload_n 2, 1), (23, .if_icmp .eq 37, 3), (26, .aload_n 0, 1), (27, .iload_n 1, 1)] : List (Nat × Instr × Nat)).all (fun q => decide (decode cX11_apart q.1 = .ok q.2)) = true := by decide +kernel
set_option maxRecDepth 100000 in
theorem dq36_9 : ([(28, .invokevirtual 257, 3), (31, .ifCond .ne 29, 3), (34, .aload_n 0, 1), (35, .iload_n 2, 1), (36, .invokevirtual 257, 3), (39, .ifCond .ne 21, 3), (42, .aload_n 0, 1), (43, .getfield 33, 3), (46, .sipush 189, 3), (49, .bipush 8, 2), (51, .iload_n 1, 1), (52, .imul, 1), (53, .iadd, 1), (54, .iload_n 2, 1), (55, .iadd, 1), (56, .iaload, 1)] : List (Nat × Instr × Nat)).all (fun q => decide (decode cX11_apart q.1 = .ok q.2)) = true := by decide +kernel
set_option maxRecDepth 100000 in
theorem dq36_10 : ([(57, .goto 4, 3), (60, .iconst (-1), 1), (61, .ireturn, 1)] : List (Nat × Instr × Nat)).all (fun q => decide (decode cX11_apart q.1 = .ok q.2)) = true := by decide +kernel
set_option maxRecDepth 100000 in
set_option maxHeartbeats 4000000 in
theorem M_X11_apart {l : Launch} {b : ab_B} {D : va_G} {cA : Nat → ClassId} {f_X11_isMan : List Value → ab_H → Option ab_O} (h_X11_isMan : ab_M l b D ab_cl cA (ab_E0 b) yX11_isMan (Cond.code yX11_isMan cX11_isMan 2 (some .boolean) :: ab_G) ({ frames := 2, cells := 0, slots := 0, locals := 200 } : Room) f_X11_isMan) {f_X11_isDead : List Value → ab_H → Option ab_O} (h_X11_isDead : ab_M l b D ab_cl cA (ab_E0 b) yX11_isDead (Cond.code yX11_isDead cX11_isDead 2 (some .boolean) :: ab_G) ({ frames := 2, cells := 0, slots := 0, locals := 200 } : Room) f_X11_isDead) : ab_M l b D ab_cl cA (ab_E0 b) yX11_apart (Cond.code yX11_apart cX11_apart 3 (some .int) :: ab_G) ({ frames := 3, cells := 0, slots := 0, locals := 300 } : Room) (ab_X (ab_T (L_X11_apart f_X11_isMan f_X11_isDead)) 3) := by
  refine ab_meth (ret := (some .int)) (L_X11_apart f_X11_isMan f_X11_isDead) (by decide) rfl fun p e R s m args below meth c o C => ?_
  unfold L_X11_apart
  refine List.forall_mem_cons.mpr ⟨ok_aload_n C (show decode cX11_apart 0 = .ok (.aload_n 0, 1) from dk_at dq36_8 (i := 0) rfl) rfl rfl, ?_⟩
  refine List.forall_mem_cons.mpr ⟨ok_iconst C (show decode cX11_apart 1 = .ok (.iconst 0, 1) from dk_at dq36_8 (i := 1) rfl) (by decide) rfl, ?_⟩
  refine List.forall_mem_cons.mpr ⟨ok_putf C (wi_X11) tyX11 tyX11_ok nmX11 rfl (by decide) kw_1180 (Or.inl rfl) (Or.inl ⟨rfl, rfl⟩) (show decode cX11_apart 2 = .ok (.putfield 1, 3) from dk_at dq36_8 (i := 2) rfl) rfl, ?_⟩
  refine List.forall_mem_cons.mpr ⟨ok_aload_n C (show decode cX11_apart 5 = .ok (.aload_n 0, 1) from dk_at dq36_8 (i := 3) rfl) rfl rfl, ?_⟩
  refine List.forall_mem_cons.mpr ⟨ok_iload_n C (show decode cX11_apart 6 = .ok (.iload_n 1, 1) from dk_at dq36_8 (i := 4) rfl) rfl rfl, ?_⟩
  refine List.forall_mem_cons.mpr ⟨ok_callV C h_X11_isMan ⟨rfl, rfl⟩ rfl kw_1433 kw_1430 kw_1432 kp_69 kw_11 rfl ds_X11_isMan ⟨by decide, by decide⟩ (show decode cX11_apart 7 = .ok (.invokevirtual 266, 3) from dk_at dq36_8 (i := 5) rfl) rfl, ?_⟩
  refine List.forall_mem_cons.mpr ⟨ok_ifeq C (show decode cX11_apart 10 = .ok (.ifCond .eq 50, 3) from dk_at dq36_8 (i := 6) rfl) (tg := 60) (by decide) rfl rfl, ?_⟩
  refine List.forall_mem_cons.mpr ⟨ok_aload_n C (show decode cX11_apart 13 = .ok (.aload_n 0, 1) from dk_at dq36_8 (i := 7) rfl) rfl rfl, ?_⟩
  refine List.forall_mem_cons.mpr ⟨ok_iload_n C (show decode cX11_apart 14 = .ok (.iload_n 2, 1) from dk_at dq36_8 (i := 8) rfl) rfl rfl, ?_⟩
  refine List.forall_mem_cons.mpr ⟨ok_callV C h_X11_isMan ⟨rfl, rfl⟩ rfl kw_1433 kw_1430 kw_1432 kp_69 kw_11 rfl ds_X11_isMan ⟨by decide, by decide⟩ (show decode cX11_apart 15 = .ok (.invokevirtual 266, 3) from dk_at dq36_8 (i := 9) rfl) rfl, ?_⟩
  refine List.forall_mem_cons.mpr ⟨ok_ifeq C (show decode cX11_apart 18 = .ok (.ifCond .eq 42, 3) from dk_at dq36_8 (i := 10) rfl) (tg := 60) (by decide) rfl rfl, ?_⟩
  refine List.forall_mem_cons.mpr ⟨ok_iload_n C (show decode cX11_apart 21 = .ok (.iload_n 1, 1) from dk_at dq36_8 (i := 11) rfl) rfl rfl, ?_⟩
  refine List.forall_mem_cons.mpr ⟨ok_iload_n C (show decode cX11_apart 22 = .ok (.iload_n 2, 1) from dk_at dq36_8 (i := 12) rfl) rfl rfl, ?_⟩
  refine List.forall_mem_cons.mpr ⟨ok_icmpeq C (show decode cX11_apart 23 = .ok (.if_icmp .eq 37, 3) from dk_at dq36_8 (i := 13) rfl) (tg := 60) (by decide) rfl rfl, ?_⟩
  refine List.forall_mem_cons.mpr ⟨ok_aload_n C (show decode cX11_apart 26 = .ok (.aload_n 0, 1) from dk_at dq36_8 (i := 14) rfl) rfl rfl, ?_⟩
  refine List.forall_mem_cons.mpr ⟨ok_iload_n C (show decode cX11_apart 27 = .ok (.iload_n 1, 1) from dk_at dq36_8 (i := 15) rfl) rfl rfl, ?_⟩
  refine List.forall_mem_cons.mpr ⟨ok_callV C h_X11_isDead ⟨rfl, rfl⟩ rfl kw_1441 kw_1438 kw_1440 kp_71 kw_11 rfl ds_X11_isDead ⟨by decide, by decide⟩ (show decode cX11_apart 28 = .ok (.invokevirtual 257, 3) from dk_at dq36_9 (i := 0) rfl) rfl, ?_⟩
  refine List.forall_mem_cons.mpr ⟨ok_ifne C (show decode cX11_apart 31 = .ok (.ifCond .ne 29, 3) from dk_at dq36_9 (i := 1) rfl) (tg := 60) (by decide) rfl rfl, ?_⟩
  refine List.forall_mem_cons.mpr ⟨ok_aload_n C (show decode cX11_apart 34 = .ok (.aload_n 0, 1) from dk_at dq36_9 (i := 2) rfl) rfl rfl, ?_⟩
  refine List.forall_mem_cons.mpr ⟨ok_iload_n C (show decode cX11_apart 35 = .ok (.iload_n 2, 1) from dk_at dq36_9 (i := 3) rfl) rfl rfl, ?_⟩
  refine List.forall_mem_cons.mpr ⟨ok_callV C h_X11_isDead ⟨rfl, rfl⟩ rfl kw_1441 kw_1438 kw_1440 kp_71 kw_11 rfl ds_X11_isDead ⟨by decide, by decide⟩ (show decode cX11_apart 36 = .ok (.invokevirtual 257, 3) from dk_at dq36_9 (i := 4) rfl) rfl, ?_⟩
  refine List.forall_mem_cons.mpr ⟨ok_ifne C (show decode cX11_apart 39 = .ok (.ifCond .ne 21, 3) from dk_at dq36_9 (i := 5) rfl) (tg := 60) (by decide) rfl rfl, ?_⟩
  refine List.forall_mem_cons.mpr ⟨ok_aload_n C (show decode cX11_apart 42 = .ok (.aload_n 0, 1) from dk_at dq36_9 (i := 6) rfl) rfl rfl, ?_⟩
  refine List.forall_mem_cons.mpr ⟨ok_getf C (wi_X11) rfl (by decide) kw_1186 (show decode cX11_apart 43 = .ok (.getfield 33, 3) from dk_at dq36_9 (i := 7) rfl) rfl, ?_⟩
  refine List.forall_mem_cons.mpr ⟨ok_sipush C (show decode cX11_apart 46 = .ok (.sipush 189, 3) from dk_at dq36_9 (i := 8) rfl) (by decide) rfl, ?_⟩
  refine List.forall_mem_cons.mpr ⟨ok_bipush C (show decode cX11_apart 49 = .ok (.bipush 8, 2) from dk_at dq36_9 (i := 9) rfl) (by decide) rfl, ?_⟩
  refine List.forall_mem_cons.mpr ⟨ok_iload_n C (show decode cX11_apart 51 = .ok (.iload_n 1, 1) from dk_at dq36_9 (i := 10) rfl) rfl rfl, ?_⟩
  refine List.forall_mem_cons.mpr ⟨ok_imul C (show decode cX11_apart 52 = .ok (.imul, 1) from dk_at dq36_9 (i := 11) rfl) rfl, ?_⟩
  refine List.forall_mem_cons.mpr ⟨ok_iadd C (show decode cX11_apart 53 = .ok (.iadd, 1) from dk_at dq36_9 (i := 12) rfl) rfl, ?_⟩
  refine List.forall_mem_cons.mpr ⟨ok_iload_n C (show decode cX11_apart 54 = .ok (.iload_n 2, 1) from dk_at dq36_9 (i := 13) rfl) rfl rfl, ?_⟩
  refine List.forall_mem_cons.mpr ⟨ok_iadd C (show decode cX11_apart 55 = .ok (.iadd, 1) from dk_at dq36_9 (i := 14) rfl) rfl, ?_⟩
  refine List.forall_mem_cons.mpr ⟨ok_iaload C (show decode cX11_apart 56 = .ok (.iaload, 1) from dk_at dq36_9 (i := 15) rfl) rfl, ?_⟩
  refine List.forall_mem_cons.mpr ⟨ok_goto C (show decode cX11_apart 57 = .ok (.goto 4, 3) from dk_at dq36_10 (i := 0) rfl) (tg := 61) (by decide) rfl, ?_⟩
  refine List.forall_mem_cons.mpr ⟨ok_iconst C (show decode cX11_apart 60 = .ok (.iconst (-1), 1) from dk_at dq36_10 (i := 1) rfl) (by decide) rfl, ?_⟩
  refine List.forall_mem_cons.mpr ⟨ok_ret C rfl (show decode cX11_apart 61 = .ok (.ireturn, 1) from dk_at dq36_10 (i := 2) rfl), ?_⟩
  exact fun _ h => absurd h List.not_mem_nil
def L_X11_menOn (f_X11_isDead : List Value → ab_H → Option ab_O) : List (Nat × ab_A) := [
  (0, ab_nx 1 (ab_lit (.int 0))),
  (1, ab_nx 2 (ab_istore 2)),
  (2, ab_nx 3 (ab_lit (.int 0))),
  (3, ab_nx 4 (ab_istore 3)),
  (4, ab_nx 5 (ab_iload 3)),
  (5, ab_nx 6 (ab_aload 0)),
  (6, ab_nx 9 (ab_getf 11 6)),
  (9, ab_nx 10 (ab_lit (.int 1))),
  (10, ab_nx 11 (ab_ald 1)),
  (11, ab_icmp 14 52 (fun x y => decide (y ≤ x))),
  (14, ab_nx 15 (ab_iload 2)),
  (15, ab_nx 16 (ab_aload 0)),
  (16, ab_nx 17 (ab_iload 3)),
  (17, ab_nx 20 (ab_callV 2 11 f_X11_isDead 0 0 0 0)),
  (20, ab_if 23 43 (fun x => !decide (x = 0))),
  (23, ab_nx 24 (ab_aload 0)),
  (24, ab_nx 27 (ab_getf 11 6)),
  (27, ab_nx 30 (ab_lit (.int 172))),
  (30, ab_nx 31 (ab_iload 3)),
  (31, ab_nx 32 (ab_bin (fun x y => x + y))),
  (32, ab_nx 33 (ab_ald 1)),
  (33, ab_nx 34 (ab_iload 1)),
  (34, ab_icmp 37 43 (fun x y => !decide (x = y))),
  (37, ab_nx 38 (ab_lit (.int 1))),
  (38, ab_nx 39 (ab_iload 3)),
  (39, ab_nx 40 (ab_bin (fun x y => x <<< (y &&& 31)))),
  (40, ab_goto 44),
  (43, ab_nx 44 (ab_lit (.int 0))),
  (44, ab_nx 45 (ab_bin (fun x y => x ||| y))),
  (45, ab_nx 46 (ab_istore 2)),
  (46, ab_nx 49 (ab_iinc 3 1)),
  (49, ab_goto 4),
  (52, ab_nx 53 (ab_iload 2)),
  (53, ab_ret 0 0)]
set_option maxRecDepth 100000 in
theorem dq36_11 : ([(0, .iconst 0, 1), (1, .istore_n 2, 1), (2, .iconst 0, 1), (3, .istore_n 3, 1), (4, .iload_n 3, 1), (5, .aload_n 0, 1), (6, .getfield 33, 3), (9, .iconst 1, 1), (10, .iaload, 1), (11, .if_icmp .ge 41, 3), (14, .iload_n 2, 1), (15, .aload_n 0, 1), (16, .iload_n 3, 1), (17, .invokevirtual 257, 3), (20, .ifCond .ne 23, 3), (23, .aload_n 0, 1)] : List (Nat × Instr × Nat)).all (fun q => decide (decode cX11_menOn q.1 = .ok q.2)) = true := by decide +kernel
set_option maxRecDepth 100000 in
theorem dq36_12 : ([(24, .getfield 33, 3), (27, .sipush 172, 3), (30, .iload_n 3, 1), (31, .iadd, 1), (32, .iaload, 1), (33, .iload_n 1, 1), (34, .if_icmp .ne 9, 3), (37, .iconst 1, 1), (38, .iload_n 3, 1), (39, .ishl, 1), (40, .goto 4, 3), (43, .iconst 0, 1), (44, .ior, 1), (45, .istore_n 2, 1), (46, .iinc 3 1, 3), (49, .goto (-45), 3)] : List (Nat × Instr × Nat)).all (fun q => decide (decode cX11_menOn q.1 = .ok q.2)) = true := by decide +kernel
set_option maxRecDepth 100000 in
theorem dq36_13 : ([(52, .iload_n 2, 1), (53, .ireturn, 1)] : List (Nat × Instr × Nat)).all (fun q => decide (decode cX11_menOn q.1 = .ok q.2)) = true := by decide +kernel
set_option maxRecDepth 100000 in
set_option maxHeartbeats 4000000 in
theorem M_X11_menOn {l : Launch} {b : ab_B} {D : va_G} {cA : Nat → ClassId} {f_X11_isDead : List Value → ab_H → Option ab_O} (h_X11_isDead : ab_M l b D ab_cl cA (ab_E0 b) yX11_isDead (Cond.code yX11_isDead cX11_isDead 2 (some .boolean) :: ab_G) ({ frames := 2, cells := 0, slots := 0, locals := 200 } : Room) f_X11_isDead) : ab_M l b D ab_cl cA (ab_E0 b) yX11_menOn (Cond.code yX11_menOn cX11_menOn 4 (some .int) :: ab_G) ({ frames := 3, cells := 0, slots := 0, locals := 300 } : Room) (ab_X (ab_T (L_X11_menOn f_X11_isDead)) 4) := by
  refine ab_meth (ret := (some .int)) (L_X11_menOn f_X11_isDead) (by decide) rfl fun p e R s m args below meth c o C => ?_
  unfold L_X11_menOn
  refine List.forall_mem_cons.mpr ⟨ok_iconst C (show decode cX11_menOn 0 = .ok (.iconst 0, 1) from dk_at dq36_11 (i := 0) rfl) (by decide) rfl, ?_⟩
  refine List.forall_mem_cons.mpr ⟨ok_istore_n C (show decode cX11_menOn 1 = .ok (.istore_n 2, 1) from dk_at dq36_11 (i := 1) rfl) rfl (by decide) rfl, ?_⟩
  refine List.forall_mem_cons.mpr ⟨ok_iconst C (show decode cX11_menOn 2 = .ok (.iconst 0, 1) from dk_at dq36_11 (i := 2) rfl) (by decide) rfl, ?_⟩
  refine List.forall_mem_cons.mpr ⟨ok_istore_n C (show decode cX11_menOn 3 = .ok (.istore_n 3, 1) from dk_at dq36_11 (i := 3) rfl) rfl (by decide) rfl, ?_⟩
  refine List.forall_mem_cons.mpr ⟨ok_iload_n C (show decode cX11_menOn 4 = .ok (.iload_n 3, 1) from dk_at dq36_11 (i := 4) rfl) rfl rfl, ?_⟩
  refine List.forall_mem_cons.mpr ⟨ok_aload_n C (show decode cX11_menOn 5 = .ok (.aload_n 0, 1) from dk_at dq36_11 (i := 5) rfl) rfl rfl, ?_⟩
  refine List.forall_mem_cons.mpr ⟨ok_getf C (wi_X11) rfl (by decide) kw_1186 (show decode cX11_menOn 6 = .ok (.getfield 33, 3) from dk_at dq36_11 (i := 6) rfl) rfl, ?_⟩
  refine List.forall_mem_cons.mpr ⟨ok_iconst C (show decode cX11_menOn 9 = .ok (.iconst 1, 1) from dk_at dq36_11 (i := 7) rfl) (by decide) rfl, ?_⟩
  refine List.forall_mem_cons.mpr ⟨ok_iaload C (show decode cX11_menOn 10 = .ok (.iaload, 1) from dk_at dq36_11 (i := 8) rfl) rfl, ?_⟩
  refine List.forall_mem_cons.mpr ⟨ok_icmpge C (show decode cX11_menOn 11 = .ok (.if_icmp .ge 41, 3) from dk_at dq36_11 (i := 9) rfl) (tg := 52) (by decide) rfl rfl, ?_⟩
  refine List.forall_mem_cons.mpr ⟨ok_iload_n C (show decode cX11_menOn 14 = .ok (.iload_n 2, 1) from dk_at dq36_11 (i := 10) rfl) rfl rfl, ?_⟩
  refine List.forall_mem_cons.mpr ⟨ok_aload_n C (show decode cX11_menOn 15 = .ok (.aload_n 0, 1) from dk_at dq36_11 (i := 11) rfl) rfl rfl, ?_⟩
  refine List.forall_mem_cons.mpr ⟨ok_iload_n C (show decode cX11_menOn 16 = .ok (.iload_n 3, 1) from dk_at dq36_11 (i := 12) rfl) rfl rfl, ?_⟩
  refine List.forall_mem_cons.mpr ⟨ok_callV C h_X11_isDead ⟨rfl, rfl⟩ rfl kw_1441 kw_1438 kw_1440 kp_71 kw_11 rfl ds_X11_isDead ⟨by decide, by decide⟩ (show decode cX11_menOn 17 = .ok (.invokevirtual 257, 3) from dk_at dq36_11 (i := 13) rfl) rfl, ?_⟩
  refine List.forall_mem_cons.mpr ⟨ok_ifne C (show decode cX11_menOn 20 = .ok (.ifCond .ne 23, 3) from dk_at dq36_11 (i := 14) rfl) (tg := 43) (by decide) rfl rfl, ?_⟩
  refine List.forall_mem_cons.mpr ⟨ok_aload_n C (show decode cX11_menOn 23 = .ok (.aload_n 0, 1) from dk_at dq36_11 (i := 15) rfl) rfl rfl, ?_⟩
  refine List.forall_mem_cons.mpr ⟨ok_getf C (wi_X11) rfl (by decide) kw_1186 (show decode cX11_menOn 24 = .ok (.getfield 33, 3) from dk_at dq36_12 (i := 0) rfl) rfl, ?_⟩
  refine List.forall_mem_cons.mpr ⟨ok_sipush C (show decode cX11_menOn 27 = .ok (.sipush 172, 3) from dk_at dq36_12 (i := 1) rfl) (by decide) rfl, ?_⟩
  refine List.forall_mem_cons.mpr ⟨ok_iload_n C (show decode cX11_menOn 30 = .ok (.iload_n 3, 1) from dk_at dq36_12 (i := 2) rfl) rfl rfl, ?_⟩
  refine List.forall_mem_cons.mpr ⟨ok_iadd C (show decode cX11_menOn 31 = .ok (.iadd, 1) from dk_at dq36_12 (i := 3) rfl) rfl, ?_⟩
  refine List.forall_mem_cons.mpr ⟨ok_iaload C (show decode cX11_menOn 32 = .ok (.iaload, 1) from dk_at dq36_12 (i := 4) rfl) rfl, ?_⟩
  refine List.forall_mem_cons.mpr ⟨ok_iload_n C (show decode cX11_menOn 33 = .ok (.iload_n 1, 1) from dk_at dq36_12 (i := 5) rfl) rfl rfl, ?_⟩
  refine List.forall_mem_cons.mpr ⟨ok_icmpne C (show decode cX11_menOn 34 = .ok (.if_icmp .ne 9, 3) from dk_at dq36_12 (i := 6) rfl) (tg := 43) (by decide) rfl rfl, ?_⟩
  refine List.forall_mem_cons.mpr ⟨ok_iconst C (show decode cX11_menOn 37 = .ok (.iconst 1, 1) from dk_at dq36_12 (i := 7) rfl) (by decide) rfl, ?_⟩
  refine List.forall_mem_cons.mpr ⟨ok_iload_n C (show decode cX11_menOn 38 = .ok (.iload_n 3, 1) from dk_at dq36_12 (i := 8) rfl) rfl rfl, ?_⟩
  refine List.forall_mem_cons.mpr ⟨ok_ishl C (show decode cX11_menOn 39 = .ok (.ishl, 1) from dk_at dq36_12 (i := 9) rfl) rfl, ?_⟩
  refine List.forall_mem_cons.mpr ⟨ok_goto C (show decode cX11_menOn 40 = .ok (.goto 4, 3) from dk_at dq36_12 (i := 10) rfl) (tg := 44) (by decide) rfl, ?_⟩
  refine List.forall_mem_cons.mpr ⟨ok_iconst C (show decode cX11_menOn 43 = .ok (.iconst 0, 1) from dk_at dq36_12 (i := 11) rfl) (by decide) rfl, ?_⟩
  refine List.forall_mem_cons.mpr ⟨ok_ior C (show decode cX11_menOn 44 = .ok (.ior, 1) from dk_at dq36_12 (i := 12) rfl) rfl, ?_⟩
  refine List.forall_mem_cons.mpr ⟨ok_istore_n C (show decode cX11_menOn 45 = .ok (.istore_n 2, 1) from dk_at dq36_12 (i := 13) rfl) rfl (by decide) rfl, ?_⟩
  refine List.forall_mem_cons.mpr ⟨ok_iinc C (show decode cX11_menOn 46 = .ok (.iinc 3 1, 3) from dk_at dq36_12 (i := 14) rfl) (by decide) (by decide) rfl, ?_⟩
  refine List.forall_mem_cons.mpr ⟨ok_goto C (show decode cX11_menOn 49 = .ok (.goto (-45), 3) from dk_at dq36_12 (i := 15) rfl) (tg := 4) (by decide) rfl, ?_⟩
  refine List.forall_mem_cons.mpr ⟨ok_iload_n C (show decode cX11_menOn 52 = .ok (.iload_n 2, 1) from dk_at dq36_13 (i := 0) rfl) rfl rfl, ?_⟩
  refine List.forall_mem_cons.mpr ⟨ok_ret C rfl (show decode cX11_menOn 53 = .ok (.ireturn, 1) from dk_at dq36_13 (i := 1) rfl), ?_⟩
  exact fun _ h => absurd h List.not_mem_nil
def L_X11_now (f_X11_menOn : List Value → ab_H → Option ab_O) : List (Nat × ab_A) := [
  (0, ab_nx 1 (ab_aload 0)),
  (1, ab_nx 2 (ab_lit (.int 0))),
  (2, ab_nx 5 (ab_putf 11 0 0)),
  (5, ab_nx 6 (ab_iload 1)),
  (6, ab_tab 0 [48, 56, 66, 72, 78, 86, 94] 102),
  (48, ab_nx 49 (ab_aload 0)),
  (49, ab_nx 52 (ab_getf 11 6)),
  (52, ab_nx 54 (ab_lit (.int 120))),
  (54, ab_nx 55 (ab_ald 1)),
  (55, ab_ret 0 0),
  (56, ab_nx 57 (ab_aload 0)),
  (57, ab_nx 60 (ab_getf 11 6)),
  (60, ab_nx 62 (ab_lit (.int 120))),
  (62, ab_nx 63 (ab_ald 1)),
  (63, ab_nx 64 (ab_lit (.int 2))),
  (64, ab_nx 65 ab_irem),
  (65, ab_ret 0 0),
  (66, ab_nx 67 (ab_aload 0)),
  (67, ab_nx 68 (ab_lit (.int 0))),
  (68, ab_nx 71 (ab_callV 2 11 f_X11_menOn 0 0 0 0)),
  (71, ab_ret 0 0),
  (72, ab_nx 73 (ab_aload 0)),
  (73, ab_nx 74 (ab_lit (.int 1))),
  (74, ab_nx 77 (ab_callV 2 11 f_X11_menOn 0 0 0 0)),
  (77, ab_ret 0 0),
  (78, ab_nx 79 (ab_aload 0)),
  (79, ab_nx 82 (ab_getf 11 6)),
  (82, ab_nx 84 (ab_lit (.int 121))),
  (84, ab_nx 85 (ab_ald 1)),
  (85, ab_ret 0 0),
  (86, ab_nx 87 (ab_aload 0)),
  (87, ab_nx 90 (ab_getf 11 6)),
  (90, ab_nx 92 (ab_lit (.int 122))),
  (92, ab_nx 93 (ab_ald 1)),
  (93, ab_ret 0 0),
  (94, ab_nx 95 (ab_aload 0)),
  (95, ab_nx 98 (ab_getf 11 6)),
  (98, ab_nx 100 (ab_lit (.int 123))),
  (100, ab_nx 101 (ab_ald 1)),
  (101, ab_ret 0 0),
  (102, ab_nx 103 (ab_lit (.int (-1)))),
  (103, ab_ret 0 0)]
set_option maxRecDepth 100000 in
theorem dq36_14 : ([(0, .aload_n 0, 1), (1, .iconst 0, 1), (2, .putfield 1, 3), (5, .iload_n 1, 1), (6, .tableswitch 96 0 6 #[42, 50, 60, 66, 72, 80, 88], 42), (48, .aload_n 0, 1), (49, .getfield 33, 3), (52, .bipush 120, 2), (54, .iaload, 1), (55, .ireturn, 1), (56, .aload_n 0, 1), (57, .getfield 33, 3), (60, .bipush 120, 2), (62, .iaload, 1), (63, .iconst 2, 1), (64, .irem, 1)] : List (Nat × Instr × Nat)).all (fun q => decide (decode cX11_now q.1 = .ok q.2)) = true := by decide +kernel
set_option maxRecDepth 100000 in
theorem dq36_15 : ([(65, .ireturn, 1), (66, .aload_n 0, 1), (67, .iconst 0, 1), (68, .invokevirtual 280, 3), (71, .ireturn, 1), (72, .aload_n 0, 1), (73, .iconst 1, 1), (74, .invokevirtual 280, 3), (77, .ireturn, 1), (78, .aload_n 0, 1), (79, .getfield 33, 3), (82, .bipush 121, 2), (84, .iaload, 1), (85, .ireturn, 1), (86, .aload_n 0, 1), (87, .getfield 33, 3)] : List (Nat × Instr × Nat)).all (fun q => decide (decode cX11_now q.1 = .ok q.2)) = true := by decide +kernel
set_option maxRecDepth 100000 in
theorem dq36_16 : ([(90, .bipush 122, 2), (92, .iaload, 1), (93, .ireturn, 1), (94, .aload_n 0, 1), (95, .getfield 33, 3), (98, .bipush 123, 2), (100, .iaload, 1), (101, .ireturn, 1), (102, .iconst (-1), 1), (103, .ireturn, 1)] : List (Nat × Instr × Nat)).all (fun q => decide (decode cX11_now q.1 = .ok q.2)) = true := by decide +kernel
set_option maxRecDepth 100000 in
set_option maxHeartbeats 4000000 in
theorem M_X11_now {l : Launch} {b : ab_B} {D : va_G} {cA : Nat → ClassId} {f_X11_menOn : List Value → ab_H → Option ab_O} (h_X11_menOn : ab_M l b D ab_cl cA (ab_E0 b) yX11_menOn (Cond.code yX11_menOn cX11_menOn 4 (some .int) :: ab_G) ({ frames := 3, cells := 0, slots := 0, locals := 300 } : Room) f_X11_menOn) : ab_M l b D ab_cl cA (ab_E0 b) yX11_now (Cond.code yX11_now cX11_now 2 (some .int) :: ab_G) ({ frames := 4, cells := 0, slots := 0, locals := 400 } : Room) (ab_X (ab_T (L_X11_now f_X11_menOn)) 2) := by
  refine ab_meth (ret := (some .int)) (L_X11_now f_X11_menOn) (by decide) rfl fun p e R s m args below meth c o C => ?_
  unfold L_X11_now
  refine List.forall_mem_cons.mpr ⟨ok_aload_n C (show decode cX11_now 0 = .ok (.aload_n 0, 1) from dk_at dq36_14 (i := 0) rfl) rfl rfl, ?_⟩
  refine List.forall_mem_cons.mpr ⟨ok_iconst C (show decode cX11_now 1 = .ok (.iconst 0, 1) from dk_at dq36_14 (i := 1) rfl) (by decide) rfl, ?_⟩
  refine List.forall_mem_cons.mpr ⟨ok_putf C (wi_X11) tyX11 tyX11_ok nmX11 rfl (by decide) kw_1180 (Or.inl rfl) (Or.inl ⟨rfl, rfl⟩) (show decode cX11_now 2 = .ok (.putfield 1, 3) from dk_at dq36_14 (i := 2) rfl) rfl, ?_⟩
  refine List.forall_mem_cons.mpr ⟨ok_iload_n C (show decode cX11_now 5 = .ok (.iload_n 1, 1) from dk_at dq36_14 (i := 3) rfl) rfl rfl, ?_⟩
  refine List.forall_mem_cons.mpr ⟨ok_tab C (show decode cX11_now 6 = .ok (.tableswitch 96 0 6 #[42, 50, 60, 66, 72, 80, 88], 42) from dk_at dq36_14 (i := 4) rfl) (by decide) (by decide) (by decide), ?_⟩
  refine List.forall_mem_cons.mpr ⟨ok_aload_n C (show decode cX11_now 48 = .ok (.aload_n 0, 1) from dk_at dq36_14 (i := 5) rfl) rfl rfl, ?_⟩
  refine List.forall_mem_cons.mpr ⟨ok_getf C (wi_X11) rfl (by decide) kw_1186 (show decode cX11_now 49 = .ok (.getfield 33, 3) from dk_at dq36_14 (i := 6) rfl) rfl, ?_⟩
  refine List.forall_mem_cons.mpr ⟨ok_bipush C (show decode cX11_now 52 = .ok (.bipush 120, 2) from dk_at dq36_14 (i := 7) rfl) (by decide) rfl, ?_⟩
  refine List.forall_mem_cons.mpr ⟨ok_iaload C (show decode cX11_now 54 = .ok (.iaload, 1) from dk_at dq36_14 (i := 8) rfl) rfl, ?_⟩
  refine List.forall_mem_cons.mpr ⟨ok_ret C rfl (show decode cX11_now 55 = .ok (.ireturn, 1) from dk_at dq36_14 (i := 9) rfl), ?_⟩
  refine List.forall_mem_cons.mpr ⟨ok_aload_n C (show decode cX11_now 56 = .ok (.aload_n 0, 1) from dk_at dq36_14 (i := 10) rfl) rfl rfl, ?_⟩
  refine List.forall_mem_cons.mpr ⟨ok_getf C (wi_X11) rfl (by decide) kw_1186 (show decode cX11_now 57 = .ok (.getfield 33, 3) from dk_at dq36_14 (i := 11) rfl) rfl, ?_⟩
  refine List.forall_mem_cons.mpr ⟨ok_bipush C (show decode cX11_now 60 = .ok (.bipush 120, 2) from dk_at dq36_14 (i := 12) rfl) (by decide) rfl, ?_⟩
  refine List.forall_mem_cons.mpr ⟨ok_iaload C (show decode cX11_now 62 = .ok (.iaload, 1) from dk_at dq36_14 (i := 13) rfl) rfl, ?_⟩
  refine List.forall_mem_cons.mpr ⟨ok_iconst C (show decode cX11_now 63 = .ok (.iconst 2, 1) from dk_at dq36_14 (i := 14) rfl) (by decide) rfl, ?_⟩
  refine List.forall_mem_cons.mpr ⟨ok_irem C (show decode cX11_now 64 = .ok (.irem, 1) from dk_at dq36_14 (i := 15) rfl) rfl, ?_⟩
  refine List.forall_mem_cons.mpr ⟨ok_ret C rfl (show decode cX11_now 65 = .ok (.ireturn, 1) from dk_at dq36_15 (i := 0) rfl), ?_⟩
  refine List.forall_mem_cons.mpr ⟨ok_aload_n C (show decode cX11_now 66 = .ok (.aload_n 0, 1) from dk_at dq36_15 (i := 1) rfl) rfl rfl, ?_⟩
  refine List.forall_mem_cons.mpr ⟨ok_iconst C (show decode cX11_now 67 = .ok (.iconst 0, 1) from dk_at dq36_15 (i := 2) rfl) (by decide) rfl, ?_⟩
  refine List.forall_mem_cons.mpr ⟨ok_callV C h_X11_menOn ⟨rfl, rfl⟩ rfl kw_1469 kw_1466 kw_1468 kp_76 kw_11 rfl ds_X11_menOn ⟨by decide, by decide⟩ (show decode cX11_now 68 = .ok (.invokevirtual 280, 3) from dk_at dq36_15 (i := 3) rfl) rfl, ?_⟩
  refine List.forall_mem_cons.mpr ⟨ok_ret C rfl (show decode cX11_now 71 = .ok (.ireturn, 1) from dk_at dq36_15 (i := 4) rfl), ?_⟩
  refine List.forall_mem_cons.mpr ⟨ok_aload_n C (show decode cX11_now 72 = .ok (.aload_n 0, 1) from dk_at dq36_15 (i := 5) rfl) rfl rfl, ?_⟩
  refine List.forall_mem_cons.mpr ⟨ok_iconst C (show decode cX11_now 73 = .ok (.iconst 1, 1) from dk_at dq36_15 (i := 6) rfl) (by decide) rfl, ?_⟩
  refine List.forall_mem_cons.mpr ⟨ok_callV C h_X11_menOn ⟨rfl, rfl⟩ rfl kw_1469 kw_1466 kw_1468 kp_76 kw_11 rfl ds_X11_menOn ⟨by decide, by decide⟩ (show decode cX11_now 74 = .ok (.invokevirtual 280, 3) from dk_at dq36_15 (i := 7) rfl) rfl, ?_⟩
  refine List.forall_mem_cons.mpr ⟨ok_ret C rfl (show decode cX11_now 77 = .ok (.ireturn, 1) from dk_at dq36_15 (i := 8) rfl), ?_⟩
  refine List.forall_mem_cons.mpr ⟨ok_aload_n C (show decode cX11_now 78 = .ok (.aload_n 0, 1) from dk_at dq36_15 (i := 9) rfl) rfl rfl, ?_⟩
  refine List.forall_mem_cons.mpr ⟨ok_getf C (wi_X11) rfl (by decide) kw_1186 (show decode cX11_now 79 = .ok (.getfield 33, 3) from dk_at dq36_15 (i := 10) rfl) rfl, ?_⟩
  refine List.forall_mem_cons.mpr ⟨ok_bipush C (show decode cX11_now 82 = .ok (.bipush 121, 2) from dk_at dq36_15 (i := 11) rfl) (by decide) rfl, ?_⟩
  refine List.forall_mem_cons.mpr ⟨ok_iaload C (show decode cX11_now 84 = .ok (.iaload, 1) from dk_at dq36_15 (i := 12) rfl) rfl, ?_⟩
  refine List.forall_mem_cons.mpr ⟨ok_ret C rfl (show decode cX11_now 85 = .ok (.ireturn, 1) from dk_at dq36_15 (i := 13) rfl), ?_⟩
  refine List.forall_mem_cons.mpr ⟨ok_aload_n C (show decode cX11_now 86 = .ok (.aload_n 0, 1) from dk_at dq36_15 (i := 14) rfl) rfl rfl, ?_⟩
  refine List.forall_mem_cons.mpr ⟨ok_getf C (wi_X11) rfl (by decide) kw_1186 (show decode cX11_now 87 = .ok (.getfield 33, 3) from dk_at dq36_15 (i := 15) rfl) rfl, ?_⟩
  refine List.forall_mem_cons.mpr ⟨ok_bipush C (show decode cX11_now 90 = .ok (.bipush 122, 2) from dk_at dq36_16 (i := 0) rfl) (by decide) rfl, ?_⟩
  refine List.forall_mem_cons.mpr ⟨ok_iaload C (show decode cX11_now 92 = .ok (.iaload, 1) from dk_at dq36_16 (i := 1) rfl) rfl, ?_⟩
  refine List.forall_mem_cons.mpr ⟨ok_ret C rfl (show decode cX11_now 93 = .ok (.ireturn, 1) from dk_at dq36_16 (i := 2) rfl), ?_⟩
  refine List.forall_mem_cons.mpr ⟨ok_aload_n C (show decode cX11_now 94 = .ok (.aload_n 0, 1) from dk_at dq36_16 (i := 3) rfl) rfl rfl, ?_⟩
  refine List.forall_mem_cons.mpr ⟨ok_getf C (wi_X11) rfl (by decide) kw_1186 (show decode cX11_now 95 = .ok (.getfield 33, 3) from dk_at dq36_16 (i := 4) rfl) rfl, ?_⟩
  refine List.forall_mem_cons.mpr ⟨ok_bipush C (show decode cX11_now 98 = .ok (.bipush 123, 2) from dk_at dq36_16 (i := 5) rfl) (by decide) rfl, ?_⟩
  refine List.forall_mem_cons.mpr ⟨ok_iaload C (show decode cX11_now 100 = .ok (.iaload, 1) from dk_at dq36_16 (i := 6) rfl) rfl, ?_⟩
  refine List.forall_mem_cons.mpr ⟨ok_ret C rfl (show decode cX11_now 101 = .ok (.ireturn, 1) from dk_at dq36_16 (i := 7) rfl), ?_⟩
  refine List.forall_mem_cons.mpr ⟨ok_iconst C (show decode cX11_now 102 = .ok (.iconst (-1), 1) from dk_at dq36_16 (i := 8) rfl) (by decide) rfl, ?_⟩
  refine List.forall_mem_cons.mpr ⟨ok_ret C rfl (show decode cX11_now 103 = .ok (.ireturn, 1) from dk_at dq36_16 (i := 9) rfl), ?_⟩
  exact fun _ h => absurd h List.not_mem_nil
def L_X11_goingSet (f_X11_isDead : List Value → ab_H → Option ab_O) (f_X11_missedBy : List Value → ab_H → Option ab_O) : List (Nat × ab_A) := [
  (0, ab_nx 1 (ab_aload 0)),
  (1, ab_nx 4 (ab_getf 11 6)),
  (4, ab_nx 6 (ab_lit (.int 120))),
  (6, ab_nx 7 (ab_ald 1)),
  (7, ab_nx 8 (ab_lit (.int 2))),
  (8, ab_nx 9 ab_irem),
  (9, ab_nx 10 (ab_istore 1)),
  (10, ab_nx 11 (ab_lit (.int 0))),
  (11, ab_nx 12 (ab_istore 2)),
  (12, ab_nx 13 (ab_aload 0)),
  (13, ab_nx 14 (ab_aload 0)),
  (14, ab_nx 17 (ab_getf 11 6)),
  (17, ab_nx 18 (ab_lit (.int 2))),
  (18, ab_nx 19 (ab_ald 1)),
  (19, ab_nx 22 (ab_putf 11 22 0)),
  (22, ab_nx 23 (ab_lit (.int 0))),
  (23, ab_nx 24 (ab_istore 3)),
  (24, ab_nx 25 (ab_iload 3)),
  (25, ab_nx 26 (ab_aload 0)),
  (26, ab_nx 29 (ab_getf 11 6)),
  (29, ab_nx 30 (ab_lit (.int 1))),
  (30, ab_nx 31 (ab_ald 1)),
  (31, ab_icmp 34 97 (fun x y => decide (y ≤ x))),
  (34, ab_nx 35 (ab_aload 0)),
  (35, ab_nx 36 (ab_iload 3)),
  (36, ab_nx 39 (ab_callV 2 11 f_X11_isDead 0 0 0 0)),
  (39, ab_if 42 91 (fun x => !decide (x = 0))),
  (42, ab_nx 43 (ab_aload 0)),
  (43, ab_nx 46 (ab_getf 11 6)),
  (46, ab_nx 49 (ab_lit (.int 172))),
  (49, ab_nx 50 (ab_iload 3)),
  (50, ab_nx 51 (ab_bin (fun x y => x + y))),
  (51, ab_nx 52 (ab_ald 1)),
  (52, ab_nx 53 (ab_iload 1)),
  (53, ab_icmp 56 91 (fun x y => !decide (x = y))),
  (56, ab_nx 57 (ab_aload 0)),
  (57, ab_nx 60 (ab_getf 11 22)),
  (60, ab_nx 61 (ab_lit (.int 2))),
  (61, ab_icmp 64 91 (fun x y => decide (x < y))),
  (64, ab_nx 65 (ab_aload 0)),
  (65, ab_nx 66 (ab_iload 3)),
  (66, ab_nx 69 (ab_callV 2 11 f_X11_missedBy 0 0 0 0)),
  (69, ab_if 72 75 (fun x => !decide (x = 0))),
  (72, ab_goto 91),
  (75, ab_nx 76 (ab_iload 2)),
  (76, ab_nx 77 (ab_lit (.int 1))),
  (77, ab_nx 78 (ab_iload 3)),
  (78, ab_nx 79 (ab_bin (fun x y => x <<< (y &&& 31)))),
  (79, ab_nx 80 (ab_bin (fun x y => x ||| y))),
  (80, ab_nx 81 (ab_istore 2)),
  (81, ab_nx 82 (ab_aload 0)),
  (82, ab_nx 83 ab_dup),
  (83, ab_nx 86 (ab_getf 11 22)),
  (86, ab_nx 87 (ab_lit (.int 2))),
  (87, ab_nx 88 (ab_bin (fun x y => x - y))),
  (88, ab_nx 91 (ab_putf 11 22 0)),
  (91, ab_nx 94 (ab_iinc 3 1)),
  (94, ab_goto 24),
  (97, ab_nx 98 (ab_iload 2)),
  (98, ab_ret 0 0)]
set_option maxRecDepth 100000 in
theorem dq36_17 : ([(0, .aload_n 0, 1), (1, .getfield 33, 3), (4, .bipush 120, 2), (6, .iaload, 1), (7, .iconst 2, 1), (8, .irem, 1), (9, .istore_n 1, 1), (10, .iconst 0, 1), (11, .istore_n 2, 1), (12, .aload_n 0, 1), (13, .aload_n 0, 1), (14, .getfield 33, 3), (17, .iconst 2, 1), (18, .iaload, 1), (19, .putfield 283, 3), (22, .iconst 0, 1)] : List (Nat × Instr × Nat)).all (fun q => decide (decode cX11_goingSet q.1 = .ok q.2)) = true := by decide +kernel
set_option maxRecDepth 100000 in
theorem dq36_18 : ([(23, .istore_n 3, 1), (24, .iload_n 3, 1), (25, .aload_n 0, 1), (26, .getfield 33, 3), (29, .iconst 1, 1), (30, .iaload, 1), (31, .if_icmp .ge 66, 3), (34, .aload_n 0, 1), (35, .iload_n 3, 1), (36, .invokevirtual 257, 3), (39, .ifCond .ne 52, 3), (42, .aload_n 0, 1), (43, .getfield 33, 3), (46, .sipush 172, 3), (49, .iload_n 3, 1), (50, .iadd, 1)] : List (Nat × Instr × Nat)).all (fun q => decide (decode cX11_goingSet q.1 = .ok q.2)) = true := by decide +kernel
set_option maxRecDepth 100000 in
theorem dq36_19 : ([(51, .iaload, 1), (52, .iload_n 1, 1), (53, .if_icmp .ne 38, 3), (56, .aload_n 0, 1), (57, .getfield 283, 3), (60, .iconst 2, 1), (61, .if_icmp .lt 30, 3), (64, .aload_n 0, 1), (65, .iload_n 3, 1), (66, .invokevirtual 273, 3), (69, .ifCond .ne 6, 3), (72, .goto 19, 3), (75, .iload_n 2, 1), (76, .iconst 1, 1), (77, .iload_n 3, 1), (78, .ishl, 1)] : List (Nat × Instr × Nat)).all (fun q => decide (decode cX11_goingSet q.1 = .ok q.2)) = true := by decide +kernel
set_option maxRecDepth 100000 in
theorem dq36_20 : ([(79, .ior, 1), (80, .istore_n 2, 1), (81, .aload_n 0, 1), (82, .dup, 1), (83, .getfield 283, 3), (86, .iconst 2, 1), (87, .isub, 1), (88, .putfield 283, 3), (91, .iinc 3 1, 3), (94, .goto (-70), 3), (97, .iload_n 2, 1), (98, .ireturn, 1)] : List (Nat × Instr × Nat)).all (fun q => decide (decode cX11_goingSet q.1 = .ok q.2)) = true := by decide +kernel
set_option maxRecDepth 100000 in
set_option maxHeartbeats 4000000 in
theorem M_X11_goingSet {l : Launch} {b : ab_B} {D : va_G} {cA : Nat → ClassId} {f_X11_isDead : List Value → ab_H → Option ab_O} (h_X11_isDead : ab_M l b D ab_cl cA (ab_E0 b) yX11_isDead (Cond.code yX11_isDead cX11_isDead 2 (some .boolean) :: ab_G) ({ frames := 2, cells := 0, slots := 0, locals := 200 } : Room) f_X11_isDead) {f_X11_missedBy : List Value → ab_H → Option ab_O} (h_X11_missedBy : ab_M l b D ab_cl cA (ab_E0 b) yX11_missedBy (Cond.code yX11_missedBy cX11_missedBy 4 (some .int) :: ab_G) ({ frames := 5, cells := 0, slots := 0, locals := 500 } : Room) f_X11_missedBy) : ab_M l b D ab_cl cA (ab_E0 b) yX11_goingSet (Cond.code yX11_goingSet cX11_goingSet 4 (some .int) :: ab_G) ({ frames := 6, cells := 0, slots := 0, locals := 600 } : Room) (ab_X (ab_T (L_X11_goingSet f_X11_isDead f_X11_missedBy)) 4) := by
  refine ab_meth (ret := (some .int)) (L_X11_goingSet f_X11_isDead f_X11_missedBy) (by decide) rfl fun p e R s m args below meth c o C => ?_
  unfold L_X11_goingSet
  refine List.forall_mem_cons.mpr ⟨ok_aload_n C (show decode cX11_goingSet 0 = .ok (.aload_n 0, 1) from dk_at dq36_17 (i := 0) rfl) rfl rfl, ?_⟩
  refine List.forall_mem_cons.mpr ⟨ok_getf C (wi_X11) rfl (by decide) kw_1186 (show decode cX11_goingSet 1 = .ok (.getfield 33, 3) from dk_at dq36_17 (i := 1) rfl) rfl, ?_⟩
  refine List.forall_mem_cons.mpr ⟨ok_bipush C (show decode cX11_goingSet 4 = .ok (.bipush 120, 2) from dk_at dq36_17 (i := 2) rfl) (by decide) rfl, ?_⟩
  refine List.forall_mem_cons.mpr ⟨ok_iaload C (show decode cX11_goingSet 6 = .ok (.iaload, 1) from dk_at dq36_17 (i := 3) rfl) rfl, ?_⟩
  refine List.forall_mem_cons.mpr ⟨ok_iconst C (show decode cX11_goingSet 7 = .ok (.iconst 2, 1) from dk_at dq36_17 (i := 4) rfl) (by decide) rfl, ?_⟩
  refine List.forall_mem_cons.mpr ⟨ok_irem C (show decode cX11_goingSet 8 = .ok (.irem, 1) from dk_at dq36_17 (i := 5) rfl) rfl, ?_⟩
  refine List.forall_mem_cons.mpr ⟨ok_istore_n C (show decode cX11_goingSet 9 = .ok (.istore_n 1, 1) from dk_at dq36_17 (i := 6) rfl) rfl (by decide) rfl, ?_⟩
  refine List.forall_mem_cons.mpr ⟨ok_iconst C (show decode cX11_goingSet 10 = .ok (.iconst 0, 1) from dk_at dq36_17 (i := 7) rfl) (by decide) rfl, ?_⟩
  refine List.forall_mem_cons.mpr ⟨ok_istore_n C (show decode cX11_goingSet 11 = .ok (.istore_n 2, 1) from dk_at dq36_17 (i := 8) rfl) rfl (by decide) rfl, ?_⟩
  refine List.forall_mem_cons.mpr ⟨ok_aload_n C (show decode cX11_goingSet 12 = .ok (.aload_n 0, 1) from dk_at dq36_17 (i := 9) rfl) rfl rfl, ?_⟩
  refine List.forall_mem_cons.mpr ⟨ok_aload_n C (show decode cX11_goingSet 13 = .ok (.aload_n 0, 1) from dk_at dq36_17 (i := 10) rfl) rfl rfl, ?_⟩
  refine List.forall_mem_cons.mpr ⟨ok_getf C (wi_X11) rfl (by decide) kw_1186 (show decode cX11_goingSet 14 = .ok (.getfield 33, 3) from dk_at dq36_17 (i := 11) rfl) rfl, ?_⟩
  refine List.forall_mem_cons.mpr ⟨ok_iconst C (show decode cX11_goingSet 17 = .ok (.iconst 2, 1) from dk_at dq36_17 (i := 12) rfl) (by decide) rfl, ?_⟩
  refine List.forall_mem_cons.mpr ⟨ok_iaload C (show decode cX11_goingSet 18 = .ok (.iaload, 1) from dk_at dq36_17 (i := 13) rfl) rfl, ?_⟩
  refine List.forall_mem_cons.mpr ⟨ok_putf C (wi_X11) tyX11 tyX11_ok nmX11 rfl (by decide) kw_1202 (Or.inl rfl) (Or.inl ⟨rfl, rfl⟩) (show decode cX11_goingSet 19 = .ok (.putfield 283, 3) from dk_at dq36_17 (i := 14) rfl) rfl, ?_⟩
  refine List.forall_mem_cons.mpr ⟨ok_iconst C (show decode cX11_goingSet 22 = .ok (.iconst 0, 1) from dk_at dq36_17 (i := 15) rfl) (by decide) rfl, ?_⟩
  refine List.forall_mem_cons.mpr ⟨ok_istore_n C (show decode cX11_goingSet 23 = .ok (.istore_n 3, 1) from dk_at dq36_18 (i := 0) rfl) rfl (by decide) rfl, ?_⟩
  refine List.forall_mem_cons.mpr ⟨ok_iload_n C (show decode cX11_goingSet 24 = .ok (.iload_n 3, 1) from dk_at dq36_18 (i := 1) rfl) rfl rfl, ?_⟩
  refine List.forall_mem_cons.mpr ⟨ok_aload_n C (show decode cX11_goingSet 25 = .ok (.aload_n 0, 1) from dk_at dq36_18 (i := 2) rfl) rfl rfl, ?_⟩
  refine List.forall_mem_cons.mpr ⟨ok_getf C (wi_X11) rfl (by decide) kw_1186 (show decode cX11_goingSet 26 = .ok (.getfield 33, 3) from dk_at dq36_18 (i := 3) rfl) rfl, ?_⟩
  refine List.forall_mem_cons.mpr ⟨ok_iconst C (show decode cX11_goingSet 29 = .ok (.iconst 1, 1) from dk_at dq36_18 (i := 4) rfl) (by decide) rfl, ?_⟩
  refine List.forall_mem_cons.mpr ⟨ok_iaload C (show decode cX11_goingSet 30 = .ok (.iaload, 1) from dk_at dq36_18 (i := 5) rfl) rfl, ?_⟩
  refine List.forall_mem_cons.mpr ⟨ok_icmpge C (show decode cX11_goingSet 31 = .ok (.if_icmp .ge 66, 3) from dk_at dq36_18 (i := 6) rfl) (tg := 97) (by decide) rfl rfl, ?_⟩
  refine List.forall_mem_cons.mpr ⟨ok_aload_n C (show decode cX11_goingSet 34 = .ok (.aload_n 0, 1) from dk_at dq36_18 (i := 7) rfl) rfl rfl, ?_⟩
  refine List.forall_mem_cons.mpr ⟨ok_iload_n C (show decode cX11_goingSet 35 = .ok (.iload_n 3, 1) from dk_at dq36_18 (i := 8) rfl) rfl rfl, ?_⟩
  refine List.forall_mem_cons.mpr ⟨ok_callV C h_X11_isDead ⟨rfl, rfl⟩ rfl kw_1441 kw_1438 kw_1440 kp_71 kw_11 rfl ds_X11_isDead ⟨by decide, by decide⟩ (show decode cX11_goingSet 36 = .ok (.invokevirtual 257, 3) from dk_at dq36_18 (i := 9) rfl) rfl, ?_⟩
  refine List.forall_mem_cons.mpr ⟨ok_ifne C (show decode cX11_goingSet 39 = .ok (.ifCond .ne 52, 3) from dk_at dq36_18 (i := 10) rfl) (tg := 91) (by decide) rfl rfl, ?_⟩
  refine List.forall_mem_cons.mpr ⟨ok_aload_n C (show decode cX11_goingSet 42 = .ok (.aload_n 0, 1) from dk_at dq36_18 (i := 11) rfl) rfl rfl, ?_⟩
  refine List.forall_mem_cons.mpr ⟨ok_getf C (wi_X11) rfl (by decide) kw_1186 (show decode cX11_goingSet 43 = .ok (.getfield 33, 3) from dk_at dq36_18 (i := 12) rfl) rfl, ?_⟩
  refine List.forall_mem_cons.mpr ⟨ok_sipush C (show decode cX11_goingSet 46 = .ok (.sipush 172, 3) from dk_at dq36_18 (i := 13) rfl) (by decide) rfl, ?_⟩
  refine List.forall_mem_cons.mpr ⟨ok_iload_n C (show decode cX11_goingSet 49 = .ok (.iload_n 3, 1) from dk_at dq36_18 (i := 14) rfl) rfl rfl, ?_⟩
  refine List.forall_mem_cons.mpr ⟨ok_iadd C (show decode cX11_goingSet 50 = .ok (.iadd, 1) from dk_at dq36_18 (i := 15) rfl) rfl, ?_⟩
  refine List.forall_mem_cons.mpr ⟨ok_iaload C (show decode cX11_goingSet 51 = .ok (.iaload, 1) from dk_at dq36_19 (i := 0) rfl) rfl, ?_⟩
  refine List.forall_mem_cons.mpr ⟨ok_iload_n C (show decode cX11_goingSet 52 = .ok (.iload_n 1, 1) from dk_at dq36_19 (i := 1) rfl) rfl rfl, ?_⟩
  refine List.forall_mem_cons.mpr ⟨ok_icmpne C (show decode cX11_goingSet 53 = .ok (.if_icmp .ne 38, 3) from dk_at dq36_19 (i := 2) rfl) (tg := 91) (by decide) rfl rfl, ?_⟩
  refine List.forall_mem_cons.mpr ⟨ok_aload_n C (show decode cX11_goingSet 56 = .ok (.aload_n 0, 1) from dk_at dq36_19 (i := 3) rfl) rfl rfl, ?_⟩
  refine List.forall_mem_cons.mpr ⟨ok_getf C (wi_X11) rfl (by decide) kw_1202 (show decode cX11_goingSet 57 = .ok (.getfield 283, 3) from dk_at dq36_19 (i := 4) rfl) rfl, ?_⟩
  refine List.forall_mem_cons.mpr ⟨ok_iconst C (show decode cX11_goingSet 60 = .ok (.iconst 2, 1) from dk_at dq36_19 (i := 5) rfl) (by decide) rfl, ?_⟩
  refine List.forall_mem_cons.mpr ⟨ok_icmplt C (show decode cX11_goingSet 61 = .ok (.if_icmp .lt 30, 3) from dk_at dq36_19 (i := 6) rfl) (tg := 91) (by decide) rfl rfl, ?_⟩
  refine List.forall_mem_cons.mpr ⟨ok_aload_n C (show decode cX11_goingSet 64 = .ok (.aload_n 0, 1) from dk_at dq36_19 (i := 7) rfl) rfl rfl, ?_⟩
  refine List.forall_mem_cons.mpr ⟨ok_iload_n C (show decode cX11_goingSet 65 = .ok (.iload_n 3, 1) from dk_at dq36_19 (i := 8) rfl) rfl rfl, ?_⟩
  refine List.forall_mem_cons.mpr ⟨ok_callV C h_X11_missedBy ⟨rfl, rfl⟩ rfl kw_1445 kw_1442 kw_1444 kp_72 kw_11 rfl ds_X11_missedBy ⟨by decide, by decide⟩ (show decode cX11_goingSet 66 = .ok (.invokevirtual 273, 3) from dk_at dq36_19 (i := 9) rfl) rfl, ?_⟩
  refine List.forall_mem_cons.mpr ⟨ok_ifne C (show decode cX11_goingSet 69 = .ok (.ifCond .ne 6, 3) from dk_at dq36_19 (i := 10) rfl) (tg := 75) (by decide) rfl rfl, ?_⟩
  refine List.forall_mem_cons.mpr ⟨ok_goto C (show decode cX11_goingSet 72 = .ok (.goto 19, 3) from dk_at dq36_19 (i := 11) rfl) (tg := 91) (by decide) rfl, ?_⟩
  refine List.forall_mem_cons.mpr ⟨ok_iload_n C (show decode cX11_goingSet 75 = .ok (.iload_n 2, 1) from dk_at dq36_19 (i := 12) rfl) rfl rfl, ?_⟩
  refine List.forall_mem_cons.mpr ⟨ok_iconst C (show decode cX11_goingSet 76 = .ok (.iconst 1, 1) from dk_at dq36_19 (i := 13) rfl) (by decide) rfl, ?_⟩
  refine List.forall_mem_cons.mpr ⟨ok_iload_n C (show decode cX11_goingSet 77 = .ok (.iload_n 3, 1) from dk_at dq36_19 (i := 14) rfl) rfl rfl, ?_⟩
  refine List.forall_mem_cons.mpr ⟨ok_ishl C (show decode cX11_goingSet 78 = .ok (.ishl, 1) from dk_at dq36_19 (i := 15) rfl) rfl, ?_⟩
  refine List.forall_mem_cons.mpr ⟨ok_ior C (show decode cX11_goingSet 79 = .ok (.ior, 1) from dk_at dq36_20 (i := 0) rfl) rfl, ?_⟩
  refine List.forall_mem_cons.mpr ⟨ok_istore_n C (show decode cX11_goingSet 80 = .ok (.istore_n 2, 1) from dk_at dq36_20 (i := 1) rfl) rfl (by decide) rfl, ?_⟩
  refine List.forall_mem_cons.mpr ⟨ok_aload_n C (show decode cX11_goingSet 81 = .ok (.aload_n 0, 1) from dk_at dq36_20 (i := 2) rfl) rfl rfl, ?_⟩
  refine List.forall_mem_cons.mpr ⟨ok_dup C (show decode cX11_goingSet 82 = .ok (.dup, 1) from dk_at dq36_20 (i := 3) rfl) rfl, ?_⟩
  refine List.forall_mem_cons.mpr ⟨ok_getf C (wi_X11) rfl (by decide) kw_1202 (show decode cX11_goingSet 83 = .ok (.getfield 283, 3) from dk_at dq36_20 (i := 4) rfl) rfl, ?_⟩
  refine List.forall_mem_cons.mpr ⟨ok_iconst C (show decode cX11_goingSet 86 = .ok (.iconst 2, 1) from dk_at dq36_20 (i := 5) rfl) (by decide) rfl, ?_⟩
  refine List.forall_mem_cons.mpr ⟨ok_isub C (show decode cX11_goingSet 87 = .ok (.isub, 1) from dk_at dq36_20 (i := 6) rfl) rfl, ?_⟩
  refine List.forall_mem_cons.mpr ⟨ok_putf C (wi_X11) tyX11 tyX11_ok nmX11 rfl (by decide) kw_1202 (Or.inl rfl) (Or.inl ⟨rfl, rfl⟩) (show decode cX11_goingSet 88 = .ok (.putfield 283, 3) from dk_at dq36_20 (i := 7) rfl) rfl, ?_⟩
  refine List.forall_mem_cons.mpr ⟨ok_iinc C (show decode cX11_goingSet 91 = .ok (.iinc 3 1, 3) from dk_at dq36_20 (i := 8) rfl) (by decide) (by decide) rfl, ?_⟩
  refine List.forall_mem_cons.mpr ⟨ok_goto C (show decode cX11_goingSet 94 = .ok (.goto (-70), 3) from dk_at dq36_20 (i := 9) rfl) (tg := 24) (by decide) rfl, ?_⟩
  refine List.forall_mem_cons.mpr ⟨ok_iload_n C (show decode cX11_goingSet 97 = .ok (.iload_n 2, 1) from dk_at dq36_20 (i := 10) rfl) rfl rfl, ?_⟩
  refine List.forall_mem_cons.mpr ⟨ok_ret C rfl (show decode cX11_goingSet 98 = .ok (.ireturn, 1) from dk_at dq36_20 (i := 11) rfl), ?_⟩
  exact fun _ h => absurd h List.not_mem_nil
def L_X11_goesOf (f_X11_cell : List Value → ab_H → Option ab_O) (f_X11_lackOf : List Value → ab_H → Option ab_O) (f_X11_lesser : List Value → ab_H → Option ab_O) : List (Nat × ab_A) := [
  (0, ab_nx 1 (ab_aload 0)),
  (1, ab_nx 4 (ab_getf 11 6)),
  (4, ab_nx 6 (ab_lit (.int 120))),
  (6, ab_nx 7 (ab_ald 1)),
  (7, ab_nx 8 (ab_lit (.int 2))),
  (8, ab_nx 9 ab_irem),
  (9, ab_nx 10 (ab_istore 2)),
  (10, ab_nx 11 (ab_aload 0)),
  (11, ab_nx 14 (ab_getf 11 22)),
  (14, ab_nx 15 (ab_aload 0)),
  (15, ab_nx 18 (ab_getf 11 6)),
  (18, ab_nx 20 (ab_lit (.int 124))),
  (20, ab_nx 21 (ab_iload 1)),
  (21, ab_nx 22 (ab_iload 2)),
  (22, ab_nx 25 (ab_call 2 f_X11_cell 0 0 0 0)),
  (25, ab_nx 26 (ab_bin (fun x y => x + y))),
  (26, ab_nx 27 (ab_ald 1)),
  (27, ab_nx 28 (ab_aload 0)),
  (28, ab_nx 29 (ab_iload 1)),
  (29, ab_nx 30 (ab_lit (.int 1))),
  (30, ab_nx 31 (ab_iload 2)),
  (31, ab_nx 32 (ab_bin (fun x y => x - y))),
  (32, ab_nx 35 (ab_callV 3 11 f_X11_lackOf 0 0 0 0)),
  (35, ab_nx 38 (ab_call 2 f_X11_lesser 0 0 0 0)),
  (38, ab_nx 41 (ab_call 2 f_X11_lesser 0 0 0 0)),
  (41, ab_ret 0 0)]
set_option maxRecDepth 100000 in
theorem dq36_21 : ([(0, .aload_n 0, 1), (1, .getfield 33, 3), (4, .bipush 120, 2), (6, .iaload, 1), (7, .iconst 2, 1), (8, .irem, 1), (9, .istore_n 2, 1), (10, .aload_n 0, 1), (11, .getfield 283, 3), (14, .aload_n 0, 1), (15, .getfield 33, 3), (18, .bipush 124, 2), (20, .iload_n 1, 1), (21, .iload_n 2, 1), (22, .invokestatic 245, 3), (25, .iadd, 1)] : List (Nat × Instr × Nat)).all (fun q => decide (decode cX11_goesOf q.1 = .ok q.2)) = true := by decide +kernel
set_option maxRecDepth 100000 in
theorem dq36_22 : ([(26, .iaload, 1), (27, .aload_n 0, 1), (28, .iload_n 1, 1), (29, .iconst 1, 1), (30, .iload_n 2, 1), (31, .isub, 1), (32, .invokevirtual 248, 3), (35, .invokestatic 286, 3), (38, .invokestatic 286, 3), (41, .ireturn, 1)] : List (Nat × Instr × Nat)).all (fun q => decide (decode cX11_goesOf q.1 = .ok q.2)) = true := by decide +kernel
set_option maxRecDepth 100000 in
set_option maxHeartbeats 4000000 in
theorem M_X11_goesOf {l : Launch} {b : ab_B} {D : va_G} {cA : Nat → ClassId} {f_X11_cell : List Value → ab_H → Option ab_O} (h_X11_cell : ab_M l b D ab_cl cA (ab_E0 b) yX11_cell (Cond.code yX11_cell cX11_cell 2 (some .int) :: ab_G) ({ frames := 1, cells := 0, slots := 0, locals := 100 } : Room) f_X11_cell) {f_X11_lackOf : List Value → ab_H → Option ab_O} (h_X11_lackOf : ab_M l b D ab_cl cA (ab_E0 b) yX11_lackOf (Cond.code yX11_lackOf cX11_lackOf 4 (some .int) :: ab_G) ({ frames := 2, cells := 0, slots := 0, locals := 200 } : Room) f_X11_lackOf) {f_X11_lesser : List Value → ab_H → Option ab_O} (h_X11_lesser : ab_M l b D ab_cl cA (ab_E0 b) yX11_lesser (Cond.code yX11_lesser cX11_lesser 2 (some .int) :: ab_G) ({ frames := 1, cells := 0, slots := 0, locals := 100 } : Room) f_X11_lesser) : ab_M l b D ab_cl cA (ab_E0 b) yX11_goesOf (Cond.code yX11_goesOf cX11_goesOf 3 (some .int) :: ab_G) ({ frames := 3, cells := 0, slots := 0, locals := 300 } : Room) (ab_X (ab_T (L_X11_goesOf f_X11_cell f_X11_lackOf f_X11_lesser)) 3) := by
  refine ab_meth (ret := (some .int)) (L_X11_goesOf f_X11_cell f_X11_lackOf f_X11_lesser) (by decide) rfl fun p e R s m args below meth c o C => ?_
  unfold L_X11_goesOf
  refine List.forall_mem_cons.mpr ⟨ok_aload_n C (show decode cX11_goesOf 0 = .ok (.aload_n 0, 1) from dk_at dq36_21 (i := 0) rfl) rfl rfl, ?_⟩
  refine List.forall_mem_cons.mpr ⟨ok_getf C (wi_X11) rfl (by decide) kw_1186 (show decode cX11_goesOf 1 = .ok (.getfield 33, 3) from dk_at dq36_21 (i := 1) rfl) rfl, ?_⟩
  refine List.forall_mem_cons.mpr ⟨ok_bipush C (show decode cX11_goesOf 4 = .ok (.bipush 120, 2) from dk_at dq36_21 (i := 2) rfl) (by decide) rfl, ?_⟩
  refine List.forall_mem_cons.mpr ⟨ok_iaload C (show decode cX11_goesOf 6 = .ok (.iaload, 1) from dk_at dq36_21 (i := 3) rfl) rfl, ?_⟩
  refine List.forall_mem_cons.mpr ⟨ok_iconst C (show decode cX11_goesOf 7 = .ok (.iconst 2, 1) from dk_at dq36_21 (i := 4) rfl) (by decide) rfl, ?_⟩
  refine List.forall_mem_cons.mpr ⟨ok_irem C (show decode cX11_goesOf 8 = .ok (.irem, 1) from dk_at dq36_21 (i := 5) rfl) rfl, ?_⟩
  refine List.forall_mem_cons.mpr ⟨ok_istore_n C (show decode cX11_goesOf 9 = .ok (.istore_n 2, 1) from dk_at dq36_21 (i := 6) rfl) rfl (by decide) rfl, ?_⟩
  refine List.forall_mem_cons.mpr ⟨ok_aload_n C (show decode cX11_goesOf 10 = .ok (.aload_n 0, 1) from dk_at dq36_21 (i := 7) rfl) rfl rfl, ?_⟩
  refine List.forall_mem_cons.mpr ⟨ok_getf C (wi_X11) rfl (by decide) kw_1202 (show decode cX11_goesOf 11 = .ok (.getfield 283, 3) from dk_at dq36_21 (i := 8) rfl) rfl, ?_⟩
  refine List.forall_mem_cons.mpr ⟨ok_aload_n C (show decode cX11_goesOf 14 = .ok (.aload_n 0, 1) from dk_at dq36_21 (i := 9) rfl) rfl rfl, ?_⟩
  refine List.forall_mem_cons.mpr ⟨ok_getf C (wi_X11) rfl (by decide) kw_1186 (show decode cX11_goesOf 15 = .ok (.getfield 33, 3) from dk_at dq36_21 (i := 10) rfl) rfl, ?_⟩
  refine List.forall_mem_cons.mpr ⟨ok_bipush C (show decode cX11_goesOf 18 = .ok (.bipush 124, 2) from dk_at dq36_21 (i := 11) rfl) (by decide) rfl, ?_⟩
  refine List.forall_mem_cons.mpr ⟨ok_iload_n C (show decode cX11_goesOf 20 = .ok (.iload_n 1, 1) from dk_at dq36_21 (i := 12) rfl) rfl rfl, ?_⟩
  refine List.forall_mem_cons.mpr ⟨ok_iload_n C (show decode cX11_goesOf 21 = .ok (.iload_n 2, 1) from dk_at dq36_21 (i := 13) rfl) rfl rfl, ?_⟩
  refine List.forall_mem_cons.mpr ⟨ok_callS C h_X11_cell ⟨rfl, rfl⟩ kw_1413 kw_1411 kw_1412 kw_11 ds_X11_cell ⟨by decide, by decide⟩ (show decode cX11_goesOf 22 = .ok (.invokestatic 245, 3) from dk_at dq36_21 (i := 14) rfl) rfl, ?_⟩
  refine List.forall_mem_cons.mpr ⟨ok_iadd C (show decode cX11_goesOf 25 = .ok (.iadd, 1) from dk_at dq36_21 (i := 15) rfl) rfl, ?_⟩
  refine List.forall_mem_cons.mpr ⟨ok_iaload C (show decode cX11_goesOf 26 = .ok (.iaload, 1) from dk_at dq36_22 (i := 0) rfl) rfl, ?_⟩
  refine List.forall_mem_cons.mpr ⟨ok_aload_n C (show decode cX11_goesOf 27 = .ok (.aload_n 0, 1) from dk_at dq36_22 (i := 1) rfl) rfl rfl, ?_⟩
  refine List.forall_mem_cons.mpr ⟨ok_iload_n C (show decode cX11_goesOf 28 = .ok (.iload_n 1, 1) from dk_at dq36_22 (i := 2) rfl) rfl rfl, ?_⟩
  refine List.forall_mem_cons.mpr ⟨ok_iconst C (show decode cX11_goesOf 29 = .ok (.iconst 1, 1) from dk_at dq36_22 (i := 3) rfl) (by decide) rfl, ?_⟩
  refine List.forall_mem_cons.mpr ⟨ok_iload_n C (show decode cX11_goesOf 30 = .ok (.iload_n 2, 1) from dk_at dq36_22 (i := 4) rfl) rfl rfl, ?_⟩
  refine List.forall_mem_cons.mpr ⟨ok_isub C (show decode cX11_goesOf 31 = .ok (.isub, 1) from dk_at dq36_22 (i := 5) rfl) rfl, ?_⟩
  refine List.forall_mem_cons.mpr ⟨ok_callV C h_X11_lackOf ⟨rfl, rfl⟩ rfl kw_1417 kw_1414 kw_1416 kp_67 kw_11 rfl ds_X11_lackOf ⟨by decide, by decide⟩ (show decode cX11_goesOf 32 = .ok (.invokevirtual 248, 3) from dk_at dq36_22 (i := 6) rfl) rfl, ?_⟩
  refine List.forall_mem_cons.mpr ⟨ok_callS C h_X11_lesser ⟨rfl, rfl⟩ kw_1524 kw_1522 kw_1523 kw_11 ds_X11_lesser ⟨by decide, by decide⟩ (show decode cX11_goesOf 35 = .ok (.invokestatic 286, 3) from dk_at dq36_22 (i := 7) rfl) rfl, ?_⟩
  refine List.forall_mem_cons.mpr ⟨ok_callS C h_X11_lesser ⟨rfl, rfl⟩ kw_1524 kw_1522 kw_1523 kw_11 ds_X11_lesser ⟨by decide, by decide⟩ (show decode cX11_goesOf 38 = .ok (.invokestatic 286, 3) from dk_at dq36_22 (i := 8) rfl) rfl, ?_⟩
  refine List.forall_mem_cons.mpr ⟨ok_ret C rfl (show decode cX11_goesOf 41 = .ok (.ireturn, 1) from dk_at dq36_22 (i := 9) rfl), ?_⟩
  exact fun _ h => absurd h List.not_mem_nil
def L_X11_eats (f_X11_lesser : List Value → ab_H → Option ab_O) : List (Nat × ab_A) := [
  (0, ab_nx 1 (ab_aload 0)),
  (1, ab_nx 4 (ab_getf 11 6)),
  (4, ab_nx 6 (ab_lit (.int 124))),
  (6, ab_nx 7 (ab_iload 1)),
  (7, ab_nx 8 (ab_bin (fun x y => x + y))),
  (8, ab_nx 11 (ab_lit (.int 999))),
  (11, ab_nx 12 (ab_aload 0)),
  (12, ab_nx 15 (ab_getf 11 6)),
  (15, ab_nx 17 (ab_lit (.int 124))),
  (17, ab_nx 18 (ab_iload 1)),
  (18, ab_nx 19 (ab_bin (fun x y => x + y))),
  (19, ab_nx 20 (ab_ald 1)),
  (20, ab_nx 21 (ab_aload 0)),
  (21, ab_nx 24 (ab_getf 11 6)),
  (24, ab_nx 26 (ab_lit (.int 40))),
  (26, ab_nx 27 (ab_iload 1)),
  (27, ab_nx 28 (ab_bin (fun x y => x + y))),
  (28, ab_nx 29 (ab_ald 1)),
  (29, ab_nx 30 (ab_bin (fun x y => x + y))),
  (30, ab_nx 33 (ab_call 2 f_X11_lesser 0 0 0 0)),
  (33, ab_nx 34 (ab_ast 1)),
  (34, ab_nx 35 (ab_aload 0)),
  (35, ab_nx 38 (ab_getf 11 6)),
  (38, ab_nx 40 (ab_lit (.int 28))),
  (40, ab_nx 41 (ab_iload 1)),
  (41, ab_nx 42 (ab_bin (fun x y => x + y))),
  (42, ab_nx 43 (ab_ald 1)),
  (43, ab_nx 44 (ab_aload 0)),
  (44, ab_nx 47 (ab_getf 11 6)),
  (47, ab_nx 49 (ab_lit (.int 124))),
  (49, ab_nx 50 (ab_iload 1)),
  (50, ab_nx 51 (ab_bin (fun x y => x + y))),
  (51, ab_nx 52 (ab_ald 1)),
  (52, ab_nx 53 (ab_bin (fun x y => x - y))),
  (53, ab_nx 54 (ab_istore 2)),
  (54, ab_nx 55 (ab_iload 2)),
  (55, ab_if 58 96 (fun x => decide (x ≤ 0))),
  (58, ab_nx 59 (ab_aload 0)),
  (59, ab_nx 62 (ab_getf 11 6)),
  (62, ab_nx 65 (ab_lit (.int 148))),
  (65, ab_nx 66 (ab_iload 1)),
  (66, ab_nx 67 (ab_bin (fun x y => x + y))),
  (67, ab_nx 68 ab_dup2),
  (68, ab_nx 69 (ab_ald 1)),
  (69, ab_nx 70 (ab_iload 2)),
  (70, ab_nx 71 (ab_bin (fun x y => x + y))),
  (71, ab_nx 72 (ab_ast 1)),
  (72, ab_nx 73 (ab_aload 0)),
  (73, ab_nx 76 (ab_getf 11 6)),
  (76, ab_nx 78 (ab_lit (.int 123))),
  (78, ab_nx 79 ab_dup2),
  (79, ab_nx 80 (ab_ald 1)),
  (80, ab_nx 81 (ab_iload 2)),
  (81, ab_nx 82 (ab_bin (fun x y => x + y))),
  (82, ab_nx 83 (ab_ast 1)),
  (83, ab_nx 84 (ab_aload 0)),
  (84, ab_nx 87 (ab_getf 11 6)),
  (87, ab_nx 89 (ab_lit (.int 124))),
  (89, ab_nx 90 (ab_iload 1)),
  (90, ab_nx 91 (ab_bin (fun x y => x + y))),
  (91, ab_nx 92 (ab_lit (.int 0))),
  (92, ab_nx 93 (ab_ast 1)),
  (93, ab_goto 117),
  (96, ab_nx 97 (ab_aload 0)),
  (97, ab_nx 100 (ab_getf 11 6)),
  (100, ab_nx 102 (ab_lit (.int 124))),
  (102, ab_nx 103 (ab_iload 1)),
  (103, ab_nx 104 (ab_bin (fun x y => x + y))),
  (104, ab_nx 105 ab_dup2),
  (105, ab_nx 106 (ab_ald 1)),
  (106, ab_nx 107 (ab_aload 0)),
  (107, ab_nx 110 (ab_getf 11 6)),
  (110, ab_nx 112 (ab_lit (.int 28))),
  (112, ab_nx 113 (ab_iload 1)),
  (113, ab_nx 114 (ab_bin (fun x y => x + y))),
  (114, ab_nx 115 (ab_ald 1)),
  (115, ab_nx 116 (ab_bin (fun x y => x - y))),
  (116, ab_nx 117 (ab_ast 1)),
  (117, ab_vret 0 0)]
set_option maxRecDepth 100000 in
theorem dq36_23 : ([(0, .aload_n 0, 1), (1, .getfield 33, 3), (4, .bipush 124, 2), (6, .iload_n 1, 1), (7, .iadd, 1), (8, .sipush 999, 3), (11, .aload_n 0, 1), (12, .getfield 33, 3), (15, .bipush 124, 2), (17, .iload_n 1, 1), (18, .iadd, 1), (19, .iaload, 1), (20, .aload_n 0, 1), (21, .getfield 33, 3), (24, .bipush 40, 2), (26, .iload_n 1, 1)] : List (Nat × Instr × Nat)).all (fun q => decide (decode cX11_eats q.1 = .ok q.2)) = true := by decide +kernel
set_option maxRecDepth 100000 in
theorem dq36_24 : ([(27, .iadd, 1), (28, .iaload, 1), (29, .iadd, 1), (30, .invokestatic 286, 3), (33, .iastore, 1), (34, .aload_n 0, 1), (35, .getfield 33, 3), (38, .bipush 28, 2), (40, .iload_n 1, 1), (41, .iadd, 1), (42, .iaload, 1), (43, .aload_n 0, 1), (44, .getfield 33, 3), (47, .bipush 124, 2), (49, .iload_n 1, 1), (50, .iadd, 1)] : List (Nat × Instr × Nat)).all (fun q => decide (decode cX11_eats q.1 = .ok q.2)) = true := by decide +kernel
set_option maxRecDepth 100000 in
theorem dq36_25 : ([(51, .iaload, 1), (52, .isub, 1), (53, .istore_n 2, 1), (54, .iload_n 2, 1), (55, .ifCond .le 41, 3), (58, .aload_n 0, 1), (59, .getfield 33, 3), (62, .sipush 148, 3), (65, .iload_n 1, 1), (66, .iadd, 1), (67, .dup2, 1), (68, .iaload, 1), (69, .iload_n 2, 1), (70, .iadd, 1), (71, .iastore, 1), (72, .aload_n 0, 1)] : List (Nat × Instr × Nat)).all (fun q => decide (decode cX11_eats q.1 = .ok q.2)) = true := by decide +kernel
set_option maxRecDepth 100000 in
theorem dq36_26 : ([(73, .getfield 33, 3), (76, .bipush 123, 2), (78, .dup2, 1), (79, .iaload, 1), (80, .iload_n 2, 1), (81, .iadd, 1), (82, .iastore, 1), (83, .aload_n 0, 1), (84, .getfield 33, 3), (87, .bipush 124, 2), (89, .iload_n 1, 1), (90, .iadd, 1), (91, .iconst 0, 1), (92, .iastore, 1), (93, .goto 24, 3), (96, .aload_n 0, 1)] : List (Nat × Instr × Nat)).all (fun q => decide (decode cX11_eats q.1 = .ok q.2)) = true := by decide +kernel
set_option maxRecDepth 100000 in
theorem dq36_27 : ([(97, .getfield 33, 3), (100, .bipush 124, 2), (102, .iload_n 1, 1), (103, .iadd, 1), (104, .dup2, 1), (105, .iaload, 1), (106, .aload_n 0, 1), (107, .getfield 33, 3), (110, .bipush 28, 2), (112, .iload_n 1, 1), (113, .iadd, 1), (114, .iaload, 1), (115, .isub, 1), (116, .iastore, 1), (117, .return_, 1)] : List (Nat × Instr × Nat)).all (fun q => decide (decode cX11_eats q.1 = .ok q.2)) = true := by decide +kernel
set_option maxRecDepth 100000 in
set_option maxHeartbeats 4000000 in
theorem M_X11_eats {l : Launch} {b : ab_B} {D : va_G} {cA : Nat → ClassId} {f_X11_lesser : List Value → ab_H → Option ab_O} (h_X11_lesser : ab_M l b D ab_cl cA (ab_E0 b) yX11_lesser (Cond.code yX11_lesser cX11_lesser 2 (some .int) :: ab_G) ({ frames := 1, cells := 0, slots := 0, locals := 100 } : Room) f_X11_lesser) : ab_M l b D ab_cl cA (ab_E0 b) yX11_eats (Cond.code yX11_eats cX11_eats 3 none :: ab_G) ({ frames := 2, cells := 0, slots := 0, locals := 200 } : Room) (ab_X (ab_T (L_X11_eats f_X11_lesser)) 3) := by
  refine ab_meth (ret := none) (L_X11_eats f_X11_lesser) (by decide) rfl fun p e R s m args below meth c o C => ?_
  unfold L_X11_eats
  refine List.forall_mem_cons.mpr ⟨ok_aload_n C (show decode cX11_eats 0 = .ok (.aload_n 0, 1) from dk_at dq36_23 (i := 0) rfl) rfl rfl, ?_⟩
  refine List.forall_mem_cons.mpr ⟨ok_getf C (wi_X11) rfl (by decide) kw_1186 (show decode cX11_eats 1 = .ok (.getfield 33, 3) from dk_at dq36_23 (i := 1) rfl) rfl, ?_⟩
  refine List.forall_mem_cons.mpr ⟨ok_bipush C (show decode cX11_eats 4 = .ok (.bipush 124, 2) from dk_at dq36_23 (i := 2) rfl) (by decide) rfl, ?_⟩
  refine List.forall_mem_cons.mpr ⟨ok_iload_n C (show decode cX11_eats 6 = .ok (.iload_n 1, 1) from dk_at dq36_23 (i := 3) rfl) rfl rfl, ?_⟩
  refine List.forall_mem_cons.mpr ⟨ok_iadd C (show decode cX11_eats 7 = .ok (.iadd, 1) from dk_at dq36_23 (i := 4) rfl) rfl, ?_⟩
  refine List.forall_mem_cons.mpr ⟨ok_sipush C (show decode cX11_eats 8 = .ok (.sipush 999, 3) from dk_at dq36_23 (i := 5) rfl) (by decide) rfl, ?_⟩
  refine List.forall_mem_cons.mpr ⟨ok_aload_n C (show decode cX11_eats 11 = .ok (.aload_n 0, 1) from dk_at dq36_23 (i := 6) rfl) rfl rfl, ?_⟩
  refine List.forall_mem_cons.mpr ⟨ok_getf C (wi_X11) rfl (by decide) kw_1186 (show decode cX11_eats 12 = .ok (.getfield 33, 3) from dk_at dq36_23 (i := 7) rfl) rfl, ?_⟩
  refine List.forall_mem_cons.mpr ⟨ok_bipush C (show decode cX11_eats 15 = .ok (.bipush 124, 2) from dk_at dq36_23 (i := 8) rfl) (by decide) rfl, ?_⟩
  refine List.forall_mem_cons.mpr ⟨ok_iload_n C (show decode cX11_eats 17 = .ok (.iload_n 1, 1) from dk_at dq36_23 (i := 9) rfl) rfl rfl, ?_⟩
  refine List.forall_mem_cons.mpr ⟨ok_iadd C (show decode cX11_eats 18 = .ok (.iadd, 1) from dk_at dq36_23 (i := 10) rfl) rfl, ?_⟩
  refine List.forall_mem_cons.mpr ⟨ok_iaload C (show decode cX11_eats 19 = .ok (.iaload, 1) from dk_at dq36_23 (i := 11) rfl) rfl, ?_⟩
  refine List.forall_mem_cons.mpr ⟨ok_aload_n C (show decode cX11_eats 20 = .ok (.aload_n 0, 1) from dk_at dq36_23 (i := 12) rfl) rfl rfl, ?_⟩
  refine List.forall_mem_cons.mpr ⟨ok_getf C (wi_X11) rfl (by decide) kw_1186 (show decode cX11_eats 21 = .ok (.getfield 33, 3) from dk_at dq36_23 (i := 13) rfl) rfl, ?_⟩
  refine List.forall_mem_cons.mpr ⟨ok_bipush C (show decode cX11_eats 24 = .ok (.bipush 40, 2) from dk_at dq36_23 (i := 14) rfl) (by decide) rfl, ?_⟩
  refine List.forall_mem_cons.mpr ⟨ok_iload_n C (show decode cX11_eats 26 = .ok (.iload_n 1, 1) from dk_at dq36_23 (i := 15) rfl) rfl rfl, ?_⟩
  refine List.forall_mem_cons.mpr ⟨ok_iadd C (show decode cX11_eats 27 = .ok (.iadd, 1) from dk_at dq36_24 (i := 0) rfl) rfl, ?_⟩
  refine List.forall_mem_cons.mpr ⟨ok_iaload C (show decode cX11_eats 28 = .ok (.iaload, 1) from dk_at dq36_24 (i := 1) rfl) rfl, ?_⟩
  refine List.forall_mem_cons.mpr ⟨ok_iadd C (show decode cX11_eats 29 = .ok (.iadd, 1) from dk_at dq36_24 (i := 2) rfl) rfl, ?_⟩
  refine List.forall_mem_cons.mpr ⟨ok_callS C h_X11_lesser ⟨rfl, rfl⟩ kw_1524 kw_1522 kw_1523 kw_11 ds_X11_lesser ⟨by decide, by decide⟩ (show decode cX11_eats 30 = .ok (.invokestatic 286, 3) from dk_at dq36_24 (i := 3) rfl) rfl, ?_⟩
  refine List.forall_mem_cons.mpr ⟨ok_iastore C (show decode cX11_eats 33 = .ok (.iastore, 1) from dk_at dq36_24 (i := 4) rfl) rfl, ?_⟩
  refine List.forall_mem_cons.mpr ⟨ok_aload_n C (show decode cX11_eats 34 = .ok (.aload_n 0, 1) from dk_at dq36_24 (i := 5) rfl) rfl rfl, ?_⟩
  refine List.forall_mem_cons.mpr ⟨ok_getf C (wi_X11) rfl (by decide) kw_1186 (show decode cX11_eats 35 = .ok (.getfield 33, 3) from dk_at dq36_24 (i := 6) rfl) rfl, ?_⟩
  refine List.forall_mem_cons.mpr ⟨ok_bipush C (show decode cX11_eats 38 = .ok (.bipush 28, 2) from dk_at dq36_24 (i := 7) rfl) (by decide) rfl, ?_⟩
  refine List.forall_mem_cons.mpr ⟨ok_iload_n C (show decode cX11_eats 40 = .ok (.iload_n 1, 1) from dk_at dq36_24 (i := 8) rfl) rfl rfl, ?_⟩
  refine List.forall_mem_cons.mpr ⟨ok_iadd C (show decode cX11_eats 41 = .ok (.iadd, 1) from dk_at dq36_24 (i := 9) rfl) rfl, ?_⟩
  refine List.forall_mem_cons.mpr ⟨ok_iaload C (show decode cX11_eats 42 = .ok (.iaload, 1) from dk_at dq36_24 (i := 10) rfl) rfl, ?_⟩
  refine List.forall_mem_cons.mpr ⟨ok_aload_n C (show decode cX11_eats 43 = .ok (.aload_n 0, 1) from dk_at dq36_24 (i := 11) rfl) rfl rfl, ?_⟩
  refine List.forall_mem_cons.mpr ⟨ok_getf C (wi_X11) rfl (by decide) kw_1186 (show decode cX11_eats 44 = .ok (.getfield 33, 3) from dk_at dq36_24 (i := 12) rfl) rfl, ?_⟩
  refine List.forall_mem_cons.mpr ⟨ok_bipush C (show decode cX11_eats 47 = .ok (.bipush 124, 2) from dk_at dq36_24 (i := 13) rfl) (by decide) rfl, ?_⟩
  refine List.forall_mem_cons.mpr ⟨ok_iload_n C (show decode cX11_eats 49 = .ok (.iload_n 1, 1) from dk_at dq36_24 (i := 14) rfl) rfl rfl, ?_⟩
  refine List.forall_mem_cons.mpr ⟨ok_iadd C (show decode cX11_eats 50 = .ok (.iadd, 1) from dk_at dq36_24 (i := 15) rfl) rfl, ?_⟩
  refine List.forall_mem_cons.mpr ⟨ok_iaload C (show decode cX11_eats 51 = .ok (.iaload, 1) from dk_at dq36_25 (i := 0) rfl) rfl, ?_⟩
  refine List.forall_mem_cons.mpr ⟨ok_isub C (show decode cX11_eats 52 = .ok (.isub, 1) from dk_at dq36_25 (i := 1) rfl) rfl, ?_⟩
  refine List.forall_mem_cons.mpr ⟨ok_istore_n C (show decode cX11_eats 53 = .ok (.istore_n 2, 1) from dk_at dq36_25 (i := 2) rfl) rfl (by decide) rfl, ?_⟩
  refine List.forall_mem_cons.mpr ⟨ok_iload_n C (show decode cX11_eats 54 = .ok (.iload_n 2, 1) from dk_at dq36_25 (i := 3) rfl) rfl rfl, ?_⟩
  refine List.forall_mem_cons.mpr ⟨ok_ifle C (show decode cX11_eats 55 = .ok (.ifCond .le 41, 3) from dk_at dq36_25 (i := 4) rfl) (tg := 96) (by decide) rfl rfl, ?_⟩
  refine List.forall_mem_cons.mpr ⟨ok_aload_n C (show decode cX11_eats 58 = .ok (.aload_n 0, 1) from dk_at dq36_25 (i := 5) rfl) rfl rfl, ?_⟩
  refine List.forall_mem_cons.mpr ⟨ok_getf C (wi_X11) rfl (by decide) kw_1186 (show decode cX11_eats 59 = .ok (.getfield 33, 3) from dk_at dq36_25 (i := 6) rfl) rfl, ?_⟩
  refine List.forall_mem_cons.mpr ⟨ok_sipush C (show decode cX11_eats 62 = .ok (.sipush 148, 3) from dk_at dq36_25 (i := 7) rfl) (by decide) rfl, ?_⟩
  refine List.forall_mem_cons.mpr ⟨ok_iload_n C (show decode cX11_eats 65 = .ok (.iload_n 1, 1) from dk_at dq36_25 (i := 8) rfl) rfl rfl, ?_⟩
  refine List.forall_mem_cons.mpr ⟨ok_iadd C (show decode cX11_eats 66 = .ok (.iadd, 1) from dk_at dq36_25 (i := 9) rfl) rfl, ?_⟩
  refine List.forall_mem_cons.mpr ⟨ok_dup2 C (show decode cX11_eats 67 = .ok (.dup2, 1) from dk_at dq36_25 (i := 10) rfl) rfl, ?_⟩
  refine List.forall_mem_cons.mpr ⟨ok_iaload C (show decode cX11_eats 68 = .ok (.iaload, 1) from dk_at dq36_25 (i := 11) rfl) rfl, ?_⟩
  refine List.forall_mem_cons.mpr ⟨ok_iload_n C (show decode cX11_eats 69 = .ok (.iload_n 2, 1) from dk_at dq36_25 (i := 12) rfl) rfl rfl, ?_⟩
  refine List.forall_mem_cons.mpr ⟨ok_iadd C (show decode cX11_eats 70 = .ok (.iadd, 1) from dk_at dq36_25 (i := 13) rfl) rfl, ?_⟩
  refine List.forall_mem_cons.mpr ⟨ok_iastore C (show decode cX11_eats 71 = .ok (.iastore, 1) from dk_at dq36_25 (i := 14) rfl) rfl, ?_⟩
  refine List.forall_mem_cons.mpr ⟨ok_aload_n C (show decode cX11_eats 72 = .ok (.aload_n 0, 1) from dk_at dq36_25 (i := 15) rfl) rfl rfl, ?_⟩
  refine List.forall_mem_cons.mpr ⟨ok_getf C (wi_X11) rfl (by decide) kw_1186 (show decode cX11_eats 73 = .ok (.getfield 33, 3) from dk_at dq36_26 (i := 0) rfl) rfl, ?_⟩
  refine List.forall_mem_cons.mpr ⟨ok_bipush C (show decode cX11_eats 76 = .ok (.bipush 123, 2) from dk_at dq36_26 (i := 1) rfl) (by decide) rfl, ?_⟩
  refine List.forall_mem_cons.mpr ⟨ok_dup2 C (show decode cX11_eats 78 = .ok (.dup2, 1) from dk_at dq36_26 (i := 2) rfl) rfl, ?_⟩
  refine List.forall_mem_cons.mpr ⟨ok_iaload C (show decode cX11_eats 79 = .ok (.iaload, 1) from dk_at dq36_26 (i := 3) rfl) rfl, ?_⟩
  refine List.forall_mem_cons.mpr ⟨ok_iload_n C (show decode cX11_eats 80 = .ok (.iload_n 2, 1) from dk_at dq36_26 (i := 4) rfl) rfl rfl, ?_⟩
  refine List.forall_mem_cons.mpr ⟨ok_iadd C (show decode cX11_eats 81 = .ok (.iadd, 1) from dk_at dq36_26 (i := 5) rfl) rfl, ?_⟩
  refine List.forall_mem_cons.mpr ⟨ok_iastore C (show decode cX11_eats 82 = .ok (.iastore, 1) from dk_at dq36_26 (i := 6) rfl) rfl, ?_⟩
  refine List.forall_mem_cons.mpr ⟨ok_aload_n C (show decode cX11_eats 83 = .ok (.aload_n 0, 1) from dk_at dq36_26 (i := 7) rfl) rfl rfl, ?_⟩
  refine List.forall_mem_cons.mpr ⟨ok_getf C (wi_X11) rfl (by decide) kw_1186 (show decode cX11_eats 84 = .ok (.getfield 33, 3) from dk_at dq36_26 (i := 8) rfl) rfl, ?_⟩
  refine List.forall_mem_cons.mpr ⟨ok_bipush C (show decode cX11_eats 87 = .ok (.bipush 124, 2) from dk_at dq36_26 (i := 9) rfl) (by decide) rfl, ?_⟩
  refine List.forall_mem_cons.mpr ⟨ok_iload_n C (show decode cX11_eats 89 = .ok (.iload_n 1, 1) from dk_at dq36_26 (i := 10) rfl) rfl rfl, ?_⟩
  refine List.forall_mem_cons.mpr ⟨ok_iadd C (show decode cX11_eats 90 = .ok (.iadd, 1) from dk_at dq36_26 (i := 11) rfl) rfl, ?_⟩
  refine List.forall_mem_cons.mpr ⟨ok_iconst C (show decode cX11_eats 91 = .ok (.iconst 0, 1) from dk_at dq36_26 (i := 12) rfl) (by decide) rfl, ?_⟩
  refine List.forall_mem_cons.mpr ⟨ok_iastore C (show decode cX11_eats 92 = .ok (.iastore, 1) from dk_at dq36_26 (i := 13) rfl) rfl, ?_⟩
  refine List.forall_mem_cons.mpr ⟨ok_goto C (show decode cX11_eats 93 = .ok (.goto 24, 3) from dk_at dq36_26 (i := 14) rfl) (tg := 117) (by decide) rfl, ?_⟩
  refine List.forall_mem_cons.mpr ⟨ok_aload_n C (show decode cX11_eats 96 = .ok (.aload_n 0, 1) from dk_at dq36_26 (i := 15) rfl) rfl rfl, ?_⟩
  refine List.forall_mem_cons.mpr ⟨ok_getf C (wi_X11) rfl (by decide) kw_1186 (show decode cX11_eats 97 = .ok (.getfield 33, 3) from dk_at dq36_27 (i := 0) rfl) rfl, ?_⟩
  refine List.forall_mem_cons.mpr ⟨ok_bipush C (show decode cX11_eats 100 = .ok (.bipush 124, 2) from dk_at dq36_27 (i := 1) rfl) (by decide) rfl, ?_⟩
  refine List.forall_mem_cons.mpr ⟨ok_iload_n C (show decode cX11_eats 102 = .ok (.iload_n 1, 1) from dk_at dq36_27 (i := 2) rfl) rfl rfl, ?_⟩
  refine List.forall_mem_cons.mpr ⟨ok_iadd C (show decode cX11_eats 103 = .ok (.iadd, 1) from dk_at dq36_27 (i := 3) rfl) rfl, ?_⟩
  refine List.forall_mem_cons.mpr ⟨ok_dup2 C (show decode cX11_eats 104 = .ok (.dup2, 1) from dk_at dq36_27 (i := 4) rfl) rfl, ?_⟩
  refine List.forall_mem_cons.mpr ⟨ok_iaload C (show decode cX11_eats 105 = .ok (.iaload, 1) from dk_at dq36_27 (i := 5) rfl) rfl, ?_⟩
  refine List.forall_mem_cons.mpr ⟨ok_aload_n C (show decode cX11_eats 106 = .ok (.aload_n 0, 1) from dk_at dq36_27 (i := 6) rfl) rfl rfl, ?_⟩
  refine List.forall_mem_cons.mpr ⟨ok_getf C (wi_X11) rfl (by decide) kw_1186 (show decode cX11_eats 107 = .ok (.getfield 33, 3) from dk_at dq36_27 (i := 7) rfl) rfl, ?_⟩
  refine List.forall_mem_cons.mpr ⟨ok_bipush C (show decode cX11_eats 110 = .ok (.bipush 28, 2) from dk_at dq36_27 (i := 8) rfl) (by decide) rfl, ?_⟩
  refine List.forall_mem_cons.mpr ⟨ok_iload_n C (show decode cX11_eats 112 = .ok (.iload_n 1, 1) from dk_at dq36_27 (i := 9) rfl) rfl rfl, ?_⟩
  refine List.forall_mem_cons.mpr ⟨ok_iadd C (show decode cX11_eats 113 = .ok (.iadd, 1) from dk_at dq36_27 (i := 10) rfl) rfl, ?_⟩
  refine List.forall_mem_cons.mpr ⟨ok_iaload C (show decode cX11_eats 114 = .ok (.iaload, 1) from dk_at dq36_27 (i := 11) rfl) rfl, ?_⟩
  refine List.forall_mem_cons.mpr ⟨ok_isub C (show decode cX11_eats 115 = .ok (.isub, 1) from dk_at dq36_27 (i := 12) rfl) rfl, ?_⟩
  refine List.forall_mem_cons.mpr ⟨ok_iastore C (show decode cX11_eats 116 = .ok (.iastore, 1) from dk_at dq36_27 (i := 13) rfl) rfl, ?_⟩
  refine List.forall_mem_cons.mpr ⟨ok_vret C rfl (show decode cX11_eats 117 = .ok (.return_, 1) from dk_at dq36_27 (i := 14) rfl), ?_⟩
  exact fun _ h => absurd h List.not_mem_nil
end
-- 37.m17.lean.txt
section
def L_X11_day (f_X11_goingSet : List Value → ab_H → Option ab_O) (f_X11_bitOf : List Value → ab_H → Option ab_O) (f_X11_goesOf : List Value → ab_H → Option ab_O) (f_X11_cell : List Value → ab_H → Option ab_O) (f_X11_eats : List Value → ab_H → Option ab_O) (f_X11_areUnlike : List Value → ab_H → Option ab_O) : List (Nat × ab_A) := [
  (0, ab_nx 1 (ab_lit (.int 1))),
  (1, ab_nx 2 (ab_aload 0)),
  (2, ab_nx 5 (ab_getf 11 6)),
  (5, ab_nx 7 (ab_lit (.int 120))),
  (7, ab_nx 8 (ab_ald 1)),
  (8, ab_nx 9 (ab_lit (.int 2))),
  (9, ab_nx 10 ab_irem),
  (10, ab_nx 11 (ab_bin (fun x y => x - y))),
  (11, ab_nx 12 (ab_istore 1)),
  (12, ab_nx 13 (ab_aload 0)),
  (13, ab_nx 16 (ab_callV 1 11 f_X11_goingSet 0 0 0 0)),
  (16, ab_nx 17 (ab_istore 2)),
  (17, ab_nx 18 (ab_lit (.int 0))),
  (18, ab_nx 19 (ab_istore 3)),
  (19, ab_nx 20 (ab_iload 3)),
  (20, ab_nx 21 (ab_aload 0)),
  (21, ab_nx 24 (ab_getf 11 6)),
  (24, ab_nx 25 (ab_lit (.int 1))),
  (25, ab_nx 26 (ab_ald 1)),
  (26, ab_icmp 29 71 (fun x y => decide (y ≤ x))),
  (29, ab_nx 30 (ab_iload 2)),
  (30, ab_nx 31 (ab_iload 3)),
  (31, ab_nx 34 (ab_call 2 f_X11_bitOf 0 0 0 0)),
  (34, ab_if 37 40 (fun x => !decide (x = 0))),
  (37, ab_goto 65),
  (40, ab_nx 41 (ab_aload 0)),
  (41, ab_nx 44 (ab_getf 11 6)),
  (44, ab_nx 47 (ab_lit (.int 172))),
  (47, ab_nx 48 (ab_iload 3)),
  (48, ab_nx 49 (ab_bin (fun x y => x + y))),
  (49, ab_nx 50 (ab_iload 1)),
  (50, ab_nx 51 (ab_ast 1)),
  (51, ab_nx 52 (ab_aload 0)),
  (52, ab_nx 55 (ab_getf 11 6)),
  (55, ab_nx 58 (ab_lit (.int 181))),
  (58, ab_nx 59 (ab_iload 3)),
  (59, ab_nx 60 (ab_bin (fun x y => x + y))),
  (60, ab_nx 61 ab_dup2),
  (61, ab_nx 62 (ab_ald 1)),
  (62, ab_nx 63 (ab_lit (.int 1))),
  (63, ab_nx 64 (ab_bin (fun x y => x + y))),
  (64, ab_nx 65 (ab_ast 1)),
  (65, ab_nx 68 (ab_iinc 3 1)),
  (68, ab_goto 19),
  (71, ab_nx 72 (ab_lit (.int 0))),
  (72, ab_nx 73 (ab_istore 3)),
  (73, ab_nx 74 (ab_iload 3)),
  (74, ab_nx 75 (ab_aload 0)),
  (75, ab_nx 78 (ab_getf 11 6)),
  (78, ab_nx 79 (ab_lit (.int 0))),
  (79, ab_nx 80 (ab_ald 1)),
  (80, ab_icmp 83 164 (fun x y => decide (y ≤ x))),
  (83, ab_nx 84 (ab_aload 0)),
  (84, ab_nx 85 (ab_iload 3)),
  (85, ab_nx 88 (ab_callV 2 11 f_X11_goesOf 0 0 0 0)),
  (88, ab_nx 90 (ab_istore 4)),
  (90, ab_nx 91 (ab_aload 0)),
  (91, ab_nx 94 (ab_getf 11 6)),
  (94, ab_nx 96 (ab_lit (.int 124))),
  (96, ab_nx 97 (ab_iload 3)),
  (97, ab_nx 98 (ab_lit (.int 1))),
  (98, ab_nx 99 (ab_iload 1)),
  (99, ab_nx 100 (ab_bin (fun x y => x - y))),
  (100, ab_nx 103 (ab_call 2 f_X11_cell 0 0 0 0)),
  (103, ab_nx 104 (ab_bin (fun x y => x + y))),
  (104, ab_nx 105 ab_dup2),
  (105, ab_nx 106 (ab_ald 1)),
  (106, ab_nx 108 (ab_iload 4)),
  (108, ab_nx 109 (ab_bin (fun x y => x - y))),
  (109, ab_nx 110 (ab_ast 1)),
  (110, ab_nx 111 (ab_aload 0)),
  (111, ab_nx 114 (ab_getf 11 6)),
  (114, ab_nx 116 (ab_lit (.int 124))),
  (116, ab_nx 117 (ab_iload 3)),
  (117, ab_nx 118 (ab_iload 1)),
  (118, ab_nx 121 (ab_call 2 f_X11_cell 0 0 0 0)),
  (121, ab_nx 122 (ab_bin (fun x y => x + y))),
  (122, ab_nx 123 ab_dup2),
  (123, ab_nx 124 (ab_ald 1)),
  (124, ab_nx 126 (ab_iload 4)),
  (126, ab_nx 127 (ab_bin (fun x y => x + y))),
  (127, ab_nx 128 (ab_ast 1)),
  (128, ab_nx 129 (ab_aload 0)),
  (129, ab_nx 132 (ab_getf 11 6)),
  (132, ab_nx 135 (ab_lit (.int 160))),
  (135, ab_nx 136 (ab_iload 3)),
  (136, ab_nx 137 (ab_iload 1)),
  (137, ab_nx 140 (ab_call 2 f_X11_cell 0 0 0 0)),
  (140, ab_nx 141 (ab_bin (fun x y => x + y))),
  (141, ab_nx 142 ab_dup2),
  (142, ab_nx 143 (ab_ald 1)),
  (143, ab_nx 145 (ab_iload 4)),
  (145, ab_nx 146 (ab_bin (fun x y => x + y))),
  (146, ab_nx 147 (ab_ast 1)),
  (147, ab_nx 148 (ab_aload 0)),
  (148, ab_nx 149 ab_dup),
  (149, ab_nx 152 (ab_getf 11 22)),
  (152, ab_nx 154 (ab_iload 4)),
  (154, ab_nx 155 (ab_bin (fun x y => x - y))),
  (155, ab_nx 158 (ab_putf 11 22 0)),
  (158, ab_nx 161 (ab_iinc 3 1)),
  (161, ab_goto 73),
  (164, ab_nx 165 (ab_aload 0)),
  (165, ab_nx 168 (ab_getf 11 6)),
  (168, ab_nx 170 (ab_lit (.int 122))),
  (170, ab_nx 171 ab_dup2),
  (171, ab_nx 172 (ab_ald 1)),
  (172, ab_nx 173 (ab_aload 0)),
  (173, ab_nx 176 (ab_getf 11 6)),
  (176, ab_nx 177 (ab_lit (.int 2))),
  (177, ab_nx 178 (ab_ald 1)),
  (178, ab_nx 179 (ab_aload 0)),
  (179, ab_nx 182 (ab_getf 11 22)),
  (182, ab_nx 183 (ab_bin (fun x y => x - y))),
  (183, ab_nx 184 (ab_bin (fun x y => x + y))),
  (184, ab_nx 185 (ab_ast 1)),
  (185, ab_nx 186 (ab_aload 0)),
  (186, ab_nx 189 (ab_getf 11 6)),
  (189, ab_nx 191 (ab_lit (.int 121))),
  (191, ab_nx 192 ab_dup2),
  (192, ab_nx 193 (ab_ald 1)),
  (193, ab_nx 194 (ab_aload 0)),
  (194, ab_nx 197 (ab_getf 11 22)),
  (197, ab_nx 198 (ab_aload 0)),
  (198, ab_nx 201 (ab_getf 11 6)),
  (201, ab_nx 202 (ab_lit (.int 2))),
  (202, ab_nx 203 (ab_ald 1)),
  (203, ab_icmp 206 210 (fun x y => !decide (x = y))),
  (206, ab_nx 207 (ab_lit (.int 1))),
  (207, ab_goto 211),
  (210, ab_nx 211 (ab_lit (.int 0))),
  (211, ab_nx 212 (ab_bin (fun x y => x + y))),
  (212, ab_nx 213 (ab_ast 1)),
  (213, ab_nx 214 (ab_lit (.int 0))),
  (214, ab_nx 215 (ab_istore 3)),
  (215, ab_nx 216 (ab_iload 3)),
  (216, ab_nx 217 (ab_lit (.int 2))),
  (217, ab_nx 218 (ab_aload 0)),
  (218, ab_nx 221 (ab_getf 11 6)),
  (221, ab_nx 222 (ab_lit (.int 0))),
  (222, ab_nx 223 (ab_ald 1)),
  (223, ab_nx 224 (ab_bin (fun x y => x * y))),
  (224, ab_icmp 227 238 (fun x y => decide (y ≤ x))),
  (227, ab_nx 228 (ab_aload 0)),
  (228, ab_nx 229 (ab_iload 3)),
  (229, ab_nx 232 (ab_callV 2 11 f_X11_eats 0 0 0 0)),
  (232, ab_nx 235 (ab_iinc 3 1)),
  (235, ab_goto 215),
  (238, ab_nx 239 (ab_lit (.int 0))),
  (239, ab_nx 240 (ab_istore 3)),
  (240, ab_nx 241 (ab_iload 3)),
  (241, ab_nx 242 (ab_aload 0)),
  (242, ab_nx 245 (ab_getf 11 6)),
  (245, ab_nx 246 (ab_lit (.int 1))),
  (246, ab_nx 247 (ab_ald 1)),
  (247, ab_icmp 250 324 (fun x y => decide (y ≤ x))),
  (250, ab_nx 251 (ab_lit (.int 0))),
  (251, ab_nx 253 (ab_istore 4)),
  (253, ab_nx 255 (ab_iload 4)),
  (255, ab_nx 256 (ab_aload 0)),
  (256, ab_nx 259 (ab_getf 11 6)),
  (259, ab_nx 260 (ab_lit (.int 1))),
  (260, ab_nx 261 (ab_ald 1)),
  (261, ab_icmp 264 318 (fun x y => decide (y ≤ x))),
  (264, ab_nx 265 (ab_aload 0)),
  (265, ab_nx 268 (ab_getf 11 6)),
  (268, ab_nx 271 (ab_lit (.int 189))),
  (271, ab_nx 273 (ab_lit (.int 8))),
  (273, ab_nx 274 (ab_iload 3)),
  (274, ab_nx 275 (ab_bin (fun x y => x * y))),
  (275, ab_nx 276 (ab_bin (fun x y => x + y))),
  (276, ab_nx 278 (ab_iload 4)),
  (278, ab_nx 279 (ab_bin (fun x y => x + y))),
  (279, ab_nx 280 (ab_aload 0)),
  (280, ab_nx 281 (ab_iload 3)),
  (281, ab_nx 283 (ab_iload 4)),
  (283, ab_nx 286 (ab_callV 3 11 f_X11_areUnlike 0 0 0 0)),
  (286, ab_if 289 310 (fun x => decide (x = 0))),
  (289, ab_nx 290 (ab_aload 0)),
  (290, ab_nx 293 (ab_getf 11 6)),
  (293, ab_nx 296 (ab_lit (.int 189))),
  (296, ab_nx 298 (ab_lit (.int 8))),
  (298, ab_nx 299 (ab_iload 3)),
  (299, ab_nx 300 (ab_bin (fun x y => x * y))),
  (300, ab_nx 301 (ab_bin (fun x y => x + y))),
  (301, ab_nx 303 (ab_iload 4)),
  (303, ab_nx 304 (ab_bin (fun x y => x + y))),
  (304, ab_nx 305 (ab_ald 1)),
  (305, ab_nx 306 (ab_lit (.int 1))),
  (306, ab_nx 307 (ab_bin (fun x y => x + y))),
  (307, ab_goto 311),
  (310, ab_nx 311 (ab_lit (.int 0))),
  (311, ab_nx 312 (ab_ast 1)),
  (312, ab_nx 315 (ab_iinc 4 1)),
  (315, ab_goto 253),
  (318, ab_nx 321 (ab_iinc 3 1)),
  (321, ab_goto 240),
  (324, ab_nx 325 (ab_aload 0)),
  (325, ab_nx 328 (ab_getf 11 6)),
  (328, ab_nx 330 (ab_lit (.int 120))),
  (330, ab_nx 331 ab_dup2),
  (331, ab_nx 332 (ab_ald 1)),
  (332, ab_nx 333 (ab_lit (.int 1))),
  (333, ab_nx 334 (ab_bin (fun x y => x + y))),
  (334, ab_nx 335 (ab_ast 1)),
  (335, ab_vret 0 0)]
set_option maxRecDepth 100000 in
theorem dq37_0 : ([(0, .iconst 1, 1), (1, .aload_n 0, 1), (2, .getfield 33, 3), (5, .bipush 120, 2), (7, .iaload, 1), (8, .iconst 2, 1), (9, .irem, 1), (10, .isub, 1), (11, .istore_n 1, 1), (12, .aload_n 0, 1), (13, .invokevirtual 289, 3), (16, .istore_n 2, 1), (17, .iconst 0, 1), (18, .istore_n 3, 1), (19, .iload_n 3, 1), (20, .aload_n 0, 1)] : List (Nat × Instr × Nat)).all (fun q => decide (decode cX11_day q.1 = .ok q.2)) = true := by decide +kernel
set_option maxRecDepth 100000 in
theorem dq37_1 : ([(21, .getfield 33, 3), (24, .iconst 1, 1), (25, .iaload, 1), (26, .if_icmp .ge 45, 3), (29, .iload_n 2, 1), (30, .iload_n 3, 1), (31, .invokestatic 221, 3), (34, .ifCond .ne 6, 3), (37, .goto 28, 3), (40, .aload_n 0, 1), (41, .getfield 33, 3), (44, .sipush 172, 3), (47, .iload_n 3, 1), (48, .iadd, 1), (49, .iload_n 1, 1), (50, .iastore, 1)] : List (Nat × Instr × Nat)).all (fun q => decide (decode cX11_day q.1 = .ok q.2)) = true := by decide +kernel
set_option maxRecDepth 100000 in
theorem dq37_2 : ([(51, .aload_n 0, 1), (52, .getfield 33, 3), (55, .sipush 181, 3), (58, .iload_n 3, 1), (59, .iadd, 1), (60, .dup2, 1), (61, .iaload, 1), (62, .iconst 1, 1), (63, .iadd, 1), (64, .iastore, 1), (65, .iinc 3 1, 3), (68, .goto (-49), 3), (71, .iconst 0, 1), (72, .istore_n 3, 1), (73, .iload_n 3, 1), (74, .aload_n 0, 1)] : List (Nat × Instr × Nat)).all (fun q => decide (decode cX11_day q.1 = .ok q.2)) = true := by decide +kernel
set_option maxRecDepth 100000 in
theorem dq37_3 : ([(75, .getfield 33, 3), (78, .iconst 0, 1), (79, .iaload, 1), (80, .if_icmp .ge 84, 3), (83, .aload_n 0, 1), (84, .iload_n 3, 1), (85, .invokevirtual 292, 3), (88, .istore 4, 2), (90, .aload_n 0, 1), (91, .getfield 33, 3), (94, .bipush 124, 2), (96, .iload_n 3, 1), (97, .iconst 1, 1), (98, .iload_n 1, 1), (99, .isub, 1), (100, .invokestatic 245, 3)] : List (Nat × Instr × Nat)).all (fun q => decide (decode cX11_day q.1 = .ok q.2)) = true := by decide +kernel
set_option maxRecDepth 100000 in
theorem dq37_4 : ([(103, .iadd, 1), (104, .dup2, 1), (105, .iaload, 1), (106, .iload 4, 2), (108, .isub, 1), (109, .iastore, 1), (110, .aload_n 0, 1), (111, .getfield 33, 3), (114, .bipush 124, 2), (116, .iload_n 3, 1), (117, .iload_n 1, 1), (118, .invokestatic 245, 3), (121, .iadd, 1), (122, .dup2, 1), (123, .iaload, 1), (124, .iload 4, 2)] : List (Nat × Instr × Nat)).all (fun q => decide (decode cX11_day q.1 = .ok q.2)) = true := by decide +kernel
set_option maxRecDepth 100000 in
theorem dq37_5 : ([(126, .iadd, 1), (127, .iastore, 1), (128, .aload_n 0, 1), (129, .getfield 33, 3), (132, .sipush 160, 3), (135, .iload_n 3, 1), (136, .iload_n 1, 1), (137, .invokestatic 245, 3), (140, .iadd, 1), (141, .dup2, 1), (142, .iaload, 1), (143, .iload 4, 2), (145, .iadd, 1), (146, .iastore, 1), (147, .aload_n 0, 1), (148, .dup, 1)] : List (Nat × Instr × Nat)).all (fun q => decide (decode cX11_day q.1 = .ok q.2)) = true := by decide +kernel
set_option maxRecDepth 100000 in
theorem dq37_6 : ([(149, .getfield 283, 3), (152, .iload 4, 2), (154, .isub, 1), (155, .putfield 283, 3), (158, .iinc 3 1, 3), (161, .goto (-88), 3), (164, .aload_n 0, 1), (165, .getfield 33, 3), (168, .bipush 122, 2), (170, .dup2, 1), (171, .iaload, 1), (172, .aload_n 0, 1), (173, .getfield 33, 3), (176, .iconst 2, 1), (177, .iaload, 1), (178, .aload_n 0, 1)] : List (Nat × Instr × Nat)).all (fun q => decide (decode cX11_day q.1 = .ok q.2)) = true := by decide +kernel
set_option maxRecDepth 100000 in
theorem dq37_7 : ([(179, .getfield 283, 3), (182, .isub, 1), (183, .iadd, 1), (184, .iastore, 1), (185, .aload_n 0, 1), (186, .getfield 33, 3), (189, .bipush 121, 2), (191, .dup2, 1), (192, .iaload, 1), (193, .aload_n 0, 1), (194, .getfield 283, 3), (197, .aload_n 0, 1), (198, .getfield 33, 3), (201, .iconst 2, 1), (202, .iaload, 1), (203, .if_icmp .ne 7, 3)] : List (Nat × Instr × Nat)).all (fun q => decide (decode cX11_day q.1 = .ok q.2)) = true := by decide +kernel
set_option maxRecDepth 100000 in
theorem dq37_8 : ([(206, .iconst 1, 1), (207, .goto 4, 3), (210, .iconst 0, 1), (211, .iadd, 1), (212, .iastore, 1), (213, .iconst 0, 1), (214, .istore_n 3, 1), (215, .iload_n 3, 1), (216, .iconst 2, 1), (217, .aload_n 0, 1), (218, .getfield 33, 3), (221, .iconst 0, 1), (222, .iaload, 1), (223, .imul, 1), (224, .if_icmp .ge 14, 3), (227, .aload_n 0, 1)] : List (Nat × Instr × Nat)).all (fun q => decide (decode cX11_day q.1 = .ok q.2)) = true := by decide +kernel
set_option maxRecDepth 100000 in
theorem dq37_9 : ([(228, .iload_n 3, 1), (229, .invokevirtual 295, 3), (232, .iinc 3 1, 3), (235, .goto (-20), 3), (238, .iconst 0, 1), (239, .istore_n 3, 1), (240, .iload_n 3, 1), (241, .aload_n 0, 1), (242, .getfield 33, 3), (245, .iconst 1, 1), (246, .iaload, 1), (247, .if_icmp .ge 77, 3), (250, .iconst 0, 1), (251, .istore 4, 2), (253, .iload 4, 2), (255, .aload_n 0, 1)] : List (Nat × Instr × Nat)).all (fun q => decide (decode cX11_day q.1 = .ok q.2)) = true := by decide +kernel
set_option maxRecDepth 100000 in
theorem dq37_10 : ([(256, .getfield 33, 3), (259, .iconst 1, 1), (260, .iaload, 1), (261, .if_icmp .ge 57, 3), (264, .aload_n 0, 1), (265, .getfield 33, 3), (268, .sipush 189, 3), (271, .bipush 8, 2), (273, .iload_n 3, 1), (274, .imul, 1), (275, .iadd, 1), (276, .iload 4, 2), (278, .iadd, 1), (279, .aload_n 0, 1), (280, .iload_n 3, 1), (281, .iload 4, 2)] : List (Nat × Instr × Nat)).all (fun q => decide (decode cX11_day q.1 = .ok q.2)) = true := by decide +kernel
set_option maxRecDepth 100000 in
theorem dq37_11 : ([(283, .invokevirtual 260, 3), (286, .ifCond .eq 24, 3), (289, .aload_n 0, 1), (290, .getfield 33, 3), (293, .sipush 189, 3), (296, .bipush 8, 2), (298, .iload_n 3, 1), (299, .imul, 1), (300, .iadd, 1), (301, .iload 4, 2), (303, .iadd, 1), (304, .iaload, 1), (305, .iconst 1, 1), (306, .iadd, 1), (307, .goto 4, 3), (310, .iconst 0, 1)] : List (Nat × Instr × Nat)).all (fun q => decide (decode cX11_day q.1 = .ok q.2)) = true := by decide +kernel
set_option maxRecDepth 100000 in
theorem dq37_12 : ([(311, .iastore, 1), (312, .iinc 4 1, 3), (315, .goto (-62), 3), (318, .iinc 3 1, 3), (321, .goto (-81), 3), (324, .aload_n 0, 1), (325, .getfield 33, 3), (328, .bipush 120, 2), (330, .dup2, 1), (331, .iaload, 1), (332, .iconst 1, 1), (333, .iadd, 1), (334, .iastore, 1), (335, .return_, 1)] : List (Nat × Instr × Nat)).all (fun q => decide (decode cX11_day q.1 = .ok q.2)) = true := by decide +kernel
set_option maxRecDepth 100000 in
set_option maxHeartbeats 4000000 in
theorem M_X11_day {l : Launch} {b : ab_B} {D : va_G} {cA : Nat → ClassId} {f_X11_goingSet : List Value → ab_H → Option ab_O} (h_X11_goingSet : ab_M l b D ab_cl cA (ab_E0 b) yX11_goingSet (Cond.code yX11_goingSet cX11_goingSet 4 (some .int) :: ab_G) ({ frames := 6, cells := 0, slots := 0, locals := 600 } : Room) f_X11_goingSet) {f_X11_bitOf : List Value → ab_H → Option ab_O} (h_X11_bitOf : ab_M l b D ab_cl cA (ab_E0 b) yX11_bitOf (Cond.code yX11_bitOf cX11_bitOf 2 (some .boolean) :: ab_G) ({ frames := 1, cells := 0, slots := 0, locals := 100 } : Room) f_X11_bitOf) {f_X11_goesOf : List Value → ab_H → Option ab_O} (h_X11_goesOf : ab_M l b D ab_cl cA (ab_E0 b) yX11_goesOf (Cond.code yX11_goesOf cX11_goesOf 3 (some .int) :: ab_G) ({ frames := 3, cells := 0, slots := 0, locals := 300 } : Room) f_X11_goesOf) {f_X11_cell : List Value → ab_H → Option ab_O} (h_X11_cell : ab_M l b D ab_cl cA (ab_E0 b) yX11_cell (Cond.code yX11_cell cX11_cell 2 (some .int) :: ab_G) ({ frames := 1, cells := 0, slots := 0, locals := 100 } : Room) f_X11_cell) {f_X11_eats : List Value → ab_H → Option ab_O} (h_X11_eats : ab_M l b D ab_cl cA (ab_E0 b) yX11_eats (Cond.code yX11_eats cX11_eats 3 none :: ab_G) ({ frames := 2, cells := 0, slots := 0, locals := 200 } : Room) f_X11_eats) {f_X11_areUnlike : List Value → ab_H → Option ab_O} (h_X11_areUnlike : ab_M l b D ab_cl cA (ab_E0 b) yX11_areUnlike (Cond.code yX11_areUnlike cX11_areUnlike 3 (some .boolean) :: ab_G) ({ frames := 3, cells := 0, slots := 0, locals := 300 } : Room) f_X11_areUnlike) : ab_M l b D ab_cl cA (ab_E0 b) yX11_day (Cond.code yX11_day cX11_day 5 none :: ab_G) ({ frames := 7, cells := 0, slots := 0, locals := 700 } : Room) (ab_X (ab_T (L_X11_day f_X11_goingSet f_X11_bitOf f_X11_goesOf f_X11_cell f_X11_eats f_X11_areUnlike)) 5) := by
  refine ab_meth (ret := none) (L_X11_day f_X11_goingSet f_X11_bitOf f_X11_goesOf f_X11_cell f_X11_eats f_X11_areUnlike) (by decide) rfl fun p e R s m args below meth c o C => ?_
  unfold L_X11_day
  refine List.forall_mem_cons.mpr ⟨ok_iconst C (show decode cX11_day 0 = .ok (.iconst 1, 1) from dk_at dq37_0 (i := 0) rfl) (by decide) rfl, ?_⟩
  refine List.forall_mem_cons.mpr ⟨ok_aload_n C (show decode cX11_day 1 = .ok (.aload_n 0, 1) from dk_at dq37_0 (i := 1) rfl) rfl rfl, ?_⟩
  refine List.forall_mem_cons.mpr ⟨ok_getf C (wi_X11) rfl (by decide) kw_1186 (show decode cX11_day 2 = .ok (.getfield 33, 3) from dk_at dq37_0 (i := 2) rfl) rfl, ?_⟩
  refine List.forall_mem_cons.mpr ⟨ok_bipush C (show decode cX11_day 5 = .ok (.bipush 120, 2) from dk_at dq37_0 (i := 3) rfl) (by decide) rfl, ?_⟩
  refine List.forall_mem_cons.mpr ⟨ok_iaload C (show decode cX11_day 7 = .ok (.iaload, 1) from dk_at dq37_0 (i := 4) rfl) rfl, ?_⟩
  refine List.forall_mem_cons.mpr ⟨ok_iconst C (show decode cX11_day 8 = .ok (.iconst 2, 1) from dk_at dq37_0 (i := 5) rfl) (by decide) rfl, ?_⟩
  refine List.forall_mem_cons.mpr ⟨ok_irem C (show decode cX11_day 9 = .ok (.irem, 1) from dk_at dq37_0 (i := 6) rfl) rfl, ?_⟩
  refine List.forall_mem_cons.mpr ⟨ok_isub C (show decode cX11_day 10 = .ok (.isub, 1) from dk_at dq37_0 (i := 7) rfl) rfl, ?_⟩
  refine List.forall_mem_cons.mpr ⟨ok_istore_n C (show decode cX11_day 11 = .ok (.istore_n 1, 1) from dk_at dq37_0 (i := 8) rfl) rfl (by decide) rfl, ?_⟩
  refine List.forall_mem_cons.mpr ⟨ok_aload_n C (show decode cX11_day 12 = .ok (.aload_n 0, 1) from dk_at dq37_0 (i := 9) rfl) rfl rfl, ?_⟩
  refine List.forall_mem_cons.mpr ⟨ok_callV C h_X11_goingSet ⟨rfl, rfl⟩ rfl kw_1517 kw_1514 kw_1516 kp_83 kw_11 rfl ds_X11_goingSet ⟨by decide, by decide⟩ (show decode cX11_day 13 = .ok (.invokevirtual 289, 3) from dk_at dq37_0 (i := 10) rfl) rfl, ?_⟩
  refine List.forall_mem_cons.mpr ⟨ok_istore_n C (show decode cX11_day 16 = .ok (.istore_n 2, 1) from dk_at dq37_0 (i := 11) rfl) rfl (by decide) rfl, ?_⟩
  refine List.forall_mem_cons.mpr ⟨ok_iconst C (show decode cX11_day 17 = .ok (.iconst 0, 1) from dk_at dq37_0 (i := 12) rfl) (by decide) rfl, ?_⟩
  refine List.forall_mem_cons.mpr ⟨ok_istore_n C (show decode cX11_day 18 = .ok (.istore_n 3, 1) from dk_at dq37_0 (i := 13) rfl) rfl (by decide) rfl, ?_⟩
  refine List.forall_mem_cons.mpr ⟨ok_iload_n C (show decode cX11_day 19 = .ok (.iload_n 3, 1) from dk_at dq37_0 (i := 14) rfl) rfl rfl, ?_⟩
  refine List.forall_mem_cons.mpr ⟨ok_aload_n C (show decode cX11_day 20 = .ok (.aload_n 0, 1) from dk_at dq37_0 (i := 15) rfl) rfl rfl, ?_⟩
  refine List.forall_mem_cons.mpr ⟨ok_getf C (wi_X11) rfl (by decide) kw_1186 (show decode cX11_day 21 = .ok (.getfield 33, 3) from dk_at dq37_1 (i := 0) rfl) rfl, ?_⟩
  refine List.forall_mem_cons.mpr ⟨ok_iconst C (show decode cX11_day 24 = .ok (.iconst 1, 1) from dk_at dq37_1 (i := 1) rfl) (by decide) rfl, ?_⟩
  refine List.forall_mem_cons.mpr ⟨ok_iaload C (show decode cX11_day 25 = .ok (.iaload, 1) from dk_at dq37_1 (i := 2) rfl) rfl, ?_⟩
  refine List.forall_mem_cons.mpr ⟨ok_icmpge C (show decode cX11_day 26 = .ok (.if_icmp .ge 45, 3) from dk_at dq37_1 (i := 3) rfl) (tg := 71) (by decide) rfl rfl, ?_⟩
  refine List.forall_mem_cons.mpr ⟨ok_iload_n C (show decode cX11_day 29 = .ok (.iload_n 2, 1) from dk_at dq37_1 (i := 4) rfl) rfl rfl, ?_⟩
  refine List.forall_mem_cons.mpr ⟨ok_iload_n C (show decode cX11_day 30 = .ok (.iload_n 3, 1) from dk_at dq37_1 (i := 5) rfl) rfl rfl, ?_⟩
  refine List.forall_mem_cons.mpr ⟨ok_callS C h_X11_bitOf ⟨rfl, rfl⟩ kw_1382 kw_1380 kw_1381 kw_11 ds_X11_bitOf ⟨by decide, by decide⟩ (show decode cX11_day 31 = .ok (.invokestatic 221, 3) from dk_at dq37_1 (i := 6) rfl) rfl, ?_⟩
  refine List.forall_mem_cons.mpr ⟨ok_ifne C (show decode cX11_day 34 = .ok (.ifCond .ne 6, 3) from dk_at dq37_1 (i := 7) rfl) (tg := 40) (by decide) rfl rfl, ?_⟩
  refine List.forall_mem_cons.mpr ⟨ok_goto C (show decode cX11_day 37 = .ok (.goto 28, 3) from dk_at dq37_1 (i := 8) rfl) (tg := 65) (by decide) rfl, ?_⟩
  refine List.forall_mem_cons.mpr ⟨ok_aload_n C (show decode cX11_day 40 = .ok (.aload_n 0, 1) from dk_at dq37_1 (i := 9) rfl) rfl rfl, ?_⟩
  refine List.forall_mem_cons.mpr ⟨ok_getf C (wi_X11) rfl (by decide) kw_1186 (show decode cX11_day 41 = .ok (.getfield 33, 3) from dk_at dq37_1 (i := 10) rfl) rfl, ?_⟩
  refine List.forall_mem_cons.mpr ⟨ok_sipush C (show decode cX11_day 44 = .ok (.sipush 172, 3) from dk_at dq37_1 (i := 11) rfl) (by decide) rfl, ?_⟩
  refine List.forall_mem_cons.mpr ⟨ok_iload_n C (show decode cX11_day 47 = .ok (.iload_n 3, 1) from dk_at dq37_1 (i := 12) rfl) rfl rfl, ?_⟩
  refine List.forall_mem_cons.mpr ⟨ok_iadd C (show decode cX11_day 48 = .ok (.iadd, 1) from dk_at dq37_1 (i := 13) rfl) rfl, ?_⟩
  refine List.forall_mem_cons.mpr ⟨ok_iload_n C (show decode cX11_day 49 = .ok (.iload_n 1, 1) from dk_at dq37_1 (i := 14) rfl) rfl rfl, ?_⟩
  refine List.forall_mem_cons.mpr ⟨ok_iastore C (show decode cX11_day 50 = .ok (.iastore, 1) from dk_at dq37_1 (i := 15) rfl) rfl, ?_⟩
  refine List.forall_mem_cons.mpr ⟨ok_aload_n C (show decode cX11_day 51 = .ok (.aload_n 0, 1) from dk_at dq37_2 (i := 0) rfl) rfl rfl, ?_⟩
  refine List.forall_mem_cons.mpr ⟨ok_getf C (wi_X11) rfl (by decide) kw_1186 (show decode cX11_day 52 = .ok (.getfield 33, 3) from dk_at dq37_2 (i := 1) rfl) rfl, ?_⟩
  refine List.forall_mem_cons.mpr ⟨ok_sipush C (show decode cX11_day 55 = .ok (.sipush 181, 3) from dk_at dq37_2 (i := 2) rfl) (by decide) rfl, ?_⟩
  refine List.forall_mem_cons.mpr ⟨ok_iload_n C (show decode cX11_day 58 = .ok (.iload_n 3, 1) from dk_at dq37_2 (i := 3) rfl) rfl rfl, ?_⟩
  refine List.forall_mem_cons.mpr ⟨ok_iadd C (show decode cX11_day 59 = .ok (.iadd, 1) from dk_at dq37_2 (i := 4) rfl) rfl, ?_⟩
  refine List.forall_mem_cons.mpr ⟨ok_dup2 C (show decode cX11_day 60 = .ok (.dup2, 1) from dk_at dq37_2 (i := 5) rfl) rfl, ?_⟩
  refine List.forall_mem_cons.mpr ⟨ok_iaload C (show decode cX11_day 61 = .ok (.iaload, 1) from dk_at dq37_2 (i := 6) rfl) rfl, ?_⟩
  refine List.forall_mem_cons.mpr ⟨ok_iconst C (show decode cX11_day 62 = .ok (.iconst 1, 1) from dk_at dq37_2 (i := 7) rfl) (by decide) rfl, ?_⟩
  refine List.forall_mem_cons.mpr ⟨ok_iadd C (show decode cX11_day 63 = .ok (.iadd, 1) from dk_at dq37_2 (i := 8) rfl) rfl, ?_⟩
  refine List.forall_mem_cons.mpr ⟨ok_iastore C (show decode cX11_day 64 = .ok (.iastore, 1) from dk_at dq37_2 (i := 9) rfl) rfl, ?_⟩
  refine List.forall_mem_cons.mpr ⟨ok_iinc C (show decode cX11_day 65 = .ok (.iinc 3 1, 3) from dk_at dq37_2 (i := 10) rfl) (by decide) (by decide) rfl, ?_⟩
  refine List.forall_mem_cons.mpr ⟨ok_goto C (show decode cX11_day 68 = .ok (.goto (-49), 3) from dk_at dq37_2 (i := 11) rfl) (tg := 19) (by decide) rfl, ?_⟩
  refine List.forall_mem_cons.mpr ⟨ok_iconst C (show decode cX11_day 71 = .ok (.iconst 0, 1) from dk_at dq37_2 (i := 12) rfl) (by decide) rfl, ?_⟩
  refine List.forall_mem_cons.mpr ⟨ok_istore_n C (show decode cX11_day 72 = .ok (.istore_n 3, 1) from dk_at dq37_2 (i := 13) rfl) rfl (by decide) rfl, ?_⟩
  refine List.forall_mem_cons.mpr ⟨ok_iload_n C (show decode cX11_day 73 = .ok (.iload_n 3, 1) from dk_at dq37_2 (i := 14) rfl) rfl rfl, ?_⟩
  refine List.forall_mem_cons.mpr ⟨ok_aload_n C (show decode cX11_day 74 = .ok (.aload_n 0, 1) from dk_at dq37_2 (i := 15) rfl) rfl rfl, ?_⟩
  refine List.forall_mem_cons.mpr ⟨ok_getf C (wi_X11) rfl (by decide) kw_1186 (show decode cX11_day 75 = .ok (.getfield 33, 3) from dk_at dq37_3 (i := 0) rfl) rfl, ?_⟩
  refine List.forall_mem_cons.mpr ⟨ok_iconst C (show decode cX11_day 78 = .ok (.iconst 0, 1) from dk_at dq37_3 (i := 1) rfl) (by decide) rfl, ?_⟩
  refine List.forall_mem_cons.mpr ⟨ok_iaload C (show decode cX11_day 79 = .ok (.iaload, 1) from dk_at dq37_3 (i := 2) rfl) rfl, ?_⟩
  refine List.forall_mem_cons.mpr ⟨ok_icmpge C (show decode cX11_day 80 = .ok (.if_icmp .ge 84, 3) from dk_at dq37_3 (i := 3) rfl) (tg := 164) (by decide) rfl rfl, ?_⟩
  refine List.forall_mem_cons.mpr ⟨ok_aload_n C (show decode cX11_day 83 = .ok (.aload_n 0, 1) from dk_at dq37_3 (i := 4) rfl) rfl rfl, ?_⟩
  refine List.forall_mem_cons.mpr ⟨ok_iload_n C (show decode cX11_day 84 = .ok (.iload_n 3, 1) from dk_at dq37_3 (i := 5) rfl) rfl rfl, ?_⟩
  refine List.forall_mem_cons.mpr ⟨ok_callV C h_X11_goesOf ⟨rfl, rfl⟩ rfl kw_1521 kw_1518 kw_1520 kp_84 kw_11 rfl ds_X11_goesOf ⟨by decide, by decide⟩ (show decode cX11_day 85 = .ok (.invokevirtual 292, 3) from dk_at dq37_3 (i := 6) rfl) rfl, ?_⟩
  refine List.forall_mem_cons.mpr ⟨ok_istore C (show decode cX11_day 88 = .ok (.istore 4, 2) from dk_at dq37_3 (i := 7) rfl) (by decide) rfl, ?_⟩
  refine List.forall_mem_cons.mpr ⟨ok_aload_n C (show decode cX11_day 90 = .ok (.aload_n 0, 1) from dk_at dq37_3 (i := 8) rfl) rfl rfl, ?_⟩
  refine List.forall_mem_cons.mpr ⟨ok_getf C (wi_X11) rfl (by decide) kw_1186 (show decode cX11_day 91 = .ok (.getfield 33, 3) from dk_at dq37_3 (i := 9) rfl) rfl, ?_⟩
  refine List.forall_mem_cons.mpr ⟨ok_bipush C (show decode cX11_day 94 = .ok (.bipush 124, 2) from dk_at dq37_3 (i := 10) rfl) (by decide) rfl, ?_⟩
  refine List.forall_mem_cons.mpr ⟨ok_iload_n C (show decode cX11_day 96 = .ok (.iload_n 3, 1) from dk_at dq37_3 (i := 11) rfl) rfl rfl, ?_⟩
  refine List.forall_mem_cons.mpr ⟨ok_iconst C (show decode cX11_day 97 = .ok (.iconst 1, 1) from dk_at dq37_3 (i := 12) rfl) (by decide) rfl, ?_⟩
  refine List.forall_mem_cons.mpr ⟨ok_iload_n C (show decode cX11_day 98 = .ok (.iload_n 1, 1) from dk_at dq37_3 (i := 13) rfl) rfl rfl, ?_⟩
  refine List.forall_mem_cons.mpr ⟨ok_isub C (show decode cX11_day 99 = .ok (.isub, 1) from dk_at dq37_3 (i := 14) rfl) rfl, ?_⟩
  refine List.forall_mem_cons.mpr ⟨ok_callS C h_X11_cell ⟨rfl, rfl⟩ kw_1413 kw_1411 kw_1412 kw_11 ds_X11_cell ⟨by decide, by decide⟩ (show decode cX11_day 100 = .ok (.invokestatic 245, 3) from dk_at dq37_3 (i := 15) rfl) rfl, ?_⟩
  refine List.forall_mem_cons.mpr ⟨ok_iadd C (show decode cX11_day 103 = .ok (.iadd, 1) from dk_at dq37_4 (i := 0) rfl) rfl, ?_⟩
  refine List.forall_mem_cons.mpr ⟨ok_dup2 C (show decode cX11_day 104 = .ok (.dup2, 1) from dk_at dq37_4 (i := 1) rfl) rfl, ?_⟩
  refine List.forall_mem_cons.mpr ⟨ok_iaload C (show decode cX11_day 105 = .ok (.iaload, 1) from dk_at dq37_4 (i := 2) rfl) rfl, ?_⟩
  refine List.forall_mem_cons.mpr ⟨ok_iload C (show decode cX11_day 106 = .ok (.iload 4, 2) from dk_at dq37_4 (i := 3) rfl) rfl, ?_⟩
  refine List.forall_mem_cons.mpr ⟨ok_isub C (show decode cX11_day 108 = .ok (.isub, 1) from dk_at dq37_4 (i := 4) rfl) rfl, ?_⟩
  refine List.forall_mem_cons.mpr ⟨ok_iastore C (show decode cX11_day 109 = .ok (.iastore, 1) from dk_at dq37_4 (i := 5) rfl) rfl, ?_⟩
  refine List.forall_mem_cons.mpr ⟨ok_aload_n C (show decode cX11_day 110 = .ok (.aload_n 0, 1) from dk_at dq37_4 (i := 6) rfl) rfl rfl, ?_⟩
  refine List.forall_mem_cons.mpr ⟨ok_getf C (wi_X11) rfl (by decide) kw_1186 (show decode cX11_day 111 = .ok (.getfield 33, 3) from dk_at dq37_4 (i := 7) rfl) rfl, ?_⟩
  refine List.forall_mem_cons.mpr ⟨ok_bipush C (show decode cX11_day 114 = .ok (.bipush 124, 2) from dk_at dq37_4 (i := 8) rfl) (by decide) rfl, ?_⟩
  refine List.forall_mem_cons.mpr ⟨ok_iload_n C (show decode cX11_day 116 = .ok (.iload_n 3, 1) from dk_at dq37_4 (i := 9) rfl) rfl rfl, ?_⟩
  refine List.forall_mem_cons.mpr ⟨ok_iload_n C (show decode cX11_day 117 = .ok (.iload_n 1, 1) from dk_at dq37_4 (i := 10) rfl) rfl rfl, ?_⟩
  refine List.forall_mem_cons.mpr ⟨ok_callS C h_X11_cell ⟨rfl, rfl⟩ kw_1413 kw_1411 kw_1412 kw_11 ds_X11_cell ⟨by decide, by decide⟩ (show decode cX11_day 118 = .ok (.invokestatic 245, 3) from dk_at dq37_4 (i := 11) rfl) rfl, ?_⟩
  refine List.forall_mem_cons.mpr ⟨ok_iadd C (show decode cX11_day 121 = .ok (.iadd, 1) from dk_at dq37_4 (i := 12) rfl) rfl, ?_⟩
  refine List.forall_mem_cons.mpr ⟨ok_dup2 C (show decode cX11_day 122 = .ok (.dup2, 1) from dk_at dq37_4 (i := 13) rfl) rfl, ?_⟩
  refine List.forall_mem_cons.mpr ⟨ok_iaload C (show decode cX11_day 123 = .ok (.iaload, 1) from dk_at dq37_4 (i := 14) rfl) rfl, ?_⟩
  refine List.forall_mem_cons.mpr ⟨ok_iload C (show decode cX11_day 124 = .ok (.iload 4, 2) from dk_at dq37_4 (i := 15) rfl) rfl, ?_⟩
  refine List.forall_mem_cons.mpr ⟨ok_iadd C (show decode cX11_day 126 = .ok (.iadd, 1) from dk_at dq37_5 (i := 0) rfl) rfl, ?_⟩
  refine List.forall_mem_cons.mpr ⟨ok_iastore C (show decode cX11_day 127 = .ok (.iastore, 1) from dk_at dq37_5 (i := 1) rfl) rfl, ?_⟩
  refine List.forall_mem_cons.mpr ⟨ok_aload_n C (show decode cX11_day 128 = .ok (.aload_n 0, 1) from dk_at dq37_5 (i := 2) rfl) rfl rfl, ?_⟩
  refine List.forall_mem_cons.mpr ⟨ok_getf C (wi_X11) rfl (by decide) kw_1186 (show decode cX11_day 129 = .ok (.getfield 33, 3) from dk_at dq37_5 (i := 3) rfl) rfl, ?_⟩
  refine List.forall_mem_cons.mpr ⟨ok_sipush C (show decode cX11_day 132 = .ok (.sipush 160, 3) from dk_at dq37_5 (i := 4) rfl) (by decide) rfl, ?_⟩
  refine List.forall_mem_cons.mpr ⟨ok_iload_n C (show decode cX11_day 135 = .ok (.iload_n 3, 1) from dk_at dq37_5 (i := 5) rfl) rfl rfl, ?_⟩
  refine List.forall_mem_cons.mpr ⟨ok_iload_n C (show decode cX11_day 136 = .ok (.iload_n 1, 1) from dk_at dq37_5 (i := 6) rfl) rfl rfl, ?_⟩
  refine List.forall_mem_cons.mpr ⟨ok_callS C h_X11_cell ⟨rfl, rfl⟩ kw_1413 kw_1411 kw_1412 kw_11 ds_X11_cell ⟨by decide, by decide⟩ (show decode cX11_day 137 = .ok (.invokestatic 245, 3) from dk_at dq37_5 (i := 7) rfl) rfl, ?_⟩
  refine List.forall_mem_cons.mpr ⟨ok_iadd C (show decode cX11_day 140 = .ok (.iadd, 1) from dk_at dq37_5 (i := 8) rfl) rfl, ?_⟩
  refine List.forall_mem_cons.mpr ⟨ok_dup2 C (show decode cX11_day 141 = .ok (.dup2, 1) from dk_at dq37_5 (i := 9) rfl) rfl, ?_⟩
  refine List.forall_mem_cons.mpr ⟨ok_iaload C (show decode cX11_day 142 = .ok (.iaload, 1) from dk_at dq37_5 (i := 10) rfl) rfl, ?_⟩
  refine List.forall_mem_cons.mpr ⟨ok_iload C (show decode cX11_day 143 = .ok (.iload 4, 2) from dk_at dq37_5 (i := 11) rfl) rfl, ?_⟩
  refine List.forall_mem_cons.mpr ⟨ok_iadd C (show decode cX11_day 145 = .ok (.iadd, 1) from dk_at dq37_5 (i := 12) rfl) rfl, ?_⟩
  refine List.forall_mem_cons.mpr ⟨ok_iastore C (show decode cX11_day 146 = .ok (.iastore, 1) from dk_at dq37_5 (i := 13) rfl) rfl, ?_⟩
  refine List.forall_mem_cons.mpr ⟨ok_aload_n C (show decode cX11_day 147 = .ok (.aload_n 0, 1) from dk_at dq37_5 (i := 14) rfl) rfl rfl, ?_⟩
  refine List.forall_mem_cons.mpr ⟨ok_dup C (show decode cX11_day 148 = .ok (.dup, 1) from dk_at dq37_5 (i := 15) rfl) rfl, ?_⟩
  refine List.forall_mem_cons.mpr ⟨ok_getf C (wi_X11) rfl (by decide) kw_1202 (show decode cX11_day 149 = .ok (.getfield 283, 3) from dk_at dq37_6 (i := 0) rfl) rfl, ?_⟩
  refine List.forall_mem_cons.mpr ⟨ok_iload C (show decode cX11_day 152 = .ok (.iload 4, 2) from dk_at dq37_6 (i := 1) rfl) rfl, ?_⟩
  refine List.forall_mem_cons.mpr ⟨ok_isub C (show decode cX11_day 154 = .ok (.isub, 1) from dk_at dq37_6 (i := 2) rfl) rfl, ?_⟩
  refine List.forall_mem_cons.mpr ⟨ok_putf C (wi_X11) tyX11 tyX11_ok nmX11 rfl (by decide) kw_1202 (Or.inl rfl) (Or.inl ⟨rfl, rfl⟩) (show decode cX11_day 155 = .ok (.putfield 283, 3) from dk_at dq37_6 (i := 3) rfl) rfl, ?_⟩
  refine List.forall_mem_cons.mpr ⟨ok_iinc C (show decode cX11_day 158 = .ok (.iinc 3 1, 3) from dk_at dq37_6 (i := 4) rfl) (by decide) (by decide) rfl, ?_⟩
  refine List.forall_mem_cons.mpr ⟨ok_goto C (show decode cX11_day 161 = .ok (.goto (-88), 3) from dk_at dq37_6 (i := 5) rfl) (tg := 73) (by decide) rfl, ?_⟩
  refine List.forall_mem_cons.mpr ⟨ok_aload_n C (show decode cX11_day 164 = .ok (.aload_n 0, 1) from dk_at dq37_6 (i := 6) rfl) rfl rfl, ?_⟩
  refine List.forall_mem_cons.mpr ⟨ok_getf C (wi_X11) rfl (by decide) kw_1186 (show decode cX11_day 165 = .ok (.getfield 33, 3) from dk_at dq37_6 (i := 7) rfl) rfl, ?_⟩
  refine List.forall_mem_cons.mpr ⟨ok_bipush C (show decode cX11_day 168 = .ok (.bipush 122, 2) from dk_at dq37_6 (i := 8) rfl) (by decide) rfl, ?_⟩
  refine List.forall_mem_cons.mpr ⟨ok_dup2 C (show decode cX11_day 170 = .ok (.dup2, 1) from dk_at dq37_6 (i := 9) rfl) rfl, ?_⟩
  refine List.forall_mem_cons.mpr ⟨ok_iaload C (show decode cX11_day 171 = .ok (.iaload, 1) from dk_at dq37_6 (i := 10) rfl) rfl, ?_⟩
  refine List.forall_mem_cons.mpr ⟨ok_aload_n C (show decode cX11_day 172 = .ok (.aload_n 0, 1) from dk_at dq37_6 (i := 11) rfl) rfl rfl, ?_⟩
  refine List.forall_mem_cons.mpr ⟨ok_getf C (wi_X11) rfl (by decide) kw_1186 (show decode cX11_day 173 = .ok (.getfield 33, 3) from dk_at dq37_6 (i := 12) rfl) rfl, ?_⟩
  refine List.forall_mem_cons.mpr ⟨ok_iconst C (show decode cX11_day 176 = .ok (.iconst 2, 1) from dk_at dq37_6 (i := 13) rfl) (by decide) rfl, ?_⟩
  refine List.forall_mem_cons.mpr ⟨ok_iaload C (show decode cX11_day 177 = .ok (.iaload, 1) from dk_at dq37_6 (i := 14) rfl) rfl, ?_⟩
  refine List.forall_mem_cons.mpr ⟨ok_aload_n C (show decode cX11_day 178 = .ok (.aload_n 0, 1) from dk_at dq37_6 (i := 15) rfl) rfl rfl, ?_⟩
  refine List.forall_mem_cons.mpr ⟨ok_getf C (wi_X11) rfl (by decide) kw_1202 (show decode cX11_day 179 = .ok (.getfield 283, 3) from dk_at dq37_7 (i := 0) rfl) rfl, ?_⟩
  refine List.forall_mem_cons.mpr ⟨ok_isub C (show decode cX11_day 182 = .ok (.isub, 1) from dk_at dq37_7 (i := 1) rfl) rfl, ?_⟩
  refine List.forall_mem_cons.mpr ⟨ok_iadd C (show decode cX11_day 183 = .ok (.iadd, 1) from dk_at dq37_7 (i := 2) rfl) rfl, ?_⟩
  refine List.forall_mem_cons.mpr ⟨ok_iastore C (show decode cX11_day 184 = .ok (.iastore, 1) from dk_at dq37_7 (i := 3) rfl) rfl, ?_⟩
  refine List.forall_mem_cons.mpr ⟨ok_aload_n C (show decode cX11_day 185 = .ok (.aload_n 0, 1) from dk_at dq37_7 (i := 4) rfl) rfl rfl, ?_⟩
  refine List.forall_mem_cons.mpr ⟨ok_getf C (wi_X11) rfl (by decide) kw_1186 (show decode cX11_day 186 = .ok (.getfield 33, 3) from dk_at dq37_7 (i := 5) rfl) rfl, ?_⟩
  refine List.forall_mem_cons.mpr ⟨ok_bipush C (show decode cX11_day 189 = .ok (.bipush 121, 2) from dk_at dq37_7 (i := 6) rfl) (by decide) rfl, ?_⟩
  refine List.forall_mem_cons.mpr ⟨ok_dup2 C (show decode cX11_day 191 = .ok (.dup2, 1) from dk_at dq37_7 (i := 7) rfl) rfl, ?_⟩
  refine List.forall_mem_cons.mpr ⟨ok_iaload C (show decode cX11_day 192 = .ok (.iaload, 1) from dk_at dq37_7 (i := 8) rfl) rfl, ?_⟩
  refine List.forall_mem_cons.mpr ⟨ok_aload_n C (show decode cX11_day 193 = .ok (.aload_n 0, 1) from dk_at dq37_7 (i := 9) rfl) rfl rfl, ?_⟩
  refine List.forall_mem_cons.mpr ⟨ok_getf C (wi_X11) rfl (by decide) kw_1202 (show decode cX11_day 194 = .ok (.getfield 283, 3) from dk_at dq37_7 (i := 10) rfl) rfl, ?_⟩
  refine List.forall_mem_cons.mpr ⟨ok_aload_n C (show decode cX11_day 197 = .ok (.aload_n 0, 1) from dk_at dq37_7 (i := 11) rfl) rfl rfl, ?_⟩
  refine List.forall_mem_cons.mpr ⟨ok_getf C (wi_X11) rfl (by decide) kw_1186 (show decode cX11_day 198 = .ok (.getfield 33, 3) from dk_at dq37_7 (i := 12) rfl) rfl, ?_⟩
  refine List.forall_mem_cons.mpr ⟨ok_iconst C (show decode cX11_day 201 = .ok (.iconst 2, 1) from dk_at dq37_7 (i := 13) rfl) (by decide) rfl, ?_⟩
  refine List.forall_mem_cons.mpr ⟨ok_iaload C (show decode cX11_day 202 = .ok (.iaload, 1) from dk_at dq37_7 (i := 14) rfl) rfl, ?_⟩
  refine List.forall_mem_cons.mpr ⟨ok_icmpne C (show decode cX11_day 203 = .ok (.if_icmp .ne 7, 3) from dk_at dq37_7 (i := 15) rfl) (tg := 210) (by decide) rfl rfl, ?_⟩
  refine List.forall_mem_cons.mpr ⟨ok_iconst C (show decode cX11_day 206 = .ok (.iconst 1, 1) from dk_at dq37_8 (i := 0) rfl) (by decide) rfl, ?_⟩
  refine List.forall_mem_cons.mpr ⟨ok_goto C (show decode cX11_day 207 = .ok (.goto 4, 3) from dk_at dq37_8 (i := 1) rfl) (tg := 211) (by decide) rfl, ?_⟩
  refine List.forall_mem_cons.mpr ⟨ok_iconst C (show decode cX11_day 210 = .ok (.iconst 0, 1) from dk_at dq37_8 (i := 2) rfl) (by decide) rfl, ?_⟩
  refine List.forall_mem_cons.mpr ⟨ok_iadd C (show decode cX11_day 211 = .ok (.iadd, 1) from dk_at dq37_8 (i := 3) rfl) rfl, ?_⟩
  refine List.forall_mem_cons.mpr ⟨ok_iastore C (show decode cX11_day 212 = .ok (.iastore, 1) from dk_at dq37_8 (i := 4) rfl) rfl, ?_⟩
  refine List.forall_mem_cons.mpr ⟨ok_iconst C (show decode cX11_day 213 = .ok (.iconst 0, 1) from dk_at dq37_8 (i := 5) rfl) (by decide) rfl, ?_⟩
  refine List.forall_mem_cons.mpr ⟨ok_istore_n C (show decode cX11_day 214 = .ok (.istore_n 3, 1) from dk_at dq37_8 (i := 6) rfl) rfl (by decide) rfl, ?_⟩
  refine List.forall_mem_cons.mpr ⟨ok_iload_n C (show decode cX11_day 215 = .ok (.iload_n 3, 1) from dk_at dq37_8 (i := 7) rfl) rfl rfl, ?_⟩
  refine List.forall_mem_cons.mpr ⟨ok_iconst C (show decode cX11_day 216 = .ok (.iconst 2, 1) from dk_at dq37_8 (i := 8) rfl) (by decide) rfl, ?_⟩
  refine List.forall_mem_cons.mpr ⟨ok_aload_n C (show decode cX11_day 217 = .ok (.aload_n 0, 1) from dk_at dq37_8 (i := 9) rfl) rfl rfl, ?_⟩
  refine List.forall_mem_cons.mpr ⟨ok_getf C (wi_X11) rfl (by decide) kw_1186 (show decode cX11_day 218 = .ok (.getfield 33, 3) from dk_at dq37_8 (i := 10) rfl) rfl, ?_⟩
  refine List.forall_mem_cons.mpr ⟨ok_iconst C (show decode cX11_day 221 = .ok (.iconst 0, 1) from dk_at dq37_8 (i := 11) rfl) (by decide) rfl, ?_⟩
  refine List.forall_mem_cons.mpr ⟨ok_iaload C (show decode cX11_day 222 = .ok (.iaload, 1) from dk_at dq37_8 (i := 12) rfl) rfl, ?_⟩
  refine List.forall_mem_cons.mpr ⟨ok_imul C (show decode cX11_day 223 = .ok (.imul, 1) from dk_at dq37_8 (i := 13) rfl) rfl, ?_⟩
  refine List.forall_mem_cons.mpr ⟨ok_icmpge C (show decode cX11_day 224 = .ok (.if_icmp .ge 14, 3) from dk_at dq37_8 (i := 14) rfl) (tg := 238) (by decide) rfl rfl, ?_⟩
  refine List.forall_mem_cons.mpr ⟨ok_aload_n C (show decode cX11_day 227 = .ok (.aload_n 0, 1) from dk_at dq37_8 (i := 15) rfl) rfl rfl, ?_⟩
  refine List.forall_mem_cons.mpr ⟨ok_iload_n C (show decode cX11_day 228 = .ok (.iload_n 3, 1) from dk_at dq37_9 (i := 0) rfl) rfl rfl, ?_⟩
  refine List.forall_mem_cons.mpr ⟨ok_callV C h_X11_eats ⟨rfl, rfl⟩ rfl kw_1528 kw_1525 kw_1527 kp_85 kw_11 rfl ds_X11_eats ⟨by decide, by decide⟩ (show decode cX11_day 229 = .ok (.invokevirtual 295, 3) from dk_at dq37_9 (i := 1) rfl) rfl, ?_⟩
  refine List.forall_mem_cons.mpr ⟨ok_iinc C (show decode cX11_day 232 = .ok (.iinc 3 1, 3) from dk_at dq37_9 (i := 2) rfl) (by decide) (by decide) rfl, ?_⟩
  refine List.forall_mem_cons.mpr ⟨ok_goto C (show decode cX11_day 235 = .ok (.goto (-20), 3) from dk_at dq37_9 (i := 3) rfl) (tg := 215) (by decide) rfl, ?_⟩
  refine List.forall_mem_cons.mpr ⟨ok_iconst C (show decode cX11_day 238 = .ok (.iconst 0, 1) from dk_at dq37_9 (i := 4) rfl) (by decide) rfl, ?_⟩
  refine List.forall_mem_cons.mpr ⟨ok_istore_n C (show decode cX11_day 239 = .ok (.istore_n 3, 1) from dk_at dq37_9 (i := 5) rfl) rfl (by decide) rfl, ?_⟩
  refine List.forall_mem_cons.mpr ⟨ok_iload_n C (show decode cX11_day 240 = .ok (.iload_n 3, 1) from dk_at dq37_9 (i := 6) rfl) rfl rfl, ?_⟩
  refine List.forall_mem_cons.mpr ⟨ok_aload_n C (show decode cX11_day 241 = .ok (.aload_n 0, 1) from dk_at dq37_9 (i := 7) rfl) rfl rfl, ?_⟩
  refine List.forall_mem_cons.mpr ⟨ok_getf C (wi_X11) rfl (by decide) kw_1186 (show decode cX11_day 242 = .ok (.getfield 33, 3) from dk_at dq37_9 (i := 8) rfl) rfl, ?_⟩
  refine List.forall_mem_cons.mpr ⟨ok_iconst C (show decode cX11_day 245 = .ok (.iconst 1, 1) from dk_at dq37_9 (i := 9) rfl) (by decide) rfl, ?_⟩
  refine List.forall_mem_cons.mpr ⟨ok_iaload C (show decode cX11_day 246 = .ok (.iaload, 1) from dk_at dq37_9 (i := 10) rfl) rfl, ?_⟩
  refine List.forall_mem_cons.mpr ⟨ok_icmpge C (show decode cX11_day 247 = .ok (.if_icmp .ge 77, 3) from dk_at dq37_9 (i := 11) rfl) (tg := 324) (by decide) rfl rfl, ?_⟩
  refine List.forall_mem_cons.mpr ⟨ok_iconst C (show decode cX11_day 250 = .ok (.iconst 0, 1) from dk_at dq37_9 (i := 12) rfl) (by decide) rfl, ?_⟩
  refine List.forall_mem_cons.mpr ⟨ok_istore C (show decode cX11_day 251 = .ok (.istore 4, 2) from dk_at dq37_9 (i := 13) rfl) (by decide) rfl, ?_⟩
  refine List.forall_mem_cons.mpr ⟨ok_iload C (show decode cX11_day 253 = .ok (.iload 4, 2) from dk_at dq37_9 (i := 14) rfl) rfl, ?_⟩
  refine List.forall_mem_cons.mpr ⟨ok_aload_n C (show decode cX11_day 255 = .ok (.aload_n 0, 1) from dk_at dq37_9 (i := 15) rfl) rfl rfl, ?_⟩
  refine List.forall_mem_cons.mpr ⟨ok_getf C (wi_X11) rfl (by decide) kw_1186 (show decode cX11_day 256 = .ok (.getfield 33, 3) from dk_at dq37_10 (i := 0) rfl) rfl, ?_⟩
  refine List.forall_mem_cons.mpr ⟨ok_iconst C (show decode cX11_day 259 = .ok (.iconst 1, 1) from dk_at dq37_10 (i := 1) rfl) (by decide) rfl, ?_⟩
  refine List.forall_mem_cons.mpr ⟨ok_iaload C (show decode cX11_day 260 = .ok (.iaload, 1) from dk_at dq37_10 (i := 2) rfl) rfl, ?_⟩
  refine List.forall_mem_cons.mpr ⟨ok_icmpge C (show decode cX11_day 261 = .ok (.if_icmp .ge 57, 3) from dk_at dq37_10 (i := 3) rfl) (tg := 318) (by decide) rfl rfl, ?_⟩
  refine List.forall_mem_cons.mpr ⟨ok_aload_n C (show decode cX11_day 264 = .ok (.aload_n 0, 1) from dk_at dq37_10 (i := 4) rfl) rfl rfl, ?_⟩
  refine List.forall_mem_cons.mpr ⟨ok_getf C (wi_X11) rfl (by decide) kw_1186 (show decode cX11_day 265 = .ok (.getfield 33, 3) from dk_at dq37_10 (i := 5) rfl) rfl, ?_⟩
  refine List.forall_mem_cons.mpr ⟨ok_sipush C (show decode cX11_day 268 = .ok (.sipush 189, 3) from dk_at dq37_10 (i := 6) rfl) (by decide) rfl, ?_⟩
  refine List.forall_mem_cons.mpr ⟨ok_bipush C (show decode cX11_day 271 = .ok (.bipush 8, 2) from dk_at dq37_10 (i := 7) rfl) (by decide) rfl, ?_⟩
  refine List.forall_mem_cons.mpr ⟨ok_iload_n C (show decode cX11_day 273 = .ok (.iload_n 3, 1) from dk_at dq37_10 (i := 8) rfl) rfl rfl, ?_⟩
  refine List.forall_mem_cons.mpr ⟨ok_imul C (show decode cX11_day 274 = .ok (.imul, 1) from dk_at dq37_10 (i := 9) rfl) rfl, ?_⟩
  refine List.forall_mem_cons.mpr ⟨ok_iadd C (show decode cX11_day 275 = .ok (.iadd, 1) from dk_at dq37_10 (i := 10) rfl) rfl, ?_⟩
  refine List.forall_mem_cons.mpr ⟨ok_iload C (show decode cX11_day 276 = .ok (.iload 4, 2) from dk_at dq37_10 (i := 11) rfl) rfl, ?_⟩
  refine List.forall_mem_cons.mpr ⟨ok_iadd C (show decode cX11_day 278 = .ok (.iadd, 1) from dk_at dq37_10 (i := 12) rfl) rfl, ?_⟩
  refine List.forall_mem_cons.mpr ⟨ok_aload_n C (show decode cX11_day 279 = .ok (.aload_n 0, 1) from dk_at dq37_10 (i := 13) rfl) rfl rfl, ?_⟩
  refine List.forall_mem_cons.mpr ⟨ok_iload_n C (show decode cX11_day 280 = .ok (.iload_n 3, 1) from dk_at dq37_10 (i := 14) rfl) rfl rfl, ?_⟩
  refine List.forall_mem_cons.mpr ⟨ok_iload C (show decode cX11_day 281 = .ok (.iload 4, 2) from dk_at dq37_10 (i := 15) rfl) rfl, ?_⟩
  refine List.forall_mem_cons.mpr ⟨ok_callV C h_X11_areUnlike ⟨rfl, rfl⟩ rfl kw_1453 kw_1450 kw_1452 kp_74 kw_11 rfl ds_X11_areUnlike ⟨by decide, by decide⟩ (show decode cX11_day 283 = .ok (.invokevirtual 260, 3) from dk_at dq37_11 (i := 0) rfl) rfl, ?_⟩
  refine List.forall_mem_cons.mpr ⟨ok_ifeq C (show decode cX11_day 286 = .ok (.ifCond .eq 24, 3) from dk_at dq37_11 (i := 1) rfl) (tg := 310) (by decide) rfl rfl, ?_⟩
  refine List.forall_mem_cons.mpr ⟨ok_aload_n C (show decode cX11_day 289 = .ok (.aload_n 0, 1) from dk_at dq37_11 (i := 2) rfl) rfl rfl, ?_⟩
  refine List.forall_mem_cons.mpr ⟨ok_getf C (wi_X11) rfl (by decide) kw_1186 (show decode cX11_day 290 = .ok (.getfield 33, 3) from dk_at dq37_11 (i := 3) rfl) rfl, ?_⟩
  refine List.forall_mem_cons.mpr ⟨ok_sipush C (show decode cX11_day 293 = .ok (.sipush 189, 3) from dk_at dq37_11 (i := 4) rfl) (by decide) rfl, ?_⟩
  refine List.forall_mem_cons.mpr ⟨ok_bipush C (show decode cX11_day 296 = .ok (.bipush 8, 2) from dk_at dq37_11 (i := 5) rfl) (by decide) rfl, ?_⟩
  refine List.forall_mem_cons.mpr ⟨ok_iload_n C (show decode cX11_day 298 = .ok (.iload_n 3, 1) from dk_at dq37_11 (i := 6) rfl) rfl rfl, ?_⟩
  refine List.forall_mem_cons.mpr ⟨ok_imul C (show decode cX11_day 299 = .ok (.imul, 1) from dk_at dq37_11 (i := 7) rfl) rfl, ?_⟩
  refine List.forall_mem_cons.mpr ⟨ok_iadd C (show decode cX11_day 300 = .ok (.iadd, 1) from dk_at dq37_11 (i := 8) rfl) rfl, ?_⟩
  refine List.forall_mem_cons.mpr ⟨ok_iload C (show decode cX11_day 301 = .ok (.iload 4, 2) from dk_at dq37_11 (i := 9) rfl) rfl, ?_⟩
  refine List.forall_mem_cons.mpr ⟨ok_iadd C (show decode cX11_day 303 = .ok (.iadd, 1) from dk_at dq37_11 (i := 10) rfl) rfl, ?_⟩
  refine List.forall_mem_cons.mpr ⟨ok_iaload C (show decode cX11_day 304 = .ok (.iaload, 1) from dk_at dq37_11 (i := 11) rfl) rfl, ?_⟩
  refine List.forall_mem_cons.mpr ⟨ok_iconst C (show decode cX11_day 305 = .ok (.iconst 1, 1) from dk_at dq37_11 (i := 12) rfl) (by decide) rfl, ?_⟩
  refine List.forall_mem_cons.mpr ⟨ok_iadd C (show decode cX11_day 306 = .ok (.iadd, 1) from dk_at dq37_11 (i := 13) rfl) rfl, ?_⟩
  refine List.forall_mem_cons.mpr ⟨ok_goto C (show decode cX11_day 307 = .ok (.goto 4, 3) from dk_at dq37_11 (i := 14) rfl) (tg := 311) (by decide) rfl, ?_⟩
  refine List.forall_mem_cons.mpr ⟨ok_iconst C (show decode cX11_day 310 = .ok (.iconst 0, 1) from dk_at dq37_11 (i := 15) rfl) (by decide) rfl, ?_⟩
  refine List.forall_mem_cons.mpr ⟨ok_iastore C (show decode cX11_day 311 = .ok (.iastore, 1) from dk_at dq37_12 (i := 0) rfl) rfl, ?_⟩
  refine List.forall_mem_cons.mpr ⟨ok_iinc C (show decode cX11_day 312 = .ok (.iinc 4 1, 3) from dk_at dq37_12 (i := 1) rfl) (by decide) (by decide) rfl, ?_⟩
  refine List.forall_mem_cons.mpr ⟨ok_goto C (show decode cX11_day 315 = .ok (.goto (-62), 3) from dk_at dq37_12 (i := 2) rfl) (tg := 253) (by decide) rfl, ?_⟩
  refine List.forall_mem_cons.mpr ⟨ok_iinc C (show decode cX11_day 318 = .ok (.iinc 3 1, 3) from dk_at dq37_12 (i := 3) rfl) (by decide) (by decide) rfl, ?_⟩
  refine List.forall_mem_cons.mpr ⟨ok_goto C (show decode cX11_day 321 = .ok (.goto (-81), 3) from dk_at dq37_12 (i := 4) rfl) (tg := 240) (by decide) rfl, ?_⟩
  refine List.forall_mem_cons.mpr ⟨ok_aload_n C (show decode cX11_day 324 = .ok (.aload_n 0, 1) from dk_at dq37_12 (i := 5) rfl) rfl rfl, ?_⟩
  refine List.forall_mem_cons.mpr ⟨ok_getf C (wi_X11) rfl (by decide) kw_1186 (show decode cX11_day 325 = .ok (.getfield 33, 3) from dk_at dq37_12 (i := 6) rfl) rfl, ?_⟩
  refine List.forall_mem_cons.mpr ⟨ok_bipush C (show decode cX11_day 328 = .ok (.bipush 120, 2) from dk_at dq37_12 (i := 7) rfl) (by decide) rfl, ?_⟩
  refine List.forall_mem_cons.mpr ⟨ok_dup2 C (show decode cX11_day 330 = .ok (.dup2, 1) from dk_at dq37_12 (i := 8) rfl) rfl, ?_⟩
  refine List.forall_mem_cons.mpr ⟨ok_iaload C (show decode cX11_day 331 = .ok (.iaload, 1) from dk_at dq37_12 (i := 9) rfl) rfl, ?_⟩
  refine List.forall_mem_cons.mpr ⟨ok_iconst C (show decode cX11_day 332 = .ok (.iconst 1, 1) from dk_at dq37_12 (i := 10) rfl) (by decide) rfl, ?_⟩
  refine List.forall_mem_cons.mpr ⟨ok_iadd C (show decode cX11_day 333 = .ok (.iadd, 1) from dk_at dq37_12 (i := 11) rfl) rfl, ?_⟩
  refine List.forall_mem_cons.mpr ⟨ok_iastore C (show decode cX11_day 334 = .ok (.iastore, 1) from dk_at dq37_12 (i := 12) rfl) rfl, ?_⟩
  refine List.forall_mem_cons.mpr ⟨ok_vret C rfl (show decode cX11_day 335 = .ok (.return_, 1) from dk_at dq37_12 (i := 13) rfl), ?_⟩
  exact fun _ h => absurd h List.not_mem_nil
def L_X11_goesOn (f_X11_day : List Value → ab_H → Option ab_O) : List (Nat × ab_A) := [
  (0, ab_nx 1 (ab_lit (.int 0))),
  (1, ab_nx 2 (ab_istore 2)),
  (2, ab_nx 3 (ab_iload 2)),
  (3, ab_nx 4 (ab_iload 1)),
  (4, ab_icmp 7 30 (fun x y => decide (y ≤ x))),
  (7, ab_nx 8 (ab_aload 0)),
  (8, ab_nx 11 (ab_getf 11 6)),
  (11, ab_nx 13 (ab_lit (.int 120))),
  (13, ab_nx 14 (ab_ald 1)),
  (14, ab_nx 17 (ab_lit (.int 400))),
  (17, ab_icmp 20 30 (fun x y => decide (y ≤ x))),
  (20, ab_nx 21 (ab_aload 0)),
  (21, ab_nx 24 (ab_callV 1 11 f_X11_day 0 0 0 0)),
  (24, ab_nx 27 (ab_iinc 2 1)),
  (27, ab_goto 2),
  (30, ab_nx 31 (ab_iload 2)),
  (31, ab_ret 0 0)]
set_option maxRecDepth 100000 in
theorem dq37_13 : ([(0, .iconst 0, 1), (1, .istore_n 2, 1), (2, .iload_n 2, 1), (3, .iload_n 1, 1), (4, .if_icmp .ge 26, 3), (7, .aload_n 0, 1), (8, .getfield 33, 3), (11, .bipush 120, 2), (13, .iaload, 1), (14, .sipush 400, 3), (17, .if_icmp .ge 13, 3), (20, .aload_n 0, 1), (21, .invokevirtual 298, 3), (24, .iinc 2 1, 3), (27, .goto (-25), 3), (30, .iload_n 2, 1)] : List (Nat × Instr × Nat)).all (fun q => decide (decode cX11_goesOn q.1 = .ok q.2)) = true := by decide +kernel
set_option maxRecDepth 100000 in
theorem dq37_14 : ([(31, .ireturn, 1)] : List (Nat × Instr × Nat)).all (fun q => decide (decode cX11_goesOn q.1 = .ok q.2)) = true := by decide +kernel
set_option maxRecDepth 100000 in
set_option maxHeartbeats 4000000 in
theorem M_X11_goesOn {l : Launch} {b : ab_B} {D : va_G} {cA : Nat → ClassId} {f_X11_day : List Value → ab_H → Option ab_O} (h_X11_day : ab_M l b D ab_cl cA (ab_E0 b) yX11_day (Cond.code yX11_day cX11_day 5 none :: ab_G) ({ frames := 7, cells := 0, slots := 0, locals := 700 } : Room) f_X11_day) : ab_M l b D ab_cl cA (ab_E0 b) yX11_goesOn (Cond.code yX11_goesOn cX11_goesOn 3 (some .int) :: ab_G) ({ frames := 8, cells := 0, slots := 0, locals := 800 } : Room) (ab_X (ab_T (L_X11_goesOn f_X11_day)) 3) := by
  refine ab_meth (ret := (some .int)) (L_X11_goesOn f_X11_day) (by decide) rfl fun p e R s m args below meth c o C => ?_
  unfold L_X11_goesOn
  refine List.forall_mem_cons.mpr ⟨ok_iconst C (show decode cX11_goesOn 0 = .ok (.iconst 0, 1) from dk_at dq37_13 (i := 0) rfl) (by decide) rfl, ?_⟩
  refine List.forall_mem_cons.mpr ⟨ok_istore_n C (show decode cX11_goesOn 1 = .ok (.istore_n 2, 1) from dk_at dq37_13 (i := 1) rfl) rfl (by decide) rfl, ?_⟩
  refine List.forall_mem_cons.mpr ⟨ok_iload_n C (show decode cX11_goesOn 2 = .ok (.iload_n 2, 1) from dk_at dq37_13 (i := 2) rfl) rfl rfl, ?_⟩
  refine List.forall_mem_cons.mpr ⟨ok_iload_n C (show decode cX11_goesOn 3 = .ok (.iload_n 1, 1) from dk_at dq37_13 (i := 3) rfl) rfl rfl, ?_⟩
  refine List.forall_mem_cons.mpr ⟨ok_icmpge C (show decode cX11_goesOn 4 = .ok (.if_icmp .ge 26, 3) from dk_at dq37_13 (i := 4) rfl) (tg := 30) (by decide) rfl rfl, ?_⟩
  refine List.forall_mem_cons.mpr ⟨ok_aload_n C (show decode cX11_goesOn 7 = .ok (.aload_n 0, 1) from dk_at dq37_13 (i := 5) rfl) rfl rfl, ?_⟩
  refine List.forall_mem_cons.mpr ⟨ok_getf C (wi_X11) rfl (by decide) kw_1186 (show decode cX11_goesOn 8 = .ok (.getfield 33, 3) from dk_at dq37_13 (i := 6) rfl) rfl, ?_⟩
  refine List.forall_mem_cons.mpr ⟨ok_bipush C (show decode cX11_goesOn 11 = .ok (.bipush 120, 2) from dk_at dq37_13 (i := 7) rfl) (by decide) rfl, ?_⟩
  refine List.forall_mem_cons.mpr ⟨ok_iaload C (show decode cX11_goesOn 13 = .ok (.iaload, 1) from dk_at dq37_13 (i := 8) rfl) rfl, ?_⟩
  refine List.forall_mem_cons.mpr ⟨ok_sipush C (show decode cX11_goesOn 14 = .ok (.sipush 400, 3) from dk_at dq37_13 (i := 9) rfl) (by decide) rfl, ?_⟩
  refine List.forall_mem_cons.mpr ⟨ok_icmpge C (show decode cX11_goesOn 17 = .ok (.if_icmp .ge 13, 3) from dk_at dq37_13 (i := 10) rfl) (tg := 30) (by decide) rfl rfl, ?_⟩
  refine List.forall_mem_cons.mpr ⟨ok_aload_n C (show decode cX11_goesOn 20 = .ok (.aload_n 0, 1) from dk_at dq37_13 (i := 11) rfl) rfl rfl, ?_⟩
  refine List.forall_mem_cons.mpr ⟨ok_callV C h_X11_day ⟨rfl, rfl⟩ rfl kw_1513 kw_1510 kw_1512 kp_82 kw_11 rfl ds_X11_day ⟨by decide, by decide⟩ (show decode cX11_goesOn 21 = .ok (.invokevirtual 298, 3) from dk_at dq37_13 (i := 12) rfl) rfl, ?_⟩
  refine List.forall_mem_cons.mpr ⟨ok_iinc C (show decode cX11_goesOn 24 = .ok (.iinc 2 1, 3) from dk_at dq37_13 (i := 13) rfl) (by decide) (by decide) rfl, ?_⟩
  refine List.forall_mem_cons.mpr ⟨ok_goto C (show decode cX11_goesOn 27 = .ok (.goto (-25), 3) from dk_at dq37_13 (i := 14) rfl) (tg := 2) (by decide) rfl, ?_⟩
  refine List.forall_mem_cons.mpr ⟨ok_iload_n C (show decode cX11_goesOn 30 = .ok (.iload_n 2, 1) from dk_at dq37_13 (i := 15) rfl) rfl rfl, ?_⟩
  refine List.forall_mem_cons.mpr ⟨ok_ret C rfl (show decode cX11_goesOn 31 = .ok (.ireturn, 1) from dk_at dq37_14 (i := 0) rfl), ?_⟩
  exact fun _ h => absurd h List.not_mem_nil
def L_X11_whyHoard : List (Nat × ab_A) := [
  (0, ab_nx 1 (ab_aload 0)),
  (1, ab_nx 4 (ab_getf 11 6)),
  (4, ab_nx 6 (ab_lit (.int 124))),
  (6, ab_nx 7 (ab_iload 1)),
  (7, ab_nx 8 (ab_bin (fun x y => x + y))),
  (8, ab_nx 9 (ab_ald 1)),
  (9, ab_nx 10 (ab_iload 2)),
  (10, ab_icmp 13 17 (fun x y => decide (y ≤ x))),
  (13, ab_nx 14 (ab_lit (.int 1))),
  (14, ab_goto 18),
  (17, ab_nx 18 (ab_lit (.int 0))),
  (18, ab_ret 0 0)]
set_option maxRecDepth 100000 in
theorem dq37_15 : ([(0, .aload_n 0, 1), (1, .getfield 33, 3), (4, .bipush 124, 2), (6, .iload_n 1, 1), (7, .iadd, 1), (8, .iaload, 1), (9, .iload_n 2, 1), (10, .if_icmp .ge 7, 3), (13, .iconst 1, 1), (14, .goto 4, 3), (17, .iconst 0, 1), (18, .ireturn, 1)] : List (Nat × Instr × Nat)).all (fun q => decide (decode cX11_whyHoard q.1 = .ok q.2)) = true := by decide +kernel
set_option maxRecDepth 100000 in
set_option maxHeartbeats 4000000 in
theorem M_X11_whyHoard {l : Launch} {b : ab_B} {D : va_G} {cA : Nat → ClassId} : ab_M l b D ab_cl cA (ab_E0 b) yX11_whyHoard (Cond.code yX11_whyHoard cX11_whyHoard 3 (some .int) :: ab_G) ({ frames := 1, cells := 0, slots := 0, locals := 100 } : Room) (ab_X (ab_T L_X11_whyHoard) 3) := by
  refine ab_meth (ret := (some .int)) L_X11_whyHoard (by decide) rfl fun p e R s m args below meth c o C => ?_
  unfold L_X11_whyHoard
  refine List.forall_mem_cons.mpr ⟨ok_aload_n C (show decode cX11_whyHoard 0 = .ok (.aload_n 0, 1) from dk_at dq37_15 (i := 0) rfl) rfl rfl, ?_⟩
  refine List.forall_mem_cons.mpr ⟨ok_getf C (wi_X11) rfl (by decide) kw_1186 (show decode cX11_whyHoard 1 = .ok (.getfield 33, 3) from dk_at dq37_15 (i := 1) rfl) rfl, ?_⟩
  refine List.forall_mem_cons.mpr ⟨ok_bipush C (show decode cX11_whyHoard 4 = .ok (.bipush 124, 2) from dk_at dq37_15 (i := 2) rfl) (by decide) rfl, ?_⟩
  refine List.forall_mem_cons.mpr ⟨ok_iload_n C (show decode cX11_whyHoard 6 = .ok (.iload_n 1, 1) from dk_at dq37_15 (i := 3) rfl) rfl rfl, ?_⟩
  refine List.forall_mem_cons.mpr ⟨ok_iadd C (show decode cX11_whyHoard 7 = .ok (.iadd, 1) from dk_at dq37_15 (i := 4) rfl) rfl, ?_⟩
  refine List.forall_mem_cons.mpr ⟨ok_iaload C (show decode cX11_whyHoard 8 = .ok (.iaload, 1) from dk_at dq37_15 (i := 5) rfl) rfl, ?_⟩
  refine List.forall_mem_cons.mpr ⟨ok_iload_n C (show decode cX11_whyHoard 9 = .ok (.iload_n 2, 1) from dk_at dq37_15 (i := 6) rfl) rfl rfl, ?_⟩
  refine List.forall_mem_cons.mpr ⟨ok_icmpge C (show decode cX11_whyHoard 10 = .ok (.if_icmp .ge 7, 3) from dk_at dq37_15 (i := 7) rfl) (tg := 17) (by decide) rfl rfl, ?_⟩
  refine List.forall_mem_cons.mpr ⟨ok_iconst C (show decode cX11_whyHoard 13 = .ok (.iconst 1, 1) from dk_at dq37_15 (i := 8) rfl) (by decide) rfl, ?_⟩
  refine List.forall_mem_cons.mpr ⟨ok_goto C (show decode cX11_whyHoard 14 = .ok (.goto 4, 3) from dk_at dq37_15 (i := 9) rfl) (tg := 18) (by decide) rfl, ?_⟩
  refine List.forall_mem_cons.mpr ⟨ok_iconst C (show decode cX11_whyHoard 17 = .ok (.iconst 0, 1) from dk_at dq37_15 (i := 10) rfl) (by decide) rfl, ?_⟩
  refine List.forall_mem_cons.mpr ⟨ok_ret C rfl (show decode cX11_whyHoard 18 = .ok (.ireturn, 1) from dk_at dq37_15 (i := 11) rfl), ?_⟩
  exact fun _ h => absurd h List.not_mem_nil
def L_X11_whyBare : List (Nat × ab_A) := [
  (0, ab_nx 1 (ab_aload 0)),
  (1, ab_nx 4 (ab_getf 11 6)),
  (4, ab_nx 7 (ab_lit (.int 136))),
  (7, ab_nx 8 (ab_iload 1)),
  (8, ab_nx 9 (ab_bin (fun x y => x + y))),
  (9, ab_nx 10 (ab_ald 1)),
  (10, ab_nx 11 (ab_iload 2)),
  (11, ab_icmp 14 18 (fun x y => decide (y ≤ x))),
  (14, ab_nx 15 (ab_lit (.int 1))),
  (15, ab_goto 40),
  (18, ab_nx 19 (ab_aload 0)),
  (19, ab_nx 22 (ab_getf 11 6)),
  (22, ab_nx 24 (ab_lit (.int 124))),
  (24, ab_nx 25 (ab_iload 1)),
  (25, ab_nx 26 (ab_bin (fun x y => x + y))),
  (26, ab_nx 27 (ab_ald 1)),
  (27, ab_nx 28 (ab_iload 2)),
  (28, ab_nx 29 (ab_bin (fun x y => x + y))),
  (29, ab_nx 32 (ab_lit (.int 999))),
  (32, ab_icmp 35 39 (fun x y => decide (x ≤ y))),
  (35, ab_nx 36 (ab_lit (.int 2))),
  (36, ab_goto 40),
  (39, ab_nx 40 (ab_lit (.int 0))),
  (40, ab_ret 0 0)]
set_option maxRecDepth 100000 in
theorem dq37_16 : ([(0, .aload_n 0, 1), (1, .getfield 33, 3), (4, .sipush 136, 3), (7, .iload_n 1, 1), (8, .iadd, 1), (9, .iaload, 1), (10, .iload_n 2, 1), (11, .if_icmp .ge 7, 3), (14, .iconst 1, 1), (15, .goto 25, 3), (18, .aload_n 0, 1), (19, .getfield 33, 3), (22, .bipush 124, 2), (24, .iload_n 1, 1), (25, .iadd, 1), (26, .iaload, 1)] : List (Nat × Instr × Nat)).all (fun q => decide (decode cX11_whyBare q.1 = .ok q.2)) = true := by decide +kernel
set_option maxRecDepth 100000 in
theorem dq37_17 : ([(27, .iload_n 2, 1), (28, .iadd, 1), (29, .sipush 999, 3), (32, .if_icmp .le 7, 3), (35, .iconst 2, 1), (36, .goto 4, 3), (39, .iconst 0, 1), (40, .ireturn, 1)] : List (Nat × Instr × Nat)).all (fun q => decide (decode cX11_whyBare q.1 = .ok q.2)) = true := by decide +kernel
set_option maxRecDepth 100000 in
set_option maxHeartbeats 4000000 in
theorem M_X11_whyBare {l : Launch} {b : ab_B} {D : va_G} {cA : Nat → ClassId} : ab_M l b D ab_cl cA (ab_E0 b) yX11_whyBare (Cond.code yX11_whyBare cX11_whyBare 3 (some .int) :: ab_G) ({ frames := 1, cells := 0, slots := 0, locals := 100 } : Room) (ab_X (ab_T L_X11_whyBare) 3) := by
  refine ab_meth (ret := (some .int)) L_X11_whyBare (by decide) rfl fun p e R s m args below meth c o C => ?_
  unfold L_X11_whyBare
  refine List.forall_mem_cons.mpr ⟨ok_aload_n C (show decode cX11_whyBare 0 = .ok (.aload_n 0, 1) from dk_at dq37_16 (i := 0) rfl) rfl rfl, ?_⟩
  refine List.forall_mem_cons.mpr ⟨ok_getf C (wi_X11) rfl (by decide) kw_1186 (show decode cX11_whyBare 1 = .ok (.getfield 33, 3) from dk_at dq37_16 (i := 1) rfl) rfl, ?_⟩
  refine List.forall_mem_cons.mpr ⟨ok_sipush C (show decode cX11_whyBare 4 = .ok (.sipush 136, 3) from dk_at dq37_16 (i := 2) rfl) (by decide) rfl, ?_⟩
  refine List.forall_mem_cons.mpr ⟨ok_iload_n C (show decode cX11_whyBare 7 = .ok (.iload_n 1, 1) from dk_at dq37_16 (i := 3) rfl) rfl rfl, ?_⟩
  refine List.forall_mem_cons.mpr ⟨ok_iadd C (show decode cX11_whyBare 8 = .ok (.iadd, 1) from dk_at dq37_16 (i := 4) rfl) rfl, ?_⟩
  refine List.forall_mem_cons.mpr ⟨ok_iaload C (show decode cX11_whyBare 9 = .ok (.iaload, 1) from dk_at dq37_16 (i := 5) rfl) rfl, ?_⟩
  refine List.forall_mem_cons.mpr ⟨ok_iload_n C (show decode cX11_whyBare 10 = .ok (.iload_n 2, 1) from dk_at dq37_16 (i := 6) rfl) rfl rfl, ?_⟩
  refine List.forall_mem_cons.mpr ⟨ok_icmpge C (show decode cX11_whyBare 11 = .ok (.if_icmp .ge 7, 3) from dk_at dq37_16 (i := 7) rfl) (tg := 18) (by decide) rfl rfl, ?_⟩
  refine List.forall_mem_cons.mpr ⟨ok_iconst C (show decode cX11_whyBare 14 = .ok (.iconst 1, 1) from dk_at dq37_16 (i := 8) rfl) (by decide) rfl, ?_⟩
  refine List.forall_mem_cons.mpr ⟨ok_goto C (show decode cX11_whyBare 15 = .ok (.goto 25, 3) from dk_at dq37_16 (i := 9) rfl) (tg := 40) (by decide) rfl, ?_⟩
  refine List.forall_mem_cons.mpr ⟨ok_aload_n C (show decode cX11_whyBare 18 = .ok (.aload_n 0, 1) from dk_at dq37_16 (i := 10) rfl) rfl rfl, ?_⟩
  refine List.forall_mem_cons.mpr ⟨ok_getf C (wi_X11) rfl (by decide) kw_1186 (show decode cX11_whyBare 19 = .ok (.getfield 33, 3) from dk_at dq37_16 (i := 11) rfl) rfl, ?_⟩
  refine List.forall_mem_cons.mpr ⟨ok_bipush C (show decode cX11_whyBare 22 = .ok (.bipush 124, 2) from dk_at dq37_16 (i := 12) rfl) (by decide) rfl, ?_⟩
  refine List.forall_mem_cons.mpr ⟨ok_iload_n C (show decode cX11_whyBare 24 = .ok (.iload_n 1, 1) from dk_at dq37_16 (i := 13) rfl) rfl rfl, ?_⟩
  refine List.forall_mem_cons.mpr ⟨ok_iadd C (show decode cX11_whyBare 25 = .ok (.iadd, 1) from dk_at dq37_16 (i := 14) rfl) rfl, ?_⟩
  refine List.forall_mem_cons.mpr ⟨ok_iaload C (show decode cX11_whyBare 26 = .ok (.iaload, 1) from dk_at dq37_16 (i := 15) rfl) rfl, ?_⟩
  refine List.forall_mem_cons.mpr ⟨ok_iload_n C (show decode cX11_whyBare 27 = .ok (.iload_n 2, 1) from dk_at dq37_17 (i := 0) rfl) rfl rfl, ?_⟩
  refine List.forall_mem_cons.mpr ⟨ok_iadd C (show decode cX11_whyBare 28 = .ok (.iadd, 1) from dk_at dq37_17 (i := 1) rfl) rfl, ?_⟩
  refine List.forall_mem_cons.mpr ⟨ok_sipush C (show decode cX11_whyBare 29 = .ok (.sipush 999, 3) from dk_at dq37_17 (i := 2) rfl) (by decide) rfl, ?_⟩
  refine List.forall_mem_cons.mpr ⟨ok_icmple C (show decode cX11_whyBare 32 = .ok (.if_icmp .le 7, 3) from dk_at dq37_17 (i := 3) rfl) (tg := 39) (by decide) rfl rfl, ?_⟩
  refine List.forall_mem_cons.mpr ⟨ok_iconst C (show decode cX11_whyBare 35 = .ok (.iconst 2, 1) from dk_at dq37_17 (i := 4) rfl) (by decide) rfl, ?_⟩
  refine List.forall_mem_cons.mpr ⟨ok_goto C (show decode cX11_whyBare 36 = .ok (.goto 4, 3) from dk_at dq37_17 (i := 5) rfl) (tg := 40) (by decide) rfl, ?_⟩
  refine List.forall_mem_cons.mpr ⟨ok_iconst C (show decode cX11_whyBare 39 = .ok (.iconst 0, 1) from dk_at dq37_17 (i := 6) rfl) (by decide) rfl, ?_⟩
  refine List.forall_mem_cons.mpr ⟨ok_ret C rfl (show decode cX11_whyBare 40 = .ok (.ireturn, 1) from dk_at dq37_17 (i := 7) rfl), ?_⟩
  exact fun _ h => absurd h List.not_mem_nil
def L_X11_hoards : List (Nat × ab_A) := [
  (0, ab_nx 1 (ab_aload 0)),
  (1, ab_nx 4 (ab_getf 11 6)),
  (4, ab_nx 6 (ab_lit (.int 124))),
  (6, ab_nx 7 (ab_iload 1)),
  (7, ab_nx 8 (ab_bin (fun x y => x + y))),
  (8, ab_nx 9 ab_dup2),
  (9, ab_nx 10 (ab_ald 1)),
  (10, ab_nx 11 (ab_iload 2)),
  (11, ab_nx 12 (ab_bin (fun x y => x - y))),
  (12, ab_nx 13 (ab_ast 1)),
  (13, ab_nx 14 (ab_aload 0)),
  (14, ab_nx 17 (ab_getf 11 6)),
  (17, ab_nx 20 (ab_lit (.int 136))),
  (20, ab_nx 21 (ab_iload 1)),
  (21, ab_nx 22 (ab_bin (fun x y => x + y))),
  (22, ab_nx 23 ab_dup2),
  (23, ab_nx 24 (ab_ald 1)),
  (24, ab_nx 25 (ab_iload 2)),
  (25, ab_nx 26 (ab_bin (fun x y => x + y))),
  (26, ab_nx 27 (ab_ast 1)),
  (27, ab_vret 0 0)]
set_option maxRecDepth 100000 in
theorem dq37_18 : ([(0, .aload_n 0, 1), (1, .getfield 33, 3), (4, .bipush 124, 2), (6, .iload_n 1, 1), (7, .iadd, 1), (8, .dup2, 1), (9, .iaload, 1), (10, .iload_n 2, 1), (11, .isub, 1), (12, .iastore, 1), (13, .aload_n 0, 1), (14, .getfield 33, 3), (17, .sipush 136, 3), (20, .iload_n 1, 1), (21, .iadd, 1), (22, .dup2, 1)] : List (Nat × Instr × Nat)).all (fun q => decide (decode cX11_hoards q.1 = .ok q.2)) = true := by decide +kernel
set_option maxRecDepth 100000 in
theorem dq37_19 : ([(23, .iaload, 1), (24, .iload_n 2, 1), (25, .iadd, 1), (26, .iastore, 1), (27, .return_, 1)] : List (Nat × Instr × Nat)).all (fun q => decide (decode cX11_hoards q.1 = .ok q.2)) = true := by decide +kernel
set_option maxRecDepth 100000 in
set_option maxHeartbeats 4000000 in
theorem M_X11_hoards {l : Launch} {b : ab_B} {D : va_G} {cA : Nat → ClassId} : ab_M l b D ab_cl cA (ab_E0 b) yX11_hoards (Cond.code yX11_hoards cX11_hoards 3 none :: ab_G) ({ frames := 1, cells := 0, slots := 0, locals := 100 } : Room) (ab_X (ab_T L_X11_hoards) 3) := by
  refine ab_meth (ret := none) L_X11_hoards (by decide) rfl fun p e R s m args below meth c o C => ?_
  unfold L_X11_hoards
  refine List.forall_mem_cons.mpr ⟨ok_aload_n C (show decode cX11_hoards 0 = .ok (.aload_n 0, 1) from dk_at dq37_18 (i := 0) rfl) rfl rfl, ?_⟩
  refine List.forall_mem_cons.mpr ⟨ok_getf C (wi_X11) rfl (by decide) kw_1186 (show decode cX11_hoards 1 = .ok (.getfield 33, 3) from dk_at dq37_18 (i := 1) rfl) rfl, ?_⟩
  refine List.forall_mem_cons.mpr ⟨ok_bipush C (show decode cX11_hoards 4 = .ok (.bipush 124, 2) from dk_at dq37_18 (i := 2) rfl) (by decide) rfl, ?_⟩
  refine List.forall_mem_cons.mpr ⟨ok_iload_n C (show decode cX11_hoards 6 = .ok (.iload_n 1, 1) from dk_at dq37_18 (i := 3) rfl) rfl rfl, ?_⟩
  refine List.forall_mem_cons.mpr ⟨ok_iadd C (show decode cX11_hoards 7 = .ok (.iadd, 1) from dk_at dq37_18 (i := 4) rfl) rfl, ?_⟩
  refine List.forall_mem_cons.mpr ⟨ok_dup2 C (show decode cX11_hoards 8 = .ok (.dup2, 1) from dk_at dq37_18 (i := 5) rfl) rfl, ?_⟩
  refine List.forall_mem_cons.mpr ⟨ok_iaload C (show decode cX11_hoards 9 = .ok (.iaload, 1) from dk_at dq37_18 (i := 6) rfl) rfl, ?_⟩
  refine List.forall_mem_cons.mpr ⟨ok_iload_n C (show decode cX11_hoards 10 = .ok (.iload_n 2, 1) from dk_at dq37_18 (i := 7) rfl) rfl rfl, ?_⟩
  refine List.forall_mem_cons.mpr ⟨ok_isub C (show decode cX11_hoards 11 = .ok (.isub, 1) from dk_at dq37_18 (i := 8) rfl) rfl, ?_⟩
  refine List.forall_mem_cons.mpr ⟨ok_iastore C (show decode cX11_hoards 12 = .ok (.iastore, 1) from dk_at dq37_18 (i := 9) rfl) rfl, ?_⟩
  refine List.forall_mem_cons.mpr ⟨ok_aload_n C (show decode cX11_hoards 13 = .ok (.aload_n 0, 1) from dk_at dq37_18 (i := 10) rfl) rfl rfl, ?_⟩
  refine List.forall_mem_cons.mpr ⟨ok_getf C (wi_X11) rfl (by decide) kw_1186 (show decode cX11_hoards 14 = .ok (.getfield 33, 3) from dk_at dq37_18 (i := 11) rfl) rfl, ?_⟩
  refine List.forall_mem_cons.mpr ⟨ok_sipush C (show decode cX11_hoards 17 = .ok (.sipush 136, 3) from dk_at dq37_18 (i := 12) rfl) (by decide) rfl, ?_⟩
  refine List.forall_mem_cons.mpr ⟨ok_iload_n C (show decode cX11_hoards 20 = .ok (.iload_n 1, 1) from dk_at dq37_18 (i := 13) rfl) rfl rfl, ?_⟩
  refine List.forall_mem_cons.mpr ⟨ok_iadd C (show decode cX11_hoards 21 = .ok (.iadd, 1) from dk_at dq37_18 (i := 14) rfl) rfl, ?_⟩
  refine List.forall_mem_cons.mpr ⟨ok_dup2 C (show decode cX11_hoards 22 = .ok (.dup2, 1) from dk_at dq37_18 (i := 15) rfl) rfl, ?_⟩
  refine List.forall_mem_cons.mpr ⟨ok_iaload C (show decode cX11_hoards 23 = .ok (.iaload, 1) from dk_at dq37_19 (i := 0) rfl) rfl, ?_⟩
  refine List.forall_mem_cons.mpr ⟨ok_iload_n C (show decode cX11_hoards 24 = .ok (.iload_n 2, 1) from dk_at dq37_19 (i := 1) rfl) rfl rfl, ?_⟩
  refine List.forall_mem_cons.mpr ⟨ok_iadd C (show decode cX11_hoards 25 = .ok (.iadd, 1) from dk_at dq37_19 (i := 2) rfl) rfl, ?_⟩
  refine List.forall_mem_cons.mpr ⟨ok_iastore C (show decode cX11_hoards 26 = .ok (.iastore, 1) from dk_at dq37_19 (i := 3) rfl) rfl, ?_⟩
  refine List.forall_mem_cons.mpr ⟨ok_vret C rfl (show decode cX11_hoards 27 = .ok (.return_, 1) from dk_at dq37_19 (i := 4) rfl), ?_⟩
  exact fun _ h => absurd h List.not_mem_nil
def L_X11_keep : List (Nat × ab_A) := [
  (0, ab_nx 1 (ab_aload 0)),
  (1, ab_nx 4 (ab_getf 11 25)),
  (4, ab_nx 6 (ab_lit (.int 8))),
  (6, ab_icmp 9 46 (fun x y => !decide (x = y))),
  (9, ab_nx 10 (ab_lit (.int 0))),
  (10, ab_nx 11 (ab_istore 1)),
  (11, ab_nx 12 (ab_iload 1)),
  (12, ab_nx 15 (ab_lit (.int 931))),
  (15, ab_icmp 18 40 (fun x y => decide (y ≤ x))),
  (18, ab_nx 19 (ab_aload 0)),
  (19, ab_nx 22 (ab_getf 11 23)),
  (22, ab_nx 23 (ab_iload 1)),
  (23, ab_nx 24 (ab_aload 0)),
  (24, ab_nx 27 (ab_getf 11 23)),
  (27, ab_nx 28 (ab_iload 1)),
  (28, ab_nx 31 (ab_lit (.int 133))),
  (31, ab_nx 32 (ab_bin (fun x y => x + y))),
  (32, ab_nx 33 (ab_ald 1)),
  (33, ab_nx 34 (ab_ast 1)),
  (34, ab_nx 37 (ab_iinc 1 1)),
  (37, ab_goto 11),
  (40, ab_nx 41 (ab_aload 0)),
  (41, ab_nx 43 (ab_lit (.int 7))),
  (43, ab_nx 46 (ab_putf 11 25 0)),
  (46, ab_nx 47 (ab_lit (.int 0))),
  (47, ab_nx 48 (ab_istore 1)),
  (48, ab_nx 49 (ab_iload 1)),
  (49, ab_nx 52 (ab_lit (.int 133))),
  (52, ab_icmp 55 85 (fun x y => decide (y ≤ x))),
  (55, ab_nx 56 (ab_aload 0)),
  (56, ab_nx 59 (ab_getf 11 23)),
  (59, ab_nx 62 (ab_lit (.int 133))),
  (62, ab_nx 63 (ab_aload 0)),
  (63, ab_nx 66 (ab_getf 11 25)),
  (66, ab_nx 67 (ab_bin (fun x y => x * y))),
  (67, ab_nx 68 (ab_iload 1)),
  (68, ab_nx 69 (ab_bin (fun x y => x + y))),
  (69, ab_nx 70 (ab_aload 0)),
  (70, ab_nx 73 (ab_getf 11 6)),
  (73, ab_nx 75 (ab_lit (.int 120))),
  (75, ab_nx 76 (ab_iload 1)),
  (76, ab_nx 77 (ab_bin (fun x y => x + y))),
  (77, ab_nx 78 (ab_ald 1)),
  (78, ab_nx 79 (ab_ast 1)),
  (79, ab_nx 82 (ab_iinc 1 1)),
  (82, ab_goto 48),
  (85, ab_nx 86 (ab_aload 0)),
  (86, ab_nx 87 ab_dup),
  (87, ab_nx 90 (ab_getf 11 25)),
  (90, ab_nx 91 (ab_lit (.int 1))),
  (91, ab_nx 92 (ab_bin (fun x y => x + y))),
  (92, ab_nx 95 (ab_putf 11 25 0)),
  (95, ab_vret 0 0)]
set_option maxRecDepth 100000 in
theorem dq37_20 : ([(0, .aload_n 0, 1), (1, .getfield 236, 3), (4, .bipush 8, 2), (6, .if_icmp .ne 40, 3), (9, .iconst 0, 1), (10, .istore_n 1, 1), (11, .iload_n 1, 1), (12, .sipush 931, 3), (15, .if_icmp .ge 25, 3), (18, .aload_n 0, 1), (19, .getfield 53, 3), (22, .iload_n 1, 1), (23, .aload_n 0, 1), (24, .getfield 53, 3), (27, .iload_n 1, 1), (28, .sipush 133, 3)] : List (Nat × Instr × Nat)).all (fun q => decide (decode cX11_keep q.1 = .ok q.2)) = true := by decide +kernel
set_option maxRecDepth 100000 in
theorem dq37_21 : ([(31, .iadd, 1), (32, .iaload, 1), (33, .iastore, 1), (34, .iinc 1 1, 3), (37, .goto (-26), 3), (40, .aload_n 0, 1), (41, .bipush 7, 2), (43, .putfield 236, 3), (46, .iconst 0, 1), (47, .istore_n 1, 1), (48, .iload_n 1, 1), (49, .sipush 133, 3), (52, .if_icmp .ge 33, 3), (55, .aload_n 0, 1), (56, .getfield 53, 3), (59, .sipush 133, 3)] : List (Nat × Instr × Nat)).all (fun q => decide (decode cX11_keep q.1 = .ok q.2)) = true := by decide +kernel
set_option maxRecDepth 100000 in
theorem dq37_22 : ([(62, .aload_n 0, 1), (63, .getfield 236, 3), (66, .imul, 1), (67, .iload_n 1, 1), (68, .iadd, 1), (69, .aload_n 0, 1), (70, .getfield 33, 3), (73, .bipush 120, 2), (75, .iload_n 1, 1), (76, .iadd, 1), (77, .iaload, 1), (78, .iastore, 1), (79, .iinc 1 1, 3), (82, .goto (-34), 3), (85, .aload_n 0, 1), (86, .dup, 1)] : List (Nat × Instr × Nat)).all (fun q => decide (decode cX11_keep q.1 = .ok q.2)) = true := by decide +kernel
set_option maxRecDepth 100000 in
theorem dq37_23 : ([(87, .getfield 236, 3), (90, .iconst 1, 1), (91, .iadd, 1), (92, .putfield 236, 3), (95, .return_, 1)] : List (Nat × Instr × Nat)).all (fun q => decide (decode cX11_keep q.1 = .ok q.2)) = true := by decide +kernel
set_option maxRecDepth 100000 in
set_option maxHeartbeats 4000000 in
theorem M_X11_keep {l : Launch} {b : ab_B} {D : va_G} {cA : Nat → ClassId} : ab_M l b D ab_cl cA (ab_E0 b) yX11_keep (Cond.code yX11_keep cX11_keep 2 none :: ab_G) ({ frames := 1, cells := 0, slots := 0, locals := 100 } : Room) (ab_X (ab_T L_X11_keep) 2) := by
  refine ab_meth (ret := none) L_X11_keep (by decide) rfl fun p e R s m args below meth c o C => ?_
  unfold L_X11_keep
  refine List.forall_mem_cons.mpr ⟨ok_aload_n C (show decode cX11_keep 0 = .ok (.aload_n 0, 1) from dk_at dq37_20 (i := 0) rfl) rfl rfl, ?_⟩
  refine List.forall_mem_cons.mpr ⟨ok_getf C (wi_X11) rfl (by decide) kw_1205 (show decode cX11_keep 1 = .ok (.getfield 236, 3) from dk_at dq37_20 (i := 1) rfl) rfl, ?_⟩
  refine List.forall_mem_cons.mpr ⟨ok_bipush C (show decode cX11_keep 4 = .ok (.bipush 8, 2) from dk_at dq37_20 (i := 2) rfl) (by decide) rfl, ?_⟩
  refine List.forall_mem_cons.mpr ⟨ok_icmpne C (show decode cX11_keep 6 = .ok (.if_icmp .ne 40, 3) from dk_at dq37_20 (i := 3) rfl) (tg := 46) (by decide) rfl rfl, ?_⟩
  refine List.forall_mem_cons.mpr ⟨ok_iconst C (show decode cX11_keep 9 = .ok (.iconst 0, 1) from dk_at dq37_20 (i := 4) rfl) (by decide) rfl, ?_⟩
  refine List.forall_mem_cons.mpr ⟨ok_istore_n C (show decode cX11_keep 10 = .ok (.istore_n 1, 1) from dk_at dq37_20 (i := 5) rfl) rfl (by decide) rfl, ?_⟩
  refine List.forall_mem_cons.mpr ⟨ok_iload_n C (show decode cX11_keep 11 = .ok (.iload_n 1, 1) from dk_at dq37_20 (i := 6) rfl) rfl rfl, ?_⟩
  refine List.forall_mem_cons.mpr ⟨ok_sipush C (show decode cX11_keep 12 = .ok (.sipush 931, 3) from dk_at dq37_20 (i := 7) rfl) (by decide) rfl, ?_⟩
  refine List.forall_mem_cons.mpr ⟨ok_icmpge C (show decode cX11_keep 15 = .ok (.if_icmp .ge 25, 3) from dk_at dq37_20 (i := 8) rfl) (tg := 40) (by decide) rfl rfl, ?_⟩
  refine List.forall_mem_cons.mpr ⟨ok_aload_n C (show decode cX11_keep 18 = .ok (.aload_n 0, 1) from dk_at dq37_20 (i := 9) rfl) rfl rfl, ?_⟩
  refine List.forall_mem_cons.mpr ⟨ok_getf C (wi_X11) rfl (by decide) kw_1203 (show decode cX11_keep 19 = .ok (.getfield 53, 3) from dk_at dq37_20 (i := 10) rfl) rfl, ?_⟩
  refine List.forall_mem_cons.mpr ⟨ok_iload_n C (show decode cX11_keep 22 = .ok (.iload_n 1, 1) from dk_at dq37_20 (i := 11) rfl) rfl rfl, ?_⟩
  refine List.forall_mem_cons.mpr ⟨ok_aload_n C (show decode cX11_keep 23 = .ok (.aload_n 0, 1) from dk_at dq37_20 (i := 12) rfl) rfl rfl, ?_⟩
  refine List.forall_mem_cons.mpr ⟨ok_getf C (wi_X11) rfl (by decide) kw_1203 (show decode cX11_keep 24 = .ok (.getfield 53, 3) from dk_at dq37_20 (i := 13) rfl) rfl, ?_⟩
  refine List.forall_mem_cons.mpr ⟨ok_iload_n C (show decode cX11_keep 27 = .ok (.iload_n 1, 1) from dk_at dq37_20 (i := 14) rfl) rfl rfl, ?_⟩
  refine List.forall_mem_cons.mpr ⟨ok_sipush C (show decode cX11_keep 28 = .ok (.sipush 133, 3) from dk_at dq37_20 (i := 15) rfl) (by decide) rfl, ?_⟩
  refine List.forall_mem_cons.mpr ⟨ok_iadd C (show decode cX11_keep 31 = .ok (.iadd, 1) from dk_at dq37_21 (i := 0) rfl) rfl, ?_⟩
  refine List.forall_mem_cons.mpr ⟨ok_iaload C (show decode cX11_keep 32 = .ok (.iaload, 1) from dk_at dq37_21 (i := 1) rfl) rfl, ?_⟩
  refine List.forall_mem_cons.mpr ⟨ok_iastore C (show decode cX11_keep 33 = .ok (.iastore, 1) from dk_at dq37_21 (i := 2) rfl) rfl, ?_⟩
  refine List.forall_mem_cons.mpr ⟨ok_iinc C (show decode cX11_keep 34 = .ok (.iinc 1 1, 3) from dk_at dq37_21 (i := 3) rfl) (by decide) (by decide) rfl, ?_⟩
  refine List.forall_mem_cons.mpr ⟨ok_goto C (show decode cX11_keep 37 = .ok (.goto (-26), 3) from dk_at dq37_21 (i := 4) rfl) (tg := 11) (by decide) rfl, ?_⟩
  refine List.forall_mem_cons.mpr ⟨ok_aload_n C (show decode cX11_keep 40 = .ok (.aload_n 0, 1) from dk_at dq37_21 (i := 5) rfl) rfl rfl, ?_⟩
  refine List.forall_mem_cons.mpr ⟨ok_bipush C (show decode cX11_keep 41 = .ok (.bipush 7, 2) from dk_at dq37_21 (i := 6) rfl) (by decide) rfl, ?_⟩
  refine List.forall_mem_cons.mpr ⟨ok_putf C (wi_X11) tyX11 tyX11_ok nmX11 rfl (by decide) kw_1205 (Or.inl rfl) (Or.inl ⟨rfl, rfl⟩) (show decode cX11_keep 43 = .ok (.putfield 236, 3) from dk_at dq37_21 (i := 7) rfl) rfl, ?_⟩
  refine List.forall_mem_cons.mpr ⟨ok_iconst C (show decode cX11_keep 46 = .ok (.iconst 0, 1) from dk_at dq37_21 (i := 8) rfl) (by decide) rfl, ?_⟩
  refine List.forall_mem_cons.mpr ⟨ok_istore_n C (show decode cX11_keep 47 = .ok (.istore_n 1, 1) from dk_at dq37_21 (i := 9) rfl) rfl (by decide) rfl, ?_⟩
  refine List.forall_mem_cons.mpr ⟨ok_iload_n C (show decode cX11_keep 48 = .ok (.iload_n 1, 1) from dk_at dq37_21 (i := 10) rfl) rfl rfl, ?_⟩
  refine List.forall_mem_cons.mpr ⟨ok_sipush C (show decode cX11_keep 49 = .ok (.sipush 133, 3) from dk_at dq37_21 (i := 11) rfl) (by decide) rfl, ?_⟩
  refine List.forall_mem_cons.mpr ⟨ok_icmpge C (show decode cX11_keep 52 = .ok (.if_icmp .ge 33, 3) from dk_at dq37_21 (i := 12) rfl) (tg := 85) (by decide) rfl rfl, ?_⟩
  refine List.forall_mem_cons.mpr ⟨ok_aload_n C (show decode cX11_keep 55 = .ok (.aload_n 0, 1) from dk_at dq37_21 (i := 13) rfl) rfl rfl, ?_⟩
  refine List.forall_mem_cons.mpr ⟨ok_getf C (wi_X11) rfl (by decide) kw_1203 (show decode cX11_keep 56 = .ok (.getfield 53, 3) from dk_at dq37_21 (i := 14) rfl) rfl, ?_⟩
  refine List.forall_mem_cons.mpr ⟨ok_sipush C (show decode cX11_keep 59 = .ok (.sipush 133, 3) from dk_at dq37_21 (i := 15) rfl) (by decide) rfl, ?_⟩
  refine List.forall_mem_cons.mpr ⟨ok_aload_n C (show decode cX11_keep 62 = .ok (.aload_n 0, 1) from dk_at dq37_22 (i := 0) rfl) rfl rfl, ?_⟩
  refine List.forall_mem_cons.mpr ⟨ok_getf C (wi_X11) rfl (by decide) kw_1205 (show decode cX11_keep 63 = .ok (.getfield 236, 3) from dk_at dq37_22 (i := 1) rfl) rfl, ?_⟩
  refine List.forall_mem_cons.mpr ⟨ok_imul C (show decode cX11_keep 66 = .ok (.imul, 1) from dk_at dq37_22 (i := 2) rfl) rfl, ?_⟩
  refine List.forall_mem_cons.mpr ⟨ok_iload_n C (show decode cX11_keep 67 = .ok (.iload_n 1, 1) from dk_at dq37_22 (i := 3) rfl) rfl rfl, ?_⟩
  refine List.forall_mem_cons.mpr ⟨ok_iadd C (show decode cX11_keep 68 = .ok (.iadd, 1) from dk_at dq37_22 (i := 4) rfl) rfl, ?_⟩
  refine List.forall_mem_cons.mpr ⟨ok_aload_n C (show decode cX11_keep 69 = .ok (.aload_n 0, 1) from dk_at dq37_22 (i := 5) rfl) rfl rfl, ?_⟩
  refine List.forall_mem_cons.mpr ⟨ok_getf C (wi_X11) rfl (by decide) kw_1186 (show decode cX11_keep 70 = .ok (.getfield 33, 3) from dk_at dq37_22 (i := 6) rfl) rfl, ?_⟩
  refine List.forall_mem_cons.mpr ⟨ok_bipush C (show decode cX11_keep 73 = .ok (.bipush 120, 2) from dk_at dq37_22 (i := 7) rfl) (by decide) rfl, ?_⟩
  refine List.forall_mem_cons.mpr ⟨ok_iload_n C (show decode cX11_keep 75 = .ok (.iload_n 1, 1) from dk_at dq37_22 (i := 8) rfl) rfl rfl, ?_⟩
  refine List.forall_mem_cons.mpr ⟨ok_iadd C (show decode cX11_keep 76 = .ok (.iadd, 1) from dk_at dq37_22 (i := 9) rfl) rfl, ?_⟩
  refine List.forall_mem_cons.mpr ⟨ok_iaload C (show decode cX11_keep 77 = .ok (.iaload, 1) from dk_at dq37_22 (i := 10) rfl) rfl, ?_⟩
  refine List.forall_mem_cons.mpr ⟨ok_iastore C (show decode cX11_keep 78 = .ok (.iastore, 1) from dk_at dq37_22 (i := 11) rfl) rfl, ?_⟩
  refine List.forall_mem_cons.mpr ⟨ok_iinc C (show decode cX11_keep 79 = .ok (.iinc 1 1, 3) from dk_at dq37_22 (i := 12) rfl) (by decide) (by decide) rfl, ?_⟩
  refine List.forall_mem_cons.mpr ⟨ok_goto C (show decode cX11_keep 82 = .ok (.goto (-34), 3) from dk_at dq37_22 (i := 13) rfl) (tg := 48) (by decide) rfl, ?_⟩
  refine List.forall_mem_cons.mpr ⟨ok_aload_n C (show decode cX11_keep 85 = .ok (.aload_n 0, 1) from dk_at dq37_22 (i := 14) rfl) rfl rfl, ?_⟩
  refine List.forall_mem_cons.mpr ⟨ok_dup C (show decode cX11_keep 86 = .ok (.dup, 1) from dk_at dq37_22 (i := 15) rfl) rfl, ?_⟩
  refine List.forall_mem_cons.mpr ⟨ok_getf C (wi_X11) rfl (by decide) kw_1205 (show decode cX11_keep 87 = .ok (.getfield 236, 3) from dk_at dq37_23 (i := 0) rfl) rfl, ?_⟩
  refine List.forall_mem_cons.mpr ⟨ok_iconst C (show decode cX11_keep 90 = .ok (.iconst 1, 1) from dk_at dq37_23 (i := 1) rfl) (by decide) rfl, ?_⟩
  refine List.forall_mem_cons.mpr ⟨ok_iadd C (show decode cX11_keep 91 = .ok (.iadd, 1) from dk_at dq37_23 (i := 2) rfl) rfl, ?_⟩
  refine List.forall_mem_cons.mpr ⟨ok_putf C (wi_X11) tyX11 tyX11_ok nmX11 rfl (by decide) kw_1205 (Or.inl rfl) (Or.inl ⟨rfl, rfl⟩) (show decode cX11_keep 92 = .ok (.putfield 236, 3) from dk_at dq37_23 (i := 3) rfl) rfl, ?_⟩
  refine List.forall_mem_cons.mpr ⟨ok_vret C rfl (show decode cX11_keep 95 = .ok (.return_, 1) from dk_at dq37_23 (i := 4) rfl), ?_⟩
  exact fun _ h => absurd h List.not_mem_nil
def L_X11_hoard (f_X11_isPlace : List Value → ab_H → Option ab_O) (f_X11_isIn : List Value → ab_H → Option ab_O) (f_X11_cell : List Value → ab_H → Option ab_O) (f_X11_whyHoard : List Value → ab_H → Option ab_O) (f_X11_keep : List Value → ab_H → Option ab_O) (f_X11_hoards : List Value → ab_H → Option ab_O) : List (Nat × ab_A) := [
  (0, ab_nx 1 (ab_aload 0)),
  (1, ab_nx 2 (ab_lit (.int 0))),
  (2, ab_nx 5 (ab_putf 11 0 0)),
  (5, ab_nx 6 (ab_aload 0)),
  (6, ab_nx 7 (ab_iload 1)),
  (7, ab_nx 8 (ab_iload 2)),
  (8, ab_nx 11 (ab_callV 3 11 f_X11_isPlace 0 0 0 0)),
  (11, ab_if 14 25 (fun x => decide (x = 0))),
  (14, ab_nx 15 (ab_iload 3)),
  (15, ab_nx 16 (ab_lit (.int 1))),
  (16, ab_nx 19 (ab_lit (.int 250))),
  (19, ab_nx 22 (ab_call 3 f_X11_isIn 0 0 0 0)),
  (22, ab_if 25 27 (fun x => !decide (x = 0))),
  (25, ab_nx 26 (ab_lit (.int (-1)))),
  (26, ab_ret 0 0),
  (27, ab_nx 28 (ab_aload 0)),
  (28, ab_nx 29 (ab_iload 1)),
  (29, ab_nx 30 (ab_iload 2)),
  (30, ab_nx 33 (ab_call 2 f_X11_cell 0 0 0 0)),
  (33, ab_nx 34 (ab_iload 3)),
  (34, ab_nx 37 (ab_callV 3 11 f_X11_whyHoard 0 0 0 0)),
  (37, ab_if 40 42 (fun x => decide (x ≤ 0))),
  (40, ab_nx 41 (ab_lit (.int 1))),
  (41, ab_ret 0 0),
  (42, ab_nx 43 (ab_aload 0)),
  (43, ab_nx 46 (ab_callV 1 11 f_X11_keep 0 0 0 0)),
  (46, ab_nx 47 (ab_aload 0)),
  (47, ab_nx 48 (ab_iload 1)),
  (48, ab_nx 49 (ab_iload 2)),
  (49, ab_nx 52 (ab_call 2 f_X11_cell 0 0 0 0)),
  (52, ab_nx 53 (ab_iload 3)),
  (53, ab_nx 56 (ab_callV 3 11 f_X11_hoards 0 0 0 0)),
  (56, ab_nx 57 (ab_lit (.int 0))),
  (57, ab_ret 0 0)]
set_option maxRecDepth 100000 in
theorem dq37_24 : ([(0, .aload_n 0, 1), (1, .iconst 0, 1), (2, .putfield 1, 3), (5, .aload_n 0, 1), (6, .iload_n 1, 1), (7, .iload_n 2, 1), (8, .invokevirtual 251, 3), (11, .ifCond .eq 14, 3), (14, .iload_n 3, 1), (15, .iconst 1, 1), (16, .sipush 250, 3), (19, .invokestatic 179, 3), (22, .ifCond .ne 5, 3), (25, .iconst (-1), 1), (26, .ireturn, 1), (27, .aload_n 0, 1)] : List (Nat × Instr × Nat)).all (fun q => decide (decode cX11_hoard q.1 = .ok q.2)) = true := by decide +kernel
set_option maxRecDepth 100000 in
theorem dq37_25 : ([(28, .iload_n 1, 1), (29, .iload_n 2, 1), (30, .invokestatic 245, 3), (33, .iload_n 3, 1), (34, .invokevirtual 301, 3), (37, .ifCond .le 5, 3), (40, .iconst 1, 1), (41, .ireturn, 1), (42, .aload_n 0, 1), (43, .invokevirtual 304, 3), (46, .aload_n 0, 1), (47, .iload_n 1, 1), (48, .iload_n 2, 1), (49, .invokestatic 245, 3), (52, .iload_n 3, 1), (53, .invokevirtual 307, 3)] : List (Nat × Instr × Nat)).all (fun q => decide (decode cX11_hoard q.1 = .ok q.2)) = true := by decide +kernel
set_option maxRecDepth 100000 in
theorem dq37_26 : ([(56, .iconst 0, 1), (57, .ireturn, 1)] : List (Nat × Instr × Nat)).all (fun q => decide (decode cX11_hoard q.1 = .ok q.2)) = true := by decide +kernel
set_option maxRecDepth 100000 in
set_option maxHeartbeats 4000000 in
theorem M_X11_hoard {l : Launch} {b : ab_B} {D : va_G} {cA : Nat → ClassId} {f_X11_isPlace : List Value → ab_H → Option ab_O} (h_X11_isPlace : ab_M l b D ab_cl cA (ab_E0 b) yX11_isPlace (Cond.code yX11_isPlace cX11_isPlace 3 (some .boolean) :: ab_G) ({ frames := 3, cells := 0, slots := 0, locals := 300 } : Room) f_X11_isPlace) {f_X11_isIn : List Value → ab_H → Option ab_O} (h_X11_isIn : ab_M l b D ab_cl cA (ab_E0 b) yX11_isIn (Cond.code yX11_isIn cX11_isIn 3 (some .boolean) :: ab_G) ({ frames := 1, cells := 0, slots := 0, locals := 100 } : Room) f_X11_isIn) {f_X11_cell : List Value → ab_H → Option ab_O} (h_X11_cell : ab_M l b D ab_cl cA (ab_E0 b) yX11_cell (Cond.code yX11_cell cX11_cell 2 (some .int) :: ab_G) ({ frames := 1, cells := 0, slots := 0, locals := 100 } : Room) f_X11_cell) {f_X11_whyHoard : List Value → ab_H → Option ab_O} (h_X11_whyHoard : ab_M l b D ab_cl cA (ab_E0 b) yX11_whyHoard (Cond.code yX11_whyHoard cX11_whyHoard 3 (some .int) :: ab_G) ({ frames := 1, cells := 0, slots := 0, locals := 100 } : Room) f_X11_whyHoard) {f_X11_keep : List Value → ab_H → Option ab_O} (h_X11_keep : ab_M l b D ab_cl cA (ab_E0 b) yX11_keep (Cond.code yX11_keep cX11_keep 2 none :: ab_G) ({ frames := 1, cells := 0, slots := 0, locals := 100 } : Room) f_X11_keep) {f_X11_hoards : List Value → ab_H → Option ab_O} (h_X11_hoards : ab_M l b D ab_cl cA (ab_E0 b) yX11_hoards (Cond.code yX11_hoards cX11_hoards 3 none :: ab_G) ({ frames := 1, cells := 0, slots := 0, locals := 100 } : Room) f_X11_hoards) : ab_M l b D ab_cl cA (ab_E0 b) yX11_hoard (Cond.code yX11_hoard cX11_hoard 4 (some .int) :: ab_G) ({ frames := 4, cells := 0, slots := 0, locals := 400 } : Room) (ab_X (ab_T (L_X11_hoard f_X11_isPlace f_X11_isIn f_X11_cell f_X11_whyHoard f_X11_keep f_X11_hoards)) 4) := by
  refine ab_meth (ret := (some .int)) (L_X11_hoard f_X11_isPlace f_X11_isIn f_X11_cell f_X11_whyHoard f_X11_keep f_X11_hoards) (by decide) rfl fun p e R s m args below meth c o C => ?_
  unfold L_X11_hoard
  refine List.forall_mem_cons.mpr ⟨ok_aload_n C (show decode cX11_hoard 0 = .ok (.aload_n 0, 1) from dk_at dq37_24 (i := 0) rfl) rfl rfl, ?_⟩
  refine List.forall_mem_cons.mpr ⟨ok_iconst C (show decode cX11_hoard 1 = .ok (.iconst 0, 1) from dk_at dq37_24 (i := 1) rfl) (by decide) rfl, ?_⟩
  refine List.forall_mem_cons.mpr ⟨ok_putf C (wi_X11) tyX11 tyX11_ok nmX11 rfl (by decide) kw_1180 (Or.inl rfl) (Or.inl ⟨rfl, rfl⟩) (show decode cX11_hoard 2 = .ok (.putfield 1, 3) from dk_at dq37_24 (i := 2) rfl) rfl, ?_⟩
  refine List.forall_mem_cons.mpr ⟨ok_aload_n C (show decode cX11_hoard 5 = .ok (.aload_n 0, 1) from dk_at dq37_24 (i := 3) rfl) rfl rfl, ?_⟩
  refine List.forall_mem_cons.mpr ⟨ok_iload_n C (show decode cX11_hoard 6 = .ok (.iload_n 1, 1) from dk_at dq37_24 (i := 4) rfl) rfl rfl, ?_⟩
  refine List.forall_mem_cons.mpr ⟨ok_iload_n C (show decode cX11_hoard 7 = .ok (.iload_n 2, 1) from dk_at dq37_24 (i := 5) rfl) rfl rfl, ?_⟩
  refine List.forall_mem_cons.mpr ⟨ok_callV C h_X11_isPlace ⟨rfl, rfl⟩ rfl kw_1402 kw_1399 kw_1401 kp_64 kw_11 rfl ds_X11_isPlace ⟨by decide, by decide⟩ (show decode cX11_hoard 8 = .ok (.invokevirtual 251, 3) from dk_at dq37_24 (i := 6) rfl) rfl, ?_⟩
  refine List.forall_mem_cons.mpr ⟨ok_ifeq C (show decode cX11_hoard 11 = .ok (.ifCond .eq 14, 3) from dk_at dq37_24 (i := 7) rfl) (tg := 25) (by decide) rfl rfl, ?_⟩
  refine List.forall_mem_cons.mpr ⟨ok_iload_n C (show decode cX11_hoard 14 = .ok (.iload_n 3, 1) from dk_at dq37_24 (i := 8) rfl) rfl rfl, ?_⟩
  refine List.forall_mem_cons.mpr ⟨ok_iconst C (show decode cX11_hoard 15 = .ok (.iconst 1, 1) from dk_at dq37_24 (i := 9) rfl) (by decide) rfl, ?_⟩
  refine List.forall_mem_cons.mpr ⟨ok_sipush C (show decode cX11_hoard 16 = .ok (.sipush 250, 3) from dk_at dq37_24 (i := 10) rfl) (by decide) rfl, ?_⟩
  refine List.forall_mem_cons.mpr ⟨ok_callS C h_X11_isIn ⟨rfl, rfl⟩ kw_1355 kw_1353 kw_1354 kw_11 ds_X11_isIn ⟨by decide, by decide⟩ (show decode cX11_hoard 19 = .ok (.invokestatic 179, 3) from dk_at dq37_24 (i := 11) rfl) rfl, ?_⟩
  refine List.forall_mem_cons.mpr ⟨ok_ifne C (show decode cX11_hoard 22 = .ok (.ifCond .ne 5, 3) from dk_at dq37_24 (i := 12) rfl) (tg := 27) (by decide) rfl rfl, ?_⟩
  refine List.forall_mem_cons.mpr ⟨ok_iconst C (show decode cX11_hoard 25 = .ok (.iconst (-1), 1) from dk_at dq37_24 (i := 13) rfl) (by decide) rfl, ?_⟩
  refine List.forall_mem_cons.mpr ⟨ok_ret C rfl (show decode cX11_hoard 26 = .ok (.ireturn, 1) from dk_at dq37_24 (i := 14) rfl), ?_⟩
  refine List.forall_mem_cons.mpr ⟨ok_aload_n C (show decode cX11_hoard 27 = .ok (.aload_n 0, 1) from dk_at dq37_24 (i := 15) rfl) rfl rfl, ?_⟩
  refine List.forall_mem_cons.mpr ⟨ok_iload_n C (show decode cX11_hoard 28 = .ok (.iload_n 1, 1) from dk_at dq37_25 (i := 0) rfl) rfl rfl, ?_⟩
  refine List.forall_mem_cons.mpr ⟨ok_iload_n C (show decode cX11_hoard 29 = .ok (.iload_n 2, 1) from dk_at dq37_25 (i := 1) rfl) rfl rfl, ?_⟩
  refine List.forall_mem_cons.mpr ⟨ok_callS C h_X11_cell ⟨rfl, rfl⟩ kw_1413 kw_1411 kw_1412 kw_11 ds_X11_cell ⟨by decide, by decide⟩ (show decode cX11_hoard 30 = .ok (.invokestatic 245, 3) from dk_at dq37_25 (i := 2) rfl) rfl, ?_⟩
  refine List.forall_mem_cons.mpr ⟨ok_iload_n C (show decode cX11_hoard 33 = .ok (.iload_n 3, 1) from dk_at dq37_25 (i := 3) rfl) rfl rfl, ?_⟩
  refine List.forall_mem_cons.mpr ⟨ok_callV C h_X11_whyHoard ⟨rfl, rfl⟩ rfl kw_1477 kw_1474 kw_1476 kp_77 kw_11 rfl ds_X11_whyHoard ⟨by decide, by decide⟩ (show decode cX11_hoard 34 = .ok (.invokevirtual 301, 3) from dk_at dq37_25 (i := 4) rfl) rfl, ?_⟩
  refine List.forall_mem_cons.mpr ⟨ok_ifle C (show decode cX11_hoard 37 = .ok (.ifCond .le 5, 3) from dk_at dq37_25 (i := 5) rfl) (tg := 42) (by decide) rfl rfl, ?_⟩
  refine List.forall_mem_cons.mpr ⟨ok_iconst C (show decode cX11_hoard 40 = .ok (.iconst 1, 1) from dk_at dq37_25 (i := 6) rfl) (by decide) rfl, ?_⟩
  refine List.forall_mem_cons.mpr ⟨ok_ret C rfl (show decode cX11_hoard 41 = .ok (.ireturn, 1) from dk_at dq37_25 (i := 7) rfl), ?_⟩
  refine List.forall_mem_cons.mpr ⟨ok_aload_n C (show decode cX11_hoard 42 = .ok (.aload_n 0, 1) from dk_at dq37_25 (i := 8) rfl) rfl rfl, ?_⟩
  refine List.forall_mem_cons.mpr ⟨ok_callV C h_X11_keep ⟨rfl, rfl⟩ rfl kw_1481 kw_1478 kw_1480 kp_78 kw_11 rfl ds_X11_keep ⟨by decide, by decide⟩ (show decode cX11_hoard 43 = .ok (.invokevirtual 304, 3) from dk_at dq37_25 (i := 9) rfl) rfl, ?_⟩
  refine List.forall_mem_cons.mpr ⟨ok_aload_n C (show decode cX11_hoard 46 = .ok (.aload_n 0, 1) from dk_at dq37_25 (i := 10) rfl) rfl rfl, ?_⟩
  refine List.forall_mem_cons.mpr ⟨ok_iload_n C (show decode cX11_hoard 47 = .ok (.iload_n 1, 1) from dk_at dq37_25 (i := 11) rfl) rfl rfl, ?_⟩
  refine List.forall_mem_cons.mpr ⟨ok_iload_n C (show decode cX11_hoard 48 = .ok (.iload_n 2, 1) from dk_at dq37_25 (i := 12) rfl) rfl rfl, ?_⟩
  refine List.forall_mem_cons.mpr ⟨ok_callS C h_X11_cell ⟨rfl, rfl⟩ kw_1413 kw_1411 kw_1412 kw_11 ds_X11_cell ⟨by decide, by decide⟩ (show decode cX11_hoard 49 = .ok (.invokestatic 245, 3) from dk_at dq37_25 (i := 13) rfl) rfl, ?_⟩
  refine List.forall_mem_cons.mpr ⟨ok_iload_n C (show decode cX11_hoard 52 = .ok (.iload_n 3, 1) from dk_at dq37_25 (i := 14) rfl) rfl rfl, ?_⟩
  refine List.forall_mem_cons.mpr ⟨ok_callV C h_X11_hoards ⟨rfl, rfl⟩ rfl kw_1485 kw_1482 kw_1484 kp_79 kw_11 rfl ds_X11_hoards ⟨by decide, by decide⟩ (show decode cX11_hoard 53 = .ok (.invokevirtual 307, 3) from dk_at dq37_25 (i := 15) rfl) rfl, ?_⟩
  refine List.forall_mem_cons.mpr ⟨ok_iconst C (show decode cX11_hoard 56 = .ok (.iconst 0, 1) from dk_at dq37_26 (i := 0) rfl) (by decide) rfl, ?_⟩
  refine List.forall_mem_cons.mpr ⟨ok_ret C rfl (show decode cX11_hoard 57 = .ok (.ireturn, 1) from dk_at dq37_26 (i := 1) rfl), ?_⟩
  exact fun _ h => absurd h List.not_mem_nil
def L_X11_bare (f_X11_isPlace : List Value → ab_H → Option ab_O) (f_X11_isIn : List Value → ab_H → Option ab_O) (f_X11_cell : List Value → ab_H → Option ab_O) (f_X11_whyBare : List Value → ab_H → Option ab_O) (f_X11_keep : List Value → ab_H → Option ab_O) (f_X11_hoards : List Value → ab_H → Option ab_O) : List (Nat × ab_A) := [
  (0, ab_nx 1 (ab_aload 0)),
  (1, ab_nx 2 (ab_lit (.int 0))),
  (2, ab_nx 5 (ab_putf 11 0 0)),
  (5, ab_nx 6 (ab_aload 0)),
  (6, ab_nx 7 (ab_iload 1)),
  (7, ab_nx 8 (ab_iload 2)),
  (8, ab_nx 11 (ab_callV 3 11 f_X11_isPlace 0 0 0 0)),
  (11, ab_if 14 25 (fun x => decide (x = 0))),
  (14, ab_nx 15 (ab_iload 3)),
  (15, ab_nx 16 (ab_lit (.int 1))),
  (16, ab_nx 19 (ab_lit (.int 250))),
  (19, ab_nx 22 (ab_call 3 f_X11_isIn 0 0 0 0)),
  (22, ab_if 25 27 (fun x => !decide (x = 0))),
  (25, ab_nx 26 (ab_lit (.int (-1)))),
  (26, ab_ret 0 0),
  (27, ab_nx 28 (ab_aload 0)),
  (28, ab_nx 29 (ab_iload 1)),
  (29, ab_nx 30 (ab_iload 2)),
  (30, ab_nx 33 (ab_call 2 f_X11_cell 0 0 0 0)),
  (33, ab_nx 34 (ab_iload 3)),
  (34, ab_nx 37 (ab_callV 3 11 f_X11_whyBare 0 0 0 0)),
  (37, ab_nx 39 (ab_istore 4)),
  (39, ab_nx 41 (ab_iload 4)),
  (41, ab_if 44 47 (fun x => decide (x ≤ 0))),
  (44, ab_nx 46 (ab_iload 4)),
  (46, ab_ret 0 0),
  (47, ab_nx 48 (ab_aload 0)),
  (48, ab_nx 51 (ab_callV 1 11 f_X11_keep 0 0 0 0)),
  (51, ab_nx 52 (ab_aload 0)),
  (52, ab_nx 53 (ab_iload 1)),
  (53, ab_nx 54 (ab_iload 2)),
  (54, ab_nx 57 (ab_call 2 f_X11_cell 0 0 0 0)),
  (57, ab_nx 58 (ab_iload 3)),
  (58, ab_nx 59 (ab_un (fun x => -x))),
  (59, ab_nx 62 (ab_callV 3 11 f_X11_hoards 0 0 0 0)),
  (62, ab_nx 63 (ab_lit (.int 0))),
  (63, ab_ret 0 0)]
set_option maxRecDepth 100000 in
theorem dq37_27 : ([(0, .aload_n 0, 1), (1, .iconst 0, 1), (2, .putfield 1, 3), (5, .aload_n 0, 1), (6, .iload_n 1, 1), (7, .iload_n 2, 1), (8, .invokevirtual 251, 3), (11, .ifCond .eq 14, 3), (14, .iload_n 3, 1), (15, .iconst 1, 1), (16, .sipush 250, 3), (19, .invokestatic 179, 3), (22, .ifCond .ne 5, 3), (25, .iconst (-1), 1), (26, .ireturn, 1), (27, .aload_n 0, 1)] : List (Nat × Instr × Nat)).all (fun q => decide (decode cX11_bare q.1 = .ok q.2)) = true := by decide +kernel
set_option maxRecDepth 100000 in
theorem dq37_28 : ([(28, .iload_n 1, 1), (29, .iload_n 2, 1), (30, .invokestatic 245, 3), (33, .iload_n 3, 1), (34, .invokevirtual 311, 3), (37, .istore 4, 2), (39, .iload 4, 2), (41, .ifCond .le 6, 3), (44, .iload 4, 2), (46, .ireturn, 1), (47, .aload_n 0, 1), (48, .invokevirtual 304, 3), (51, .aload_n 0, 1), (52, .iload_n 1, 1), (53, .iload_n 2, 1), (54, .invokestatic 245, 3)] : List (Nat × Instr × Nat)).all (fun q => decide (decode cX11_bare q.1 = .ok q.2)) = true := by decide +kernel
set_option maxRecDepth 100000 in
theorem dq37_29 : ([(57, .iload_n 3, 1), (58, .ineg, 1), (59, .invokevirtual 307, 3), (62, .iconst 0, 1), (63, .ireturn, 1)] : List (Nat × Instr × Nat)).all (fun q => decide (decode cX11_bare q.1 = .ok q.2)) = true := by decide +kernel
set_option maxRecDepth 100000 in
set_option maxHeartbeats 4000000 in
theorem M_X11_bare {l : Launch} {b : ab_B} {D : va_G} {cA : Nat → ClassId} {f_X11_isPlace : List Value → ab_H → Option ab_O} (h_X11_isPlace : ab_M l b D ab_cl cA (ab_E0 b) yX11_isPlace (Cond.code yX11_isPlace cX11_isPlace 3 (some .boolean) :: ab_G) ({ frames := 3, cells := 0, slots := 0, locals := 300 } : Room) f_X11_isPlace) {f_X11_isIn : List Value → ab_H → Option ab_O} (h_X11_isIn : ab_M l b D ab_cl cA (ab_E0 b) yX11_isIn (Cond.code yX11_isIn cX11_isIn 3 (some .boolean) :: ab_G) ({ frames := 1, cells := 0, slots := 0, locals := 100 } : Room) f_X11_isIn) {f_X11_cell : List Value → ab_H → Option ab_O} (h_X11_cell : ab_M l b D ab_cl cA (ab_E0 b) yX11_cell (Cond.code yX11_cell cX11_cell 2 (some .int) :: ab_G) ({ frames := 1, cells := 0, slots := 0, locals := 100 } : Room) f_X11_cell) {f_X11_whyBare : List Value → ab_H → Option ab_O} (h_X11_whyBare : ab_M l b D ab_cl cA (ab_E0 b) yX11_whyBare (Cond.code yX11_whyBare cX11_whyBare 3 (some .int) :: ab_G) ({ frames := 1, cells := 0, slots := 0, locals := 100 } : Room) f_X11_whyBare) {f_X11_keep : List Value → ab_H → Option ab_O} (h_X11_keep : ab_M l b D ab_cl cA (ab_E0 b) yX11_keep (Cond.code yX11_keep cX11_keep 2 none :: ab_G) ({ frames := 1, cells := 0, slots := 0, locals := 100 } : Room) f_X11_keep) {f_X11_hoards : List Value → ab_H → Option ab_O} (h_X11_hoards : ab_M l b D ab_cl cA (ab_E0 b) yX11_hoards (Cond.code yX11_hoards cX11_hoards 3 none :: ab_G) ({ frames := 1, cells := 0, slots := 0, locals := 100 } : Room) f_X11_hoards) : ab_M l b D ab_cl cA (ab_E0 b) yX11_bare (Cond.code yX11_bare cX11_bare 5 (some .int) :: ab_G) ({ frames := 4, cells := 0, slots := 0, locals := 400 } : Room) (ab_X (ab_T (L_X11_bare f_X11_isPlace f_X11_isIn f_X11_cell f_X11_whyBare f_X11_keep f_X11_hoards)) 5) := by
  refine ab_meth (ret := (some .int)) (L_X11_bare f_X11_isPlace f_X11_isIn f_X11_cell f_X11_whyBare f_X11_keep f_X11_hoards) (by decide) rfl fun p e R s m args below meth c o C => ?_
  unfold L_X11_bare
  refine List.forall_mem_cons.mpr ⟨ok_aload_n C (show decode cX11_bare 0 = .ok (.aload_n 0, 1) from dk_at dq37_27 (i := 0) rfl) rfl rfl, ?_⟩
  refine List.forall_mem_cons.mpr ⟨ok_iconst C (show decode cX11_bare 1 = .ok (.iconst 0, 1) from dk_at dq37_27 (i := 1) rfl) (by decide) rfl, ?_⟩
  refine List.forall_mem_cons.mpr ⟨ok_putf C (wi_X11) tyX11 tyX11_ok nmX11 rfl (by decide) kw_1180 (Or.inl rfl) (Or.inl ⟨rfl, rfl⟩) (show decode cX11_bare 2 = .ok (.putfield 1, 3) from dk_at dq37_27 (i := 2) rfl) rfl, ?_⟩
  refine List.forall_mem_cons.mpr ⟨ok_aload_n C (show decode cX11_bare 5 = .ok (.aload_n 0, 1) from dk_at dq37_27 (i := 3) rfl) rfl rfl, ?_⟩
  refine List.forall_mem_cons.mpr ⟨ok_iload_n C (show decode cX11_bare 6 = .ok (.iload_n 1, 1) from dk_at dq37_27 (i := 4) rfl) rfl rfl, ?_⟩
  refine List.forall_mem_cons.mpr ⟨ok_iload_n C (show decode cX11_bare 7 = .ok (.iload_n 2, 1) from dk_at dq37_27 (i := 5) rfl) rfl rfl, ?_⟩
  refine List.forall_mem_cons.mpr ⟨ok_callV C h_X11_isPlace ⟨rfl, rfl⟩ rfl kw_1402 kw_1399 kw_1401 kp_64 kw_11 rfl ds_X11_isPlace ⟨by decide, by decide⟩ (show decode cX11_bare 8 = .ok (.invokevirtual 251, 3) from dk_at dq37_27 (i := 6) rfl) rfl, ?_⟩
  refine List.forall_mem_cons.mpr ⟨ok_ifeq C (show decode cX11_bare 11 = .ok (.ifCond .eq 14, 3) from dk_at dq37_27 (i := 7) rfl) (tg := 25) (by decide) rfl rfl, ?_⟩
  refine List.forall_mem_cons.mpr ⟨ok_iload_n C (show decode cX11_bare 14 = .ok (.iload_n 3, 1) from dk_at dq37_27 (i := 8) rfl) rfl rfl, ?_⟩
  refine List.forall_mem_cons.mpr ⟨ok_iconst C (show decode cX11_bare 15 = .ok (.iconst 1, 1) from dk_at dq37_27 (i := 9) rfl) (by decide) rfl, ?_⟩
  refine List.forall_mem_cons.mpr ⟨ok_sipush C (show decode cX11_bare 16 = .ok (.sipush 250, 3) from dk_at dq37_27 (i := 10) rfl) (by decide) rfl, ?_⟩
  refine List.forall_mem_cons.mpr ⟨ok_callS C h_X11_isIn ⟨rfl, rfl⟩ kw_1355 kw_1353 kw_1354 kw_11 ds_X11_isIn ⟨by decide, by decide⟩ (show decode cX11_bare 19 = .ok (.invokestatic 179, 3) from dk_at dq37_27 (i := 11) rfl) rfl, ?_⟩
  refine List.forall_mem_cons.mpr ⟨ok_ifne C (show decode cX11_bare 22 = .ok (.ifCond .ne 5, 3) from dk_at dq37_27 (i := 12) rfl) (tg := 27) (by decide) rfl rfl, ?_⟩
  refine List.forall_mem_cons.mpr ⟨ok_iconst C (show decode cX11_bare 25 = .ok (.iconst (-1), 1) from dk_at dq37_27 (i := 13) rfl) (by decide) rfl, ?_⟩
  refine List.forall_mem_cons.mpr ⟨ok_ret C rfl (show decode cX11_bare 26 = .ok (.ireturn, 1) from dk_at dq37_27 (i := 14) rfl), ?_⟩
  refine List.forall_mem_cons.mpr ⟨ok_aload_n C (show decode cX11_bare 27 = .ok (.aload_n 0, 1) from dk_at dq37_27 (i := 15) rfl) rfl rfl, ?_⟩
  refine List.forall_mem_cons.mpr ⟨ok_iload_n C (show decode cX11_bare 28 = .ok (.iload_n 1, 1) from dk_at dq37_28 (i := 0) rfl) rfl rfl, ?_⟩
  refine List.forall_mem_cons.mpr ⟨ok_iload_n C (show decode cX11_bare 29 = .ok (.iload_n 2, 1) from dk_at dq37_28 (i := 1) rfl) rfl rfl, ?_⟩
  refine List.forall_mem_cons.mpr ⟨ok_callS C h_X11_cell ⟨rfl, rfl⟩ kw_1413 kw_1411 kw_1412 kw_11 ds_X11_cell ⟨by decide, by decide⟩ (show decode cX11_bare 30 = .ok (.invokestatic 245, 3) from dk_at dq37_28 (i := 2) rfl) rfl, ?_⟩
  refine List.forall_mem_cons.mpr ⟨ok_iload_n C (show decode cX11_bare 33 = .ok (.iload_n 3, 1) from dk_at dq37_28 (i := 3) rfl) rfl rfl, ?_⟩
  refine List.forall_mem_cons.mpr ⟨ok_callV C h_X11_whyBare ⟨rfl, rfl⟩ rfl kw_1493 kw_1490 kw_1492 kp_80 kw_11 rfl ds_X11_whyBare ⟨by decide, by decide⟩ (show decode cX11_bare 34 = .ok (.invokevirtual 311, 3) from dk_at dq37_28 (i := 4) rfl) rfl, ?_⟩
  refine List.forall_mem_cons.mpr ⟨ok_istore C (show decode cX11_bare 37 = .ok (.istore 4, 2) from dk_at dq37_28 (i := 5) rfl) (by decide) rfl, ?_⟩
  refine List.forall_mem_cons.mpr ⟨ok_iload C (show decode cX11_bare 39 = .ok (.iload 4, 2) from dk_at dq37_28 (i := 6) rfl) rfl, ?_⟩
  refine List.forall_mem_cons.mpr ⟨ok_ifle C (show decode cX11_bare 41 = .ok (.ifCond .le 6, 3) from dk_at dq37_28 (i := 7) rfl) (tg := 47) (by decide) rfl rfl, ?_⟩
  refine List.forall_mem_cons.mpr ⟨ok_iload C (show decode cX11_bare 44 = .ok (.iload 4, 2) from dk_at dq37_28 (i := 8) rfl) rfl, ?_⟩
  refine List.forall_mem_cons.mpr ⟨ok_ret C rfl (show decode cX11_bare 46 = .ok (.ireturn, 1) from dk_at dq37_28 (i := 9) rfl), ?_⟩
  refine List.forall_mem_cons.mpr ⟨ok_aload_n C (show decode cX11_bare 47 = .ok (.aload_n 0, 1) from dk_at dq37_28 (i := 10) rfl) rfl rfl, ?_⟩
  refine List.forall_mem_cons.mpr ⟨ok_callV C h_X11_keep ⟨rfl, rfl⟩ rfl kw_1481 kw_1478 kw_1480 kp_78 kw_11 rfl ds_X11_keep ⟨by decide, by decide⟩ (show decode cX11_bare 48 = .ok (.invokevirtual 304, 3) from dk_at dq37_28 (i := 11) rfl) rfl, ?_⟩
  refine List.forall_mem_cons.mpr ⟨ok_aload_n C (show decode cX11_bare 51 = .ok (.aload_n 0, 1) from dk_at dq37_28 (i := 12) rfl) rfl rfl, ?_⟩
  refine List.forall_mem_cons.mpr ⟨ok_iload_n C (show decode cX11_bare 52 = .ok (.iload_n 1, 1) from dk_at dq37_28 (i := 13) rfl) rfl rfl, ?_⟩
  refine List.forall_mem_cons.mpr ⟨ok_iload_n C (show decode cX11_bare 53 = .ok (.iload_n 2, 1) from dk_at dq37_28 (i := 14) rfl) rfl rfl, ?_⟩
  refine List.forall_mem_cons.mpr ⟨ok_callS C h_X11_cell ⟨rfl, rfl⟩ kw_1413 kw_1411 kw_1412 kw_11 ds_X11_cell ⟨by decide, by decide⟩ (show decode cX11_bare 54 = .ok (.invokestatic 245, 3) from dk_at dq37_28 (i := 15) rfl) rfl, ?_⟩
  refine List.forall_mem_cons.mpr ⟨ok_iload_n C (show decode cX11_bare 57 = .ok (.iload_n 3, 1) from dk_at dq37_29 (i := 0) rfl) rfl rfl, ?_⟩
  refine List.forall_mem_cons.mpr ⟨ok_ineg C (show decode cX11_bare 58 = .ok (.ineg, 1) from dk_at dq37_29 (i := 1) rfl) rfl, ?_⟩
  refine List.forall_mem_cons.mpr ⟨ok_callV C h_X11_hoards ⟨rfl, rfl⟩ rfl kw_1485 kw_1482 kw_1484 kp_79 kw_11 rfl ds_X11_hoards ⟨by decide, by decide⟩ (show decode cX11_bare 59 = .ok (.invokevirtual 307, 3) from dk_at dq37_29 (i := 2) rfl) rfl, ?_⟩
  refine List.forall_mem_cons.mpr ⟨ok_iconst C (show decode cX11_bare 62 = .ok (.iconst 0, 1) from dk_at dq37_29 (i := 3) rfl) (by decide) rfl, ?_⟩
  refine List.forall_mem_cons.mpr ⟨ok_ret C rfl (show decode cX11_bare 63 = .ok (.ireturn, 1) from dk_at dq37_29 (i := 4) rfl), ?_⟩
  exact fun _ h => absurd h List.not_mem_nil
def L_X11_waste (f_X11_isPlace : List Value → ab_H → Option ab_O) (f_X11_isIn : List Value → ab_H → Option ab_O) (f_X11_cell : List Value → ab_H → Option ab_O) (f_X11_whyHoard : List Value → ab_H → Option ab_O) (f_X11_keep : List Value → ab_H → Option ab_O) : List (Nat × ab_A) := [
  (0, ab_nx 1 (ab_aload 0)),
  (1, ab_nx 2 (ab_lit (.int 0))),
  (2, ab_nx 5 (ab_putf 11 0 0)),
  (5, ab_nx 6 (ab_aload 0)),
  (6, ab_nx 7 (ab_iload 1)),
  (7, ab_nx 8 (ab_iload 2)),
  (8, ab_nx 11 (ab_callV 3 11 f_X11_isPlace 0 0 0 0)),
  (11, ab_if 14 25 (fun x => decide (x = 0))),
  (14, ab_nx 15 (ab_iload 3)),
  (15, ab_nx 16 (ab_lit (.int 1))),
  (16, ab_nx 19 (ab_lit (.int 250))),
  (19, ab_nx 22 (ab_call 3 f_X11_isIn 0 0 0 0)),
  (22, ab_if 25 27 (fun x => !decide (x = 0))),
  (25, ab_nx 26 (ab_lit (.int (-1)))),
  (26, ab_ret 0 0),
  (27, ab_nx 28 (ab_aload 0)),
  (28, ab_nx 29 (ab_iload 1)),
  (29, ab_nx 30 (ab_iload 2)),
  (30, ab_nx 33 (ab_call 2 f_X11_cell 0 0 0 0)),
  (33, ab_nx 34 (ab_iload 3)),
  (34, ab_nx 37 (ab_callV 3 11 f_X11_whyHoard 0 0 0 0)),
  (37, ab_if 40 42 (fun x => decide (x ≤ 0))),
  (40, ab_nx 41 (ab_lit (.int 1))),
  (41, ab_ret 0 0),
  (42, ab_nx 43 (ab_aload 0)),
  (43, ab_nx 46 (ab_callV 1 11 f_X11_keep 0 0 0 0)),
  (46, ab_nx 47 (ab_aload 0)),
  (47, ab_nx 50 (ab_getf 11 6)),
  (50, ab_nx 52 (ab_lit (.int 124))),
  (52, ab_nx 53 (ab_iload 1)),
  (53, ab_nx 54 (ab_iload 2)),
  (54, ab_nx 57 (ab_call 2 f_X11_cell 0 0 0 0)),
  (57, ab_nx 58 (ab_bin (fun x y => x + y))),
  (58, ab_nx 59 ab_dup2),
  (59, ab_nx 60 (ab_ald 1)),
  (60, ab_nx 61 (ab_iload 3)),
  (61, ab_nx 62 (ab_bin (fun x y => x - y))),
  (62, ab_nx 63 (ab_ast 1)),
  (63, ab_nx 64 (ab_lit (.int 0))),
  (64, ab_ret 0 0)]
set_option maxRecDepth 100000 in
theorem dq37_30 : ([(0, .aload_n 0, 1), (1, .iconst 0, 1), (2, .putfield 1, 3), (5, .aload_n 0, 1), (6, .iload_n 1, 1), (7, .iload_n 2, 1), (8, .invokevirtual 251, 3), (11, .ifCond .eq 14, 3), (14, .iload_n 3, 1), (15, .iconst 1, 1), (16, .sipush 250, 3), (19, .invokestatic 179, 3), (22, .ifCond .ne 5, 3), (25, .iconst (-1), 1), (26, .ireturn, 1), (27, .aload_n 0, 1)] : List (Nat × Instr × Nat)).all (fun q => decide (decode cX11_waste q.1 = .ok q.2)) = true := by decide +kernel
set_option maxRecDepth 100000 in
theorem dq37_31 : ([(28, .iload_n 1, 1), (29, .iload_n 2, 1), (30, .invokestatic 245, 3), (33, .iload_n 3, 1), (34, .invokevirtual 301, 3), (37, .ifCond .le 5, 3), (40, .iconst 1, 1), (41, .ireturn, 1), (42, .aload_n 0, 1), (43, .invokevirtual 304, 3), (46, .aload_n 0, 1), (47, .getfield 33, 3), (50, .bipush 124, 2), (52, .iload_n 1, 1), (53, .iload_n 2, 1), (54, .invokestatic 245, 3)] : List (Nat × Instr × Nat)).all (fun q => decide (decode cX11_waste q.1 = .ok q.2)) = true := by decide +kernel
set_option maxRecDepth 100000 in
theorem dq37_32 : ([(57, .iadd, 1), (58, .dup2, 1), (59, .iaload, 1), (60, .iload_n 3, 1), (61, .isub, 1), (62, .iastore, 1), (63, .iconst 0, 1), (64, .ireturn, 1)] : List (Nat × Instr × Nat)).all (fun q => decide (decode cX11_waste q.1 = .ok q.2)) = true := by decide +kernel
set_option maxRecDepth 100000 in
set_option maxHeartbeats 4000000 in
theorem M_X11_waste {l : Launch} {b : ab_B} {D : va_G} {cA : Nat → ClassId} {f_X11_isPlace : List Value → ab_H → Option ab_O} (h_X11_isPlace : ab_M l b D ab_cl cA (ab_E0 b) yX11_isPlace (Cond.code yX11_isPlace cX11_isPlace 3 (some .boolean) :: ab_G) ({ frames := 3, cells := 0, slots := 0, locals := 300 } : Room) f_X11_isPlace) {f_X11_isIn : List Value → ab_H → Option ab_O} (h_X11_isIn : ab_M l b D ab_cl cA (ab_E0 b) yX11_isIn (Cond.code yX11_isIn cX11_isIn 3 (some .boolean) :: ab_G) ({ frames := 1, cells := 0, slots := 0, locals := 100 } : Room) f_X11_isIn) {f_X11_cell : List Value → ab_H → Option ab_O} (h_X11_cell : ab_M l b D ab_cl cA (ab_E0 b) yX11_cell (Cond.code yX11_cell cX11_cell 2 (some .int) :: ab_G) ({ frames := 1, cells := 0, slots := 0, locals := 100 } : Room) f_X11_cell) {f_X11_whyHoard : List Value → ab_H → Option ab_O} (h_X11_whyHoard : ab_M l b D ab_cl cA (ab_E0 b) yX11_whyHoard (Cond.code yX11_whyHoard cX11_whyHoard 3 (some .int) :: ab_G) ({ frames := 1, cells := 0, slots := 0, locals := 100 } : Room) f_X11_whyHoard) {f_X11_keep : List Value → ab_H → Option ab_O} (h_X11_keep : ab_M l b D ab_cl cA (ab_E0 b) yX11_keep (Cond.code yX11_keep cX11_keep 2 none :: ab_G) ({ frames := 1, cells := 0, slots := 0, locals := 100 } : Room) f_X11_keep) : ab_M l b D ab_cl cA (ab_E0 b) yX11_waste (Cond.code yX11_waste cX11_waste 4 (some .int) :: ab_G) ({ frames := 4, cells := 0, slots := 0, locals := 400 } : Room) (ab_X (ab_T (L_X11_waste f_X11_isPlace f_X11_isIn f_X11_cell f_X11_whyHoard f_X11_keep)) 4) := by
  refine ab_meth (ret := (some .int)) (L_X11_waste f_X11_isPlace f_X11_isIn f_X11_cell f_X11_whyHoard f_X11_keep) (by decide) rfl fun p e R s m args below meth c o C => ?_
  unfold L_X11_waste
  refine List.forall_mem_cons.mpr ⟨ok_aload_n C (show decode cX11_waste 0 = .ok (.aload_n 0, 1) from dk_at dq37_30 (i := 0) rfl) rfl rfl, ?_⟩
  refine List.forall_mem_cons.mpr ⟨ok_iconst C (show decode cX11_waste 1 = .ok (.iconst 0, 1) from dk_at dq37_30 (i := 1) rfl) (by decide) rfl, ?_⟩
  refine List.forall_mem_cons.mpr ⟨ok_putf C (wi_X11) tyX11 tyX11_ok nmX11 rfl (by decide) kw_1180 (Or.inl rfl) (Or.inl ⟨rfl, rfl⟩) (show decode cX11_waste 2 = .ok (.putfield 1, 3) from dk_at dq37_30 (i := 2) rfl) rfl, ?_⟩
  refine List.forall_mem_cons.mpr ⟨ok_aload_n C (show decode cX11_waste 5 = .ok (.aload_n 0, 1) from dk_at dq37_30 (i := 3) rfl) rfl rfl, ?_⟩
  refine List.forall_mem_cons.mpr ⟨ok_iload_n C (show decode cX11_waste 6 = .ok (.iload_n 1, 1) from dk_at dq37_30 (i := 4) rfl) rfl rfl, ?_⟩
  refine List.forall_mem_cons.mpr ⟨ok_iload_n C (show decode cX11_waste 7 = .ok (.iload_n 2, 1) from dk_at dq37_30 (i := 5) rfl) rfl rfl, ?_⟩
  refine List.forall_mem_cons.mpr ⟨ok_callV C h_X11_isPlace ⟨rfl, rfl⟩ rfl kw_1402 kw_1399 kw_1401 kp_64 kw_11 rfl ds_X11_isPlace ⟨by decide, by decide⟩ (show decode cX11_waste 8 = .ok (.invokevirtual 251, 3) from dk_at dq37_30 (i := 6) rfl) rfl, ?_⟩
  refine List.forall_mem_cons.mpr ⟨ok_ifeq C (show decode cX11_waste 11 = .ok (.ifCond .eq 14, 3) from dk_at dq37_30 (i := 7) rfl) (tg := 25) (by decide) rfl rfl, ?_⟩
  refine List.forall_mem_cons.mpr ⟨ok_iload_n C (show decode cX11_waste 14 = .ok (.iload_n 3, 1) from dk_at dq37_30 (i := 8) rfl) rfl rfl, ?_⟩
  refine List.forall_mem_cons.mpr ⟨ok_iconst C (show decode cX11_waste 15 = .ok (.iconst 1, 1) from dk_at dq37_30 (i := 9) rfl) (by decide) rfl, ?_⟩
  refine List.forall_mem_cons.mpr ⟨ok_sipush C (show decode cX11_waste 16 = .ok (.sipush 250, 3) from dk_at dq37_30 (i := 10) rfl) (by decide) rfl, ?_⟩
  refine List.forall_mem_cons.mpr ⟨ok_callS C h_X11_isIn ⟨rfl, rfl⟩ kw_1355 kw_1353 kw_1354 kw_11 ds_X11_isIn ⟨by decide, by decide⟩ (show decode cX11_waste 19 = .ok (.invokestatic 179, 3) from dk_at dq37_30 (i := 11) rfl) rfl, ?_⟩
  refine List.forall_mem_cons.mpr ⟨ok_ifne C (show decode cX11_waste 22 = .ok (.ifCond .ne 5, 3) from dk_at dq37_30 (i := 12) rfl) (tg := 27) (by decide) rfl rfl, ?_⟩
  refine List.forall_mem_cons.mpr ⟨ok_iconst C (show decode cX11_waste 25 = .ok (.iconst (-1), 1) from dk_at dq37_30 (i := 13) rfl) (by decide) rfl, ?_⟩
  refine List.forall_mem_cons.mpr ⟨ok_ret C rfl (show decode cX11_waste 26 = .ok (.ireturn, 1) from dk_at dq37_30 (i := 14) rfl), ?_⟩
  refine List.forall_mem_cons.mpr ⟨ok_aload_n C (show decode cX11_waste 27 = .ok (.aload_n 0, 1) from dk_at dq37_30 (i := 15) rfl) rfl rfl, ?_⟩
  refine List.forall_mem_cons.mpr ⟨ok_iload_n C (show decode cX11_waste 28 = .ok (.iload_n 1, 1) from dk_at dq37_31 (i := 0) rfl) rfl rfl, ?_⟩
  refine List.forall_mem_cons.mpr ⟨ok_iload_n C (show decode cX11_waste 29 = .ok (.iload_n 2, 1) from dk_at dq37_31 (i := 1) rfl) rfl rfl, ?_⟩
  refine List.forall_mem_cons.mpr ⟨ok_callS C h_X11_cell ⟨rfl, rfl⟩ kw_1413 kw_1411 kw_1412 kw_11 ds_X11_cell ⟨by decide, by decide⟩ (show decode cX11_waste 30 = .ok (.invokestatic 245, 3) from dk_at dq37_31 (i := 2) rfl) rfl, ?_⟩
  refine List.forall_mem_cons.mpr ⟨ok_iload_n C (show decode cX11_waste 33 = .ok (.iload_n 3, 1) from dk_at dq37_31 (i := 3) rfl) rfl rfl, ?_⟩
  refine List.forall_mem_cons.mpr ⟨ok_callV C h_X11_whyHoard ⟨rfl, rfl⟩ rfl kw_1477 kw_1474 kw_1476 kp_77 kw_11 rfl ds_X11_whyHoard ⟨by decide, by decide⟩ (show decode cX11_waste 34 = .ok (.invokevirtual 301, 3) from dk_at dq37_31 (i := 4) rfl) rfl, ?_⟩
  refine List.forall_mem_cons.mpr ⟨ok_ifle C (show decode cX11_waste 37 = .ok (.ifCond .le 5, 3) from dk_at dq37_31 (i := 5) rfl) (tg := 42) (by decide) rfl rfl, ?_⟩
  refine List.forall_mem_cons.mpr ⟨ok_iconst C (show decode cX11_waste 40 = .ok (.iconst 1, 1) from dk_at dq37_31 (i := 6) rfl) (by decide) rfl, ?_⟩
  refine List.forall_mem_cons.mpr ⟨ok_ret C rfl (show decode cX11_waste 41 = .ok (.ireturn, 1) from dk_at dq37_31 (i := 7) rfl), ?_⟩
  refine List.forall_mem_cons.mpr ⟨ok_aload_n C (show decode cX11_waste 42 = .ok (.aload_n 0, 1) from dk_at dq37_31 (i := 8) rfl) rfl rfl, ?_⟩
  refine List.forall_mem_cons.mpr ⟨ok_callV C h_X11_keep ⟨rfl, rfl⟩ rfl kw_1481 kw_1478 kw_1480 kp_78 kw_11 rfl ds_X11_keep ⟨by decide, by decide⟩ (show decode cX11_waste 43 = .ok (.invokevirtual 304, 3) from dk_at dq37_31 (i := 9) rfl) rfl, ?_⟩
  refine List.forall_mem_cons.mpr ⟨ok_aload_n C (show decode cX11_waste 46 = .ok (.aload_n 0, 1) from dk_at dq37_31 (i := 10) rfl) rfl rfl, ?_⟩
  refine List.forall_mem_cons.mpr ⟨ok_getf C (wi_X11) rfl (by decide) kw_1186 (show decode cX11_waste 47 = .ok (.getfield 33, 3) from dk_at dq37_31 (i := 11) rfl) rfl, ?_⟩
  refine List.forall_mem_cons.mpr ⟨ok_bipush C (show decode cX11_waste 50 = .ok (.bipush 124, 2) from dk_at dq37_31 (i := 12) rfl) (by decide) rfl, ?_⟩
  refine List.forall_mem_cons.mpr ⟨ok_iload_n C (show decode cX11_waste 52 = .ok (.iload_n 1, 1) from dk_at dq37_31 (i := 13) rfl) rfl rfl, ?_⟩
  refine List.forall_mem_cons.mpr ⟨ok_iload_n C (show decode cX11_waste 53 = .ok (.iload_n 2, 1) from dk_at dq37_31 (i := 14) rfl) rfl rfl, ?_⟩
  refine List.forall_mem_cons.mpr ⟨ok_callS C h_X11_cell ⟨rfl, rfl⟩ kw_1413 kw_1411 kw_1412 kw_11 ds_X11_cell ⟨by decide, by decide⟩ (show decode cX11_waste 54 = .ok (.invokestatic 245, 3) from dk_at dq37_31 (i := 15) rfl) rfl, ?_⟩
  refine List.forall_mem_cons.mpr ⟨ok_iadd C (show decode cX11_waste 57 = .ok (.iadd, 1) from dk_at dq37_32 (i := 0) rfl) rfl, ?_⟩
  refine List.forall_mem_cons.mpr ⟨ok_dup2 C (show decode cX11_waste 58 = .ok (.dup2, 1) from dk_at dq37_32 (i := 1) rfl) rfl, ?_⟩
  refine List.forall_mem_cons.mpr ⟨ok_iaload C (show decode cX11_waste 59 = .ok (.iaload, 1) from dk_at dq37_32 (i := 2) rfl) rfl, ?_⟩
  refine List.forall_mem_cons.mpr ⟨ok_iload_n C (show decode cX11_waste 60 = .ok (.iload_n 3, 1) from dk_at dq37_32 (i := 3) rfl) rfl rfl, ?_⟩
  refine List.forall_mem_cons.mpr ⟨ok_isub C (show decode cX11_waste 61 = .ok (.isub, 1) from dk_at dq37_32 (i := 4) rfl) rfl, ?_⟩
  refine List.forall_mem_cons.mpr ⟨ok_iastore C (show decode cX11_waste 62 = .ok (.iastore, 1) from dk_at dq37_32 (i := 5) rfl) rfl, ?_⟩
  refine List.forall_mem_cons.mpr ⟨ok_iconst C (show decode cX11_waste 63 = .ok (.iconst 0, 1) from dk_at dq37_32 (i := 6) rfl) (by decide) rfl, ?_⟩
  refine List.forall_mem_cons.mpr ⟨ok_ret C rfl (show decode cX11_waste 64 = .ok (.ireturn, 1) from dk_at dq37_32 (i := 7) rfl), ?_⟩
  exact fun _ h => absurd h List.not_mem_nil
end
-- 38.m18.lean.txt
section
def L_X11_die (f_X11_isMan : List Value → ab_H → Option ab_O) (f_X11_isDead : List Value → ab_H → Option ab_O) (f_X11_keep : List Value → ab_H → Option ab_O) : List (Nat × ab_A) := [
  (0, ab_nx 1 (ab_aload 0)),
  (1, ab_nx 2 (ab_lit (.int 0))),
  (2, ab_nx 5 (ab_putf 11 0 0)),
  (5, ab_nx 6 (ab_aload 0)),
  (6, ab_nx 7 (ab_iload 1)),
  (7, ab_nx 10 (ab_callV 2 11 f_X11_isMan 0 0 0 0)),
  (10, ab_if 13 15 (fun x => !decide (x = 0))),
  (13, ab_nx 14 (ab_lit (.int (-1)))),
  (14, ab_ret 0 0),
  (15, ab_nx 16 (ab_aload 0)),
  (16, ab_nx 17 (ab_iload 1)),
  (17, ab_nx 20 (ab_callV 2 11 f_X11_isDead 0 0 0 0)),
  (20, ab_if 23 25 (fun x => decide (x = 0))),
  (23, ab_nx 24 (ab_lit (.int 1))),
  (24, ab_ret 0 0),
  (25, ab_nx 26 (ab_aload 0)),
  (26, ab_nx 29 (ab_callV 1 11 f_X11_keep 0 0 0 0)),
  (29, ab_nx 30 (ab_aload 0)),
  (30, ab_nx 33 (ab_getf 11 6)),
  (33, ab_nx 36 (ab_lit (.int 180))),
  (36, ab_nx 37 ab_dup2),
  (37, ab_nx 38 (ab_ald 1)),
  (38, ab_nx 39 (ab_lit (.int 1))),
  (39, ab_nx 40 (ab_iload 1)),
  (40, ab_nx 41 (ab_bin (fun x y => x <<< (y &&& 31)))),
  (41, ab_nx 42 (ab_bin (fun x y => x ||| y))),
  (42, ab_nx 43 (ab_ast 1)),
  (43, ab_nx 44 (ab_lit (.int 0))),
  (44, ab_ret 0 0)]
set_option maxRecDepth 100000 in
theorem dq38_0 : ([(0, .aload_n 0, 1), (1, .iconst 0, 1), (2, .putfield 1, 3), (5, .aload_n 0, 1), (6, .iload_n 1, 1), (7, .invokevirtual 266, 3), (10, .ifCond .ne 5, 3), (13, .iconst (-1), 1), (14, .ireturn, 1), (15, .aload_n 0, 1), (16, .iload_n 1, 1), (17, .invokevirtual 257, 3), (20, .ifCond .eq 5, 3), (23, .iconst 1, 1), (24, .ireturn, 1), (25, .aload_n 0, 1)] : List (Nat × Instr × Nat)).all (fun q => decide (decode cX11_die q.1 = .ok q.2)) = true := by decide +kernel
set_option maxRecDepth 100000 in
theorem dq38_1 : ([(26, .invokevirtual 304, 3), (29, .aload_n 0, 1), (30, .getfield 33, 3), (33, .sipush 180, 3), (36, .dup2, 1), (37, .iaload, 1), (38, .iconst 1, 1), (39, .iload_n 1, 1), (40, .ishl, 1), (41, .ior, 1), (42, .iastore, 1), (43, .iconst 0, 1), (44, .ireturn, 1)] : List (Nat × Instr × Nat)).all (fun q => decide (decode cX11_die q.1 = .ok q.2)) = true := by decide +kernel
set_option maxRecDepth 100000 in
set_option maxHeartbeats 4000000 in
theorem M_X11_die {l : Launch} {b : ab_B} {D : va_G} {cA : Nat → ClassId} {f_X11_isMan : List Value → ab_H → Option ab_O} (h_X11_isMan : ab_M l b D ab_cl cA (ab_E0 b) yX11_isMan (Cond.code yX11_isMan cX11_isMan 2 (some .boolean) :: ab_G) ({ frames := 2, cells := 0, slots := 0, locals := 200 } : Room) f_X11_isMan) {f_X11_isDead : List Value → ab_H → Option ab_O} (h_X11_isDead : ab_M l b D ab_cl cA (ab_E0 b) yX11_isDead (Cond.code yX11_isDead cX11_isDead 2 (some .boolean) :: ab_G) ({ frames := 2, cells := 0, slots := 0, locals := 200 } : Room) f_X11_isDead) {f_X11_keep : List Value → ab_H → Option ab_O} (h_X11_keep : ab_M l b D ab_cl cA (ab_E0 b) yX11_keep (Cond.code yX11_keep cX11_keep 2 none :: ab_G) ({ frames := 1, cells := 0, slots := 0, locals := 100 } : Room) f_X11_keep) : ab_M l b D ab_cl cA (ab_E0 b) yX11_die (Cond.code yX11_die cX11_die 2 (some .int) :: ab_G) ({ frames := 3, cells := 0, slots := 0, locals := 300 } : Room) (ab_X (ab_T (L_X11_die f_X11_isMan f_X11_isDead f_X11_keep)) 2) := by
  refine ab_meth (ret := (some .int)) (L_X11_die f_X11_isMan f_X11_isDead f_X11_keep) (by decide) rfl fun p e R s m args below meth c o C => ?_
  unfold L_X11_die
  refine List.forall_mem_cons.mpr ⟨ok_aload_n C (show decode cX11_die 0 = .ok (.aload_n 0, 1) from dk_at dq38_0 (i := 0) rfl) rfl rfl, ?_⟩
  refine List.forall_mem_cons.mpr ⟨ok_iconst C (show decode cX11_die 1 = .ok (.iconst 0, 1) from dk_at dq38_0 (i := 1) rfl) (by decide) rfl, ?_⟩
  refine List.forall_mem_cons.mpr ⟨ok_putf C (wi_X11) tyX11 tyX11_ok nmX11 rfl (by decide) kw_1180 (Or.inl rfl) (Or.inl ⟨rfl, rfl⟩) (show decode cX11_die 2 = .ok (.putfield 1, 3) from dk_at dq38_0 (i := 2) rfl) rfl, ?_⟩
  refine List.forall_mem_cons.mpr ⟨ok_aload_n C (show decode cX11_die 5 = .ok (.aload_n 0, 1) from dk_at dq38_0 (i := 3) rfl) rfl rfl, ?_⟩
  refine List.forall_mem_cons.mpr ⟨ok_iload_n C (show decode cX11_die 6 = .ok (.iload_n 1, 1) from dk_at dq38_0 (i := 4) rfl) rfl rfl, ?_⟩
  refine List.forall_mem_cons.mpr ⟨ok_callV C h_X11_isMan ⟨rfl, rfl⟩ rfl kw_1433 kw_1430 kw_1432 kp_69 kw_11 rfl ds_X11_isMan ⟨by decide, by decide⟩ (show decode cX11_die 7 = .ok (.invokevirtual 266, 3) from dk_at dq38_0 (i := 5) rfl) rfl, ?_⟩
  refine List.forall_mem_cons.mpr ⟨ok_ifne C (show decode cX11_die 10 = .ok (.ifCond .ne 5, 3) from dk_at dq38_0 (i := 6) rfl) (tg := 15) (by decide) rfl rfl, ?_⟩
  refine List.forall_mem_cons.mpr ⟨ok_iconst C (show decode cX11_die 13 = .ok (.iconst (-1), 1) from dk_at dq38_0 (i := 7) rfl) (by decide) rfl, ?_⟩
  refine List.forall_mem_cons.mpr ⟨ok_ret C rfl (show decode cX11_die 14 = .ok (.ireturn, 1) from dk_at dq38_0 (i := 8) rfl), ?_⟩
  refine List.forall_mem_cons.mpr ⟨ok_aload_n C (show decode cX11_die 15 = .ok (.aload_n 0, 1) from dk_at dq38_0 (i := 9) rfl) rfl rfl, ?_⟩
  refine List.forall_mem_cons.mpr ⟨ok_iload_n C (show decode cX11_die 16 = .ok (.iload_n 1, 1) from dk_at dq38_0 (i := 10) rfl) rfl rfl, ?_⟩
  refine List.forall_mem_cons.mpr ⟨ok_callV C h_X11_isDead ⟨rfl, rfl⟩ rfl kw_1441 kw_1438 kw_1440 kp_71 kw_11 rfl ds_X11_isDead ⟨by decide, by decide⟩ (show decode cX11_die 17 = .ok (.invokevirtual 257, 3) from dk_at dq38_0 (i := 11) rfl) rfl, ?_⟩
  refine List.forall_mem_cons.mpr ⟨ok_ifeq C (show decode cX11_die 20 = .ok (.ifCond .eq 5, 3) from dk_at dq38_0 (i := 12) rfl) (tg := 25) (by decide) rfl rfl, ?_⟩
  refine List.forall_mem_cons.mpr ⟨ok_iconst C (show decode cX11_die 23 = .ok (.iconst 1, 1) from dk_at dq38_0 (i := 13) rfl) (by decide) rfl, ?_⟩
  refine List.forall_mem_cons.mpr ⟨ok_ret C rfl (show decode cX11_die 24 = .ok (.ireturn, 1) from dk_at dq38_0 (i := 14) rfl), ?_⟩
  refine List.forall_mem_cons.mpr ⟨ok_aload_n C (show decode cX11_die 25 = .ok (.aload_n 0, 1) from dk_at dq38_0 (i := 15) rfl) rfl rfl, ?_⟩
  refine List.forall_mem_cons.mpr ⟨ok_callV C h_X11_keep ⟨rfl, rfl⟩ rfl kw_1481 kw_1478 kw_1480 kp_78 kw_11 rfl ds_X11_keep ⟨by decide, by decide⟩ (show decode cX11_die 26 = .ok (.invokevirtual 304, 3) from dk_at dq38_1 (i := 0) rfl) rfl, ?_⟩
  refine List.forall_mem_cons.mpr ⟨ok_aload_n C (show decode cX11_die 29 = .ok (.aload_n 0, 1) from dk_at dq38_1 (i := 1) rfl) rfl rfl, ?_⟩
  refine List.forall_mem_cons.mpr ⟨ok_getf C (wi_X11) rfl (by decide) kw_1186 (show decode cX11_die 30 = .ok (.getfield 33, 3) from dk_at dq38_1 (i := 2) rfl) rfl, ?_⟩
  refine List.forall_mem_cons.mpr ⟨ok_sipush C (show decode cX11_die 33 = .ok (.sipush 180, 3) from dk_at dq38_1 (i := 3) rfl) (by decide) rfl, ?_⟩
  refine List.forall_mem_cons.mpr ⟨ok_dup2 C (show decode cX11_die 36 = .ok (.dup2, 1) from dk_at dq38_1 (i := 4) rfl) rfl, ?_⟩
  refine List.forall_mem_cons.mpr ⟨ok_iaload C (show decode cX11_die 37 = .ok (.iaload, 1) from dk_at dq38_1 (i := 5) rfl) rfl, ?_⟩
  refine List.forall_mem_cons.mpr ⟨ok_iconst C (show decode cX11_die 38 = .ok (.iconst 1, 1) from dk_at dq38_1 (i := 6) rfl) (by decide) rfl, ?_⟩
  refine List.forall_mem_cons.mpr ⟨ok_iload_n C (show decode cX11_die 39 = .ok (.iload_n 1, 1) from dk_at dq38_1 (i := 7) rfl) rfl rfl, ?_⟩
  refine List.forall_mem_cons.mpr ⟨ok_ishl C (show decode cX11_die 40 = .ok (.ishl, 1) from dk_at dq38_1 (i := 8) rfl) rfl, ?_⟩
  refine List.forall_mem_cons.mpr ⟨ok_ior C (show decode cX11_die 41 = .ok (.ior, 1) from dk_at dq38_1 (i := 9) rfl) rfl, ?_⟩
  refine List.forall_mem_cons.mpr ⟨ok_iastore C (show decode cX11_die 42 = .ok (.iastore, 1) from dk_at dq38_1 (i := 10) rfl) rfl, ?_⟩
  refine List.forall_mem_cons.mpr ⟨ok_iconst C (show decode cX11_die 43 = .ok (.iconst 0, 1) from dk_at dq38_1 (i := 11) rfl) (by decide) rfl, ?_⟩
  refine List.forall_mem_cons.mpr ⟨ok_ret C rfl (show decode cX11_die 44 = .ok (.ireturn, 1) from dk_at dq38_1 (i := 12) rfl), ?_⟩
  exact fun _ h => absurd h List.not_mem_nil
def L_X11_days (f_X11_isIn : List Value → ab_H → Option ab_O) (f_X11_keep : List Value → ab_H → Option ab_O) (f_X11_goesOn : List Value → ab_H → Option ab_O) : List (Nat × ab_A) := [
  (0, ab_nx 1 (ab_aload 0)),
  (1, ab_nx 2 (ab_lit (.int 0))),
  (2, ab_nx 5 (ab_putf 11 0 0)),
  (5, ab_nx 6 (ab_iload 1)),
  (6, ab_nx 7 (ab_lit (.int 1))),
  (7, ab_nx 9 (ab_lit (.int 60))),
  (9, ab_nx 12 (ab_call 3 f_X11_isIn 0 0 0 0)),
  (12, ab_if 15 17 (fun x => !decide (x = 0))),
  (15, ab_nx 16 (ab_lit (.int (-1)))),
  (16, ab_ret 0 0),
  (17, ab_nx 18 (ab_aload 0)),
  (18, ab_nx 21 (ab_getf 11 6)),
  (21, ab_nx 23 (ab_lit (.int 120))),
  (23, ab_nx 24 (ab_ald 1)),
  (24, ab_nx 27 (ab_lit (.int 400))),
  (27, ab_icmp 30 32 (fun x y => !decide (x = y))),
  (30, ab_nx 31 (ab_lit (.int 0))),
  (31, ab_ret 0 0),
  (32, ab_nx 33 (ab_aload 0)),
  (33, ab_nx 36 (ab_callV 1 11 f_X11_keep 0 0 0 0)),
  (36, ab_nx 37 (ab_aload 0)),
  (37, ab_nx 38 (ab_iload 1)),
  (38, ab_nx 41 (ab_callV 2 11 f_X11_goesOn 0 0 0 0)),
  (41, ab_ret 0 0)]
set_option maxRecDepth 100000 in
theorem dq38_2 : ([(0, .aload_n 0, 1), (1, .iconst 0, 1), (2, .putfield 1, 3), (5, .iload_n 1, 1), (6, .iconst 1, 1), (7, .bipush 60, 2), (9, .invokestatic 179, 3), (12, .ifCond .ne 5, 3), (15, .iconst (-1), 1), (16, .ireturn, 1), (17, .aload_n 0, 1), (18, .getfield 33, 3), (21, .bipush 120, 2), (23, .iaload, 1), (24, .sipush 400, 3), (27, .if_icmp .ne 5, 3)] : List (Nat × Instr × Nat)).all (fun q => decide (decode cX11_days q.1 = .ok q.2)) = true := by decide +kernel
set_option maxRecDepth 100000 in
theorem dq38_3 : ([(30, .iconst 0, 1), (31, .ireturn, 1), (32, .aload_n 0, 1), (33, .invokevirtual 304, 3), (36, .aload_n 0, 1), (37, .iload_n 1, 1), (38, .invokevirtual 314, 3), (41, .ireturn, 1)] : List (Nat × Instr × Nat)).all (fun q => decide (decode cX11_days q.1 = .ok q.2)) = true := by decide +kernel
set_option maxRecDepth 100000 in
set_option maxHeartbeats 4000000 in
theorem M_X11_days {l : Launch} {b : ab_B} {D : va_G} {cA : Nat → ClassId} {f_X11_isIn : List Value → ab_H → Option ab_O} (h_X11_isIn : ab_M l b D ab_cl cA (ab_E0 b) yX11_isIn (Cond.code yX11_isIn cX11_isIn 3 (some .boolean) :: ab_G) ({ frames := 1, cells := 0, slots := 0, locals := 100 } : Room) f_X11_isIn) {f_X11_keep : List Value → ab_H → Option ab_O} (h_X11_keep : ab_M l b D ab_cl cA (ab_E0 b) yX11_keep (Cond.code yX11_keep cX11_keep 2 none :: ab_G) ({ frames := 1, cells := 0, slots := 0, locals := 100 } : Room) f_X11_keep) {f_X11_goesOn : List Value → ab_H → Option ab_O} (h_X11_goesOn : ab_M l b D ab_cl cA (ab_E0 b) yX11_goesOn (Cond.code yX11_goesOn cX11_goesOn 3 (some .int) :: ab_G) ({ frames := 8, cells := 0, slots := 0, locals := 800 } : Room) f_X11_goesOn) : ab_M l b D ab_cl cA (ab_E0 b) yX11_days (Cond.code yX11_days cX11_days 2 (some .int) :: ab_G) ({ frames := 9, cells := 0, slots := 0, locals := 900 } : Room) (ab_X (ab_T (L_X11_days f_X11_isIn f_X11_keep f_X11_goesOn)) 2) := by
  refine ab_meth (ret := (some .int)) (L_X11_days f_X11_isIn f_X11_keep f_X11_goesOn) (by decide) rfl fun p e R s m args below meth c o C => ?_
  unfold L_X11_days
  refine List.forall_mem_cons.mpr ⟨ok_aload_n C (show decode cX11_days 0 = .ok (.aload_n 0, 1) from dk_at dq38_2 (i := 0) rfl) rfl rfl, ?_⟩
  refine List.forall_mem_cons.mpr ⟨ok_iconst C (show decode cX11_days 1 = .ok (.iconst 0, 1) from dk_at dq38_2 (i := 1) rfl) (by decide) rfl, ?_⟩
  refine List.forall_mem_cons.mpr ⟨ok_putf C (wi_X11) tyX11 tyX11_ok nmX11 rfl (by decide) kw_1180 (Or.inl rfl) (Or.inl ⟨rfl, rfl⟩) (show decode cX11_days 2 = .ok (.putfield 1, 3) from dk_at dq38_2 (i := 2) rfl) rfl, ?_⟩
  refine List.forall_mem_cons.mpr ⟨ok_iload_n C (show decode cX11_days 5 = .ok (.iload_n 1, 1) from dk_at dq38_2 (i := 3) rfl) rfl rfl, ?_⟩
  refine List.forall_mem_cons.mpr ⟨ok_iconst C (show decode cX11_days 6 = .ok (.iconst 1, 1) from dk_at dq38_2 (i := 4) rfl) (by decide) rfl, ?_⟩
  refine List.forall_mem_cons.mpr ⟨ok_bipush C (show decode cX11_days 7 = .ok (.bipush 60, 2) from dk_at dq38_2 (i := 5) rfl) (by decide) rfl, ?_⟩
  refine List.forall_mem_cons.mpr ⟨ok_callS C h_X11_isIn ⟨rfl, rfl⟩ kw_1355 kw_1353 kw_1354 kw_11 ds_X11_isIn ⟨by decide, by decide⟩ (show decode cX11_days 9 = .ok (.invokestatic 179, 3) from dk_at dq38_2 (i := 6) rfl) rfl, ?_⟩
  refine List.forall_mem_cons.mpr ⟨ok_ifne C (show decode cX11_days 12 = .ok (.ifCond .ne 5, 3) from dk_at dq38_2 (i := 7) rfl) (tg := 17) (by decide) rfl rfl, ?_⟩
  refine List.forall_mem_cons.mpr ⟨ok_iconst C (show decode cX11_days 15 = .ok (.iconst (-1), 1) from dk_at dq38_2 (i := 8) rfl) (by decide) rfl, ?_⟩
  refine List.forall_mem_cons.mpr ⟨ok_ret C rfl (show decode cX11_days 16 = .ok (.ireturn, 1) from dk_at dq38_2 (i := 9) rfl), ?_⟩
  refine List.forall_mem_cons.mpr ⟨ok_aload_n C (show decode cX11_days 17 = .ok (.aload_n 0, 1) from dk_at dq38_2 (i := 10) rfl) rfl rfl, ?_⟩
  refine List.forall_mem_cons.mpr ⟨ok_getf C (wi_X11) rfl (by decide) kw_1186 (show decode cX11_days 18 = .ok (.getfield 33, 3) from dk_at dq38_2 (i := 11) rfl) rfl, ?_⟩
  refine List.forall_mem_cons.mpr ⟨ok_bipush C (show decode cX11_days 21 = .ok (.bipush 120, 2) from dk_at dq38_2 (i := 12) rfl) (by decide) rfl, ?_⟩
  refine List.forall_mem_cons.mpr ⟨ok_iaload C (show decode cX11_days 23 = .ok (.iaload, 1) from dk_at dq38_2 (i := 13) rfl) rfl, ?_⟩
  refine List.forall_mem_cons.mpr ⟨ok_sipush C (show decode cX11_days 24 = .ok (.sipush 400, 3) from dk_at dq38_2 (i := 14) rfl) (by decide) rfl, ?_⟩
  refine List.forall_mem_cons.mpr ⟨ok_icmpne C (show decode cX11_days 27 = .ok (.if_icmp .ne 5, 3) from dk_at dq38_2 (i := 15) rfl) (tg := 32) (by decide) rfl rfl, ?_⟩
  refine List.forall_mem_cons.mpr ⟨ok_iconst C (show decode cX11_days 30 = .ok (.iconst 0, 1) from dk_at dq38_3 (i := 0) rfl) (by decide) rfl, ?_⟩
  refine List.forall_mem_cons.mpr ⟨ok_ret C rfl (show decode cX11_days 31 = .ok (.ireturn, 1) from dk_at dq38_3 (i := 1) rfl), ?_⟩
  refine List.forall_mem_cons.mpr ⟨ok_aload_n C (show decode cX11_days 32 = .ok (.aload_n 0, 1) from dk_at dq38_3 (i := 2) rfl) rfl rfl, ?_⟩
  refine List.forall_mem_cons.mpr ⟨ok_callV C h_X11_keep ⟨rfl, rfl⟩ rfl kw_1481 kw_1478 kw_1480 kp_78 kw_11 rfl ds_X11_keep ⟨by decide, by decide⟩ (show decode cX11_days 33 = .ok (.invokevirtual 304, 3) from dk_at dq38_3 (i := 3) rfl) rfl, ?_⟩
  refine List.forall_mem_cons.mpr ⟨ok_aload_n C (show decode cX11_days 36 = .ok (.aload_n 0, 1) from dk_at dq38_3 (i := 4) rfl) rfl rfl, ?_⟩
  refine List.forall_mem_cons.mpr ⟨ok_iload_n C (show decode cX11_days 37 = .ok (.iload_n 1, 1) from dk_at dq38_3 (i := 5) rfl) rfl rfl, ?_⟩
  refine List.forall_mem_cons.mpr ⟨ok_callV C h_X11_goesOn ⟨rfl, rfl⟩ rfl kw_1509 kw_1506 kw_1508 kp_81 kw_11 rfl ds_X11_goesOn ⟨by decide, by decide⟩ (show decode cX11_days 38 = .ok (.invokevirtual 314, 3) from dk_at dq38_3 (i := 6) rfl) rfl, ?_⟩
  refine List.forall_mem_cons.mpr ⟨ok_ret C rfl (show decode cX11_days 41 = .ok (.ireturn, 1) from dk_at dq38_3 (i := 7) rfl), ?_⟩
  exact fun _ h => absurd h List.not_mem_nil
def L_X11_undo : List (Nat × ab_A) := [
  (0, ab_nx 1 (ab_aload 0)),
  (1, ab_nx 2 (ab_lit (.int 0))),
  (2, ab_nx 5 (ab_putf 11 0 0)),
  (5, ab_nx 6 (ab_aload 0)),
  (6, ab_nx 9 (ab_getf 11 25)),
  (9, ab_if 12 14 (fun x => !decide (x = 0))),
  (12, ab_nx 13 (ab_lit (.int (-1)))),
  (13, ab_ret 0 0),
  (14, ab_nx 15 (ab_aload 0)),
  (15, ab_nx 16 ab_dup),
  (16, ab_nx 19 (ab_getf 11 25)),
  (19, ab_nx 20 (ab_lit (.int 1))),
  (20, ab_nx 21 (ab_bin (fun x y => x - y))),
  (21, ab_nx 24 (ab_putf 11 25 0)),
  (24, ab_nx 25 (ab_lit (.int 0))),
  (25, ab_nx 26 (ab_istore 1)),
  (26, ab_nx 27 (ab_iload 1)),
  (27, ab_nx 30 (ab_lit (.int 133))),
  (30, ab_icmp 33 63 (fun x y => decide (y ≤ x))),
  (33, ab_nx 34 (ab_aload 0)),
  (34, ab_nx 37 (ab_getf 11 6)),
  (37, ab_nx 39 (ab_lit (.int 120))),
  (39, ab_nx 40 (ab_iload 1)),
  (40, ab_nx 41 (ab_bin (fun x y => x + y))),
  (41, ab_nx 42 (ab_aload 0)),
  (42, ab_nx 45 (ab_getf 11 23)),
  (45, ab_nx 48 (ab_lit (.int 133))),
  (48, ab_nx 49 (ab_aload 0)),
  (49, ab_nx 52 (ab_getf 11 25)),
  (52, ab_nx 53 (ab_bin (fun x y => x * y))),
  (53, ab_nx 54 (ab_iload 1)),
  (54, ab_nx 55 (ab_bin (fun x y => x + y))),
  (55, ab_nx 56 (ab_ald 1)),
  (56, ab_nx 57 (ab_ast 1)),
  (57, ab_nx 60 (ab_iinc 1 1)),
  (60, ab_goto 26),
  (63, ab_nx 64 (ab_aload 0)),
  (64, ab_nx 67 (ab_getf 11 25)),
  (67, ab_ret 0 0)]
set_option maxRecDepth 100000 in
theorem dq38_4 : ([(0, .aload_n 0, 1), (1, .iconst 0, 1), (2, .putfield 1, 3), (5, .aload_n 0, 1), (6, .getfield 236, 3), (9, .ifCond .ne 5, 3), (12, .iconst (-1), 1), (13, .ireturn, 1), (14, .aload_n 0, 1), (15, .dup, 1), (16, .getfield 236, 3), (19, .iconst 1, 1), (20, .isub, 1), (21, .putfield 236, 3), (24, .iconst 0, 1), (25, .istore_n 1, 1)] : List (Nat × Instr × Nat)).all (fun q => decide (decode cX11_undo q.1 = .ok q.2)) = true := by decide +kernel
set_option maxRecDepth 100000 in
theorem dq38_5 : ([(26, .iload_n 1, 1), (27, .sipush 133, 3), (30, .if_icmp .ge 33, 3), (33, .aload_n 0, 1), (34, .getfield 33, 3), (37, .bipush 120, 2), (39, .iload_n 1, 1), (40, .iadd, 1), (41, .aload_n 0, 1), (42, .getfield 53, 3), (45, .sipush 133, 3), (48, .aload_n 0, 1), (49, .getfield 236, 3), (52, .imul, 1), (53, .iload_n 1, 1), (54, .iadd, 1)] : List (Nat × Instr × Nat)).all (fun q => decide (decode cX11_undo q.1 = .ok q.2)) = true := by decide +kernel
set_option maxRecDepth 100000 in
theorem dq38_6 : ([(55, .iaload, 1), (56, .iastore, 1), (57, .iinc 1 1, 3), (60, .goto (-34), 3), (63, .aload_n 0, 1), (64, .getfield 236, 3), (67, .ireturn, 1)] : List (Nat × Instr × Nat)).all (fun q => decide (decode cX11_undo q.1 = .ok q.2)) = true := by decide +kernel
set_option maxRecDepth 100000 in
set_option maxHeartbeats 4000000 in
theorem M_X11_undo {l : Launch} {b : ab_B} {D : va_G} {cA : Nat → ClassId} : ab_M l b D ab_cl cA (ab_E0 b) yX11_undo (Cond.code yX11_undo cX11_undo 2 (some .int) :: ab_G) ({ frames := 1, cells := 0, slots := 0, locals := 100 } : Room) (ab_X (ab_T L_X11_undo) 2) := by
  refine ab_meth (ret := (some .int)) L_X11_undo (by decide) rfl fun p e R s m args below meth c o C => ?_
  unfold L_X11_undo
  refine List.forall_mem_cons.mpr ⟨ok_aload_n C (show decode cX11_undo 0 = .ok (.aload_n 0, 1) from dk_at dq38_4 (i := 0) rfl) rfl rfl, ?_⟩
  refine List.forall_mem_cons.mpr ⟨ok_iconst C (show decode cX11_undo 1 = .ok (.iconst 0, 1) from dk_at dq38_4 (i := 1) rfl) (by decide) rfl, ?_⟩
  refine List.forall_mem_cons.mpr ⟨ok_putf C (wi_X11) tyX11 tyX11_ok nmX11 rfl (by decide) kw_1180 (Or.inl rfl) (Or.inl ⟨rfl, rfl⟩) (show decode cX11_undo 2 = .ok (.putfield 1, 3) from dk_at dq38_4 (i := 2) rfl) rfl, ?_⟩
  refine List.forall_mem_cons.mpr ⟨ok_aload_n C (show decode cX11_undo 5 = .ok (.aload_n 0, 1) from dk_at dq38_4 (i := 3) rfl) rfl rfl, ?_⟩
  refine List.forall_mem_cons.mpr ⟨ok_getf C (wi_X11) rfl (by decide) kw_1205 (show decode cX11_undo 6 = .ok (.getfield 236, 3) from dk_at dq38_4 (i := 4) rfl) rfl, ?_⟩
  refine List.forall_mem_cons.mpr ⟨ok_ifne C (show decode cX11_undo 9 = .ok (.ifCond .ne 5, 3) from dk_at dq38_4 (i := 5) rfl) (tg := 14) (by decide) rfl rfl, ?_⟩
  refine List.forall_mem_cons.mpr ⟨ok_iconst C (show decode cX11_undo 12 = .ok (.iconst (-1), 1) from dk_at dq38_4 (i := 6) rfl) (by decide) rfl, ?_⟩
  refine List.forall_mem_cons.mpr ⟨ok_ret C rfl (show decode cX11_undo 13 = .ok (.ireturn, 1) from dk_at dq38_4 (i := 7) rfl), ?_⟩
  refine List.forall_mem_cons.mpr ⟨ok_aload_n C (show decode cX11_undo 14 = .ok (.aload_n 0, 1) from dk_at dq38_4 (i := 8) rfl) rfl rfl, ?_⟩
  refine List.forall_mem_cons.mpr ⟨ok_dup C (show decode cX11_undo 15 = .ok (.dup, 1) from dk_at dq38_4 (i := 9) rfl) rfl, ?_⟩
  refine List.forall_mem_cons.mpr ⟨ok_getf C (wi_X11) rfl (by decide) kw_1205 (show decode cX11_undo 16 = .ok (.getfield 236, 3) from dk_at dq38_4 (i := 10) rfl) rfl, ?_⟩
  refine List.forall_mem_cons.mpr ⟨ok_iconst C (show decode cX11_undo 19 = .ok (.iconst 1, 1) from dk_at dq38_4 (i := 11) rfl) (by decide) rfl, ?_⟩
  refine List.forall_mem_cons.mpr ⟨ok_isub C (show decode cX11_undo 20 = .ok (.isub, 1) from dk_at dq38_4 (i := 12) rfl) rfl, ?_⟩
  refine List.forall_mem_cons.mpr ⟨ok_putf C (wi_X11) tyX11 tyX11_ok nmX11 rfl (by decide) kw_1205 (Or.inl rfl) (Or.inl ⟨rfl, rfl⟩) (show decode cX11_undo 21 = .ok (.putfield 236, 3) from dk_at dq38_4 (i := 13) rfl) rfl, ?_⟩
  refine List.forall_mem_cons.mpr ⟨ok_iconst C (show decode cX11_undo 24 = .ok (.iconst 0, 1) from dk_at dq38_4 (i := 14) rfl) (by decide) rfl, ?_⟩
  refine List.forall_mem_cons.mpr ⟨ok_istore_n C (show decode cX11_undo 25 = .ok (.istore_n 1, 1) from dk_at dq38_4 (i := 15) rfl) rfl (by decide) rfl, ?_⟩
  refine List.forall_mem_cons.mpr ⟨ok_iload_n C (show decode cX11_undo 26 = .ok (.iload_n 1, 1) from dk_at dq38_5 (i := 0) rfl) rfl rfl, ?_⟩
  refine List.forall_mem_cons.mpr ⟨ok_sipush C (show decode cX11_undo 27 = .ok (.sipush 133, 3) from dk_at dq38_5 (i := 1) rfl) (by decide) rfl, ?_⟩
  refine List.forall_mem_cons.mpr ⟨ok_icmpge C (show decode cX11_undo 30 = .ok (.if_icmp .ge 33, 3) from dk_at dq38_5 (i := 2) rfl) (tg := 63) (by decide) rfl rfl, ?_⟩
  refine List.forall_mem_cons.mpr ⟨ok_aload_n C (show decode cX11_undo 33 = .ok (.aload_n 0, 1) from dk_at dq38_5 (i := 3) rfl) rfl rfl, ?_⟩
  refine List.forall_mem_cons.mpr ⟨ok_getf C (wi_X11) rfl (by decide) kw_1186 (show decode cX11_undo 34 = .ok (.getfield 33, 3) from dk_at dq38_5 (i := 4) rfl) rfl, ?_⟩
  refine List.forall_mem_cons.mpr ⟨ok_bipush C (show decode cX11_undo 37 = .ok (.bipush 120, 2) from dk_at dq38_5 (i := 5) rfl) (by decide) rfl, ?_⟩
  refine List.forall_mem_cons.mpr ⟨ok_iload_n C (show decode cX11_undo 39 = .ok (.iload_n 1, 1) from dk_at dq38_5 (i := 6) rfl) rfl rfl, ?_⟩
  refine List.forall_mem_cons.mpr ⟨ok_iadd C (show decode cX11_undo 40 = .ok (.iadd, 1) from dk_at dq38_5 (i := 7) rfl) rfl, ?_⟩
  refine List.forall_mem_cons.mpr ⟨ok_aload_n C (show decode cX11_undo 41 = .ok (.aload_n 0, 1) from dk_at dq38_5 (i := 8) rfl) rfl rfl, ?_⟩
  refine List.forall_mem_cons.mpr ⟨ok_getf C (wi_X11) rfl (by decide) kw_1203 (show decode cX11_undo 42 = .ok (.getfield 53, 3) from dk_at dq38_5 (i := 9) rfl) rfl, ?_⟩
  refine List.forall_mem_cons.mpr ⟨ok_sipush C (show decode cX11_undo 45 = .ok (.sipush 133, 3) from dk_at dq38_5 (i := 10) rfl) (by decide) rfl, ?_⟩
  refine List.forall_mem_cons.mpr ⟨ok_aload_n C (show decode cX11_undo 48 = .ok (.aload_n 0, 1) from dk_at dq38_5 (i := 11) rfl) rfl rfl, ?_⟩
  refine List.forall_mem_cons.mpr ⟨ok_getf C (wi_X11) rfl (by decide) kw_1205 (show decode cX11_undo 49 = .ok (.getfield 236, 3) from dk_at dq38_5 (i := 12) rfl) rfl, ?_⟩
  refine List.forall_mem_cons.mpr ⟨ok_imul C (show decode cX11_undo 52 = .ok (.imul, 1) from dk_at dq38_5 (i := 13) rfl) rfl, ?_⟩
  refine List.forall_mem_cons.mpr ⟨ok_iload_n C (show decode cX11_undo 53 = .ok (.iload_n 1, 1) from dk_at dq38_5 (i := 14) rfl) rfl rfl, ?_⟩
  refine List.forall_mem_cons.mpr ⟨ok_iadd C (show decode cX11_undo 54 = .ok (.iadd, 1) from dk_at dq38_5 (i := 15) rfl) rfl, ?_⟩
  refine List.forall_mem_cons.mpr ⟨ok_iaload C (show decode cX11_undo 55 = .ok (.iaload, 1) from dk_at dq38_6 (i := 0) rfl) rfl, ?_⟩
  refine List.forall_mem_cons.mpr ⟨ok_iastore C (show decode cX11_undo 56 = .ok (.iastore, 1) from dk_at dq38_6 (i := 1) rfl) rfl, ?_⟩
  refine List.forall_mem_cons.mpr ⟨ok_iinc C (show decode cX11_undo 57 = .ok (.iinc 1 1, 3) from dk_at dq38_6 (i := 2) rfl) (by decide) (by decide) rfl, ?_⟩
  refine List.forall_mem_cons.mpr ⟨ok_goto C (show decode cX11_undo 60 = .ok (.goto (-34), 3) from dk_at dq38_6 (i := 3) rfl) (tg := 26) (by decide) rfl, ?_⟩
  refine List.forall_mem_cons.mpr ⟨ok_aload_n C (show decode cX11_undo 63 = .ok (.aload_n 0, 1) from dk_at dq38_6 (i := 4) rfl) rfl rfl, ?_⟩
  refine List.forall_mem_cons.mpr ⟨ok_getf C (wi_X11) rfl (by decide) kw_1205 (show decode cX11_undo 64 = .ok (.getfield 236, 3) from dk_at dq38_6 (i := 5) rfl) rfl, ?_⟩
  refine List.forall_mem_cons.mpr ⟨ok_ret C rfl (show decode cX11_undo 67 = .ok (.ireturn, 1) from dk_at dq38_6 (i := 6) rfl), ?_⟩
  exact fun _ h => absurd h List.not_mem_nil
def L_X11_tries : List (Nat × ab_A) := [
  (0, ab_nx 1 (ab_lit (.int 0))),
  (1, ab_nx 2 (ab_istore 1)),
  (2, ab_nx 3 (ab_iload 1)),
  (3, ab_nx 6 (ab_lit (.int 133))),
  (6, ab_icmp 9 30 (fun x y => decide (y ≤ x))),
  (9, ab_nx 10 (ab_aload 0)),
  (10, ab_nx 13 (ab_getf 11 24)),
  (13, ab_nx 14 (ab_iload 1)),
  (14, ab_nx 15 (ab_aload 0)),
  (15, ab_nx 18 (ab_getf 11 6)),
  (18, ab_nx 20 (ab_lit (.int 120))),
  (20, ab_nx 21 (ab_iload 1)),
  (21, ab_nx 22 (ab_bin (fun x y => x + y))),
  (22, ab_nx 23 (ab_ald 1)),
  (23, ab_nx 24 (ab_ast 1)),
  (24, ab_nx 27 (ab_iinc 1 1)),
  (27, ab_goto 2),
  (30, ab_vret 0 0)]
set_option maxRecDepth 100000 in
theorem dq38_7 : ([(0, .iconst 0, 1), (1, .istore_n 1, 1), (2, .iload_n 1, 1), (3, .sipush 133, 3), (6, .if_icmp .ge 24, 3), (9, .aload_n 0, 1), (10, .getfield 56, 3), (13, .iload_n 1, 1), (14, .aload_n 0, 1), (15, .getfield 33, 3), (18, .bipush 120, 2), (20, .iload_n 1, 1), (21, .iadd, 1), (22, .iaload, 1), (23, .iastore, 1), (24, .iinc 1 1, 3)] : List (Nat × Instr × Nat)).all (fun q => decide (decode cX11_tries q.1 = .ok q.2)) = true := by decide +kernel
set_option maxRecDepth 100000 in
theorem dq38_8 : ([(27, .goto (-25), 3), (30, .return_, 1)] : List (Nat × Instr × Nat)).all (fun q => decide (decode cX11_tries q.1 = .ok q.2)) = true := by decide +kernel
set_option maxRecDepth 100000 in
set_option maxHeartbeats 4000000 in
theorem M_X11_tries {l : Launch} {b : ab_B} {D : va_G} {cA : Nat → ClassId} : ab_M l b D ab_cl cA (ab_E0 b) yX11_tries (Cond.code yX11_tries cX11_tries 2 none :: ab_G) ({ frames := 1, cells := 0, slots := 0, locals := 100 } : Room) (ab_X (ab_T L_X11_tries) 2) := by
  refine ab_meth (ret := none) L_X11_tries (by decide) rfl fun p e R s m args below meth c o C => ?_
  unfold L_X11_tries
  refine List.forall_mem_cons.mpr ⟨ok_iconst C (show decode cX11_tries 0 = .ok (.iconst 0, 1) from dk_at dq38_7 (i := 0) rfl) (by decide) rfl, ?_⟩
  refine List.forall_mem_cons.mpr ⟨ok_istore_n C (show decode cX11_tries 1 = .ok (.istore_n 1, 1) from dk_at dq38_7 (i := 1) rfl) rfl (by decide) rfl, ?_⟩
  refine List.forall_mem_cons.mpr ⟨ok_iload_n C (show decode cX11_tries 2 = .ok (.iload_n 1, 1) from dk_at dq38_7 (i := 2) rfl) rfl rfl, ?_⟩
  refine List.forall_mem_cons.mpr ⟨ok_sipush C (show decode cX11_tries 3 = .ok (.sipush 133, 3) from dk_at dq38_7 (i := 3) rfl) (by decide) rfl, ?_⟩
  refine List.forall_mem_cons.mpr ⟨ok_icmpge C (show decode cX11_tries 6 = .ok (.if_icmp .ge 24, 3) from dk_at dq38_7 (i := 4) rfl) (tg := 30) (by decide) rfl rfl, ?_⟩
  refine List.forall_mem_cons.mpr ⟨ok_aload_n C (show decode cX11_tries 9 = .ok (.aload_n 0, 1) from dk_at dq38_7 (i := 5) rfl) rfl rfl, ?_⟩
  refine List.forall_mem_cons.mpr ⟨ok_getf C (wi_X11) rfl (by decide) kw_1204 (show decode cX11_tries 10 = .ok (.getfield 56, 3) from dk_at dq38_7 (i := 6) rfl) rfl, ?_⟩
  refine List.forall_mem_cons.mpr ⟨ok_iload_n C (show decode cX11_tries 13 = .ok (.iload_n 1, 1) from dk_at dq38_7 (i := 7) rfl) rfl rfl, ?_⟩
  refine List.forall_mem_cons.mpr ⟨ok_aload_n C (show decode cX11_tries 14 = .ok (.aload_n 0, 1) from dk_at dq38_7 (i := 8) rfl) rfl rfl, ?_⟩
  refine List.forall_mem_cons.mpr ⟨ok_getf C (wi_X11) rfl (by decide) kw_1186 (show decode cX11_tries 15 = .ok (.getfield 33, 3) from dk_at dq38_7 (i := 9) rfl) rfl, ?_⟩
  refine List.forall_mem_cons.mpr ⟨ok_bipush C (show decode cX11_tries 18 = .ok (.bipush 120, 2) from dk_at dq38_7 (i := 10) rfl) (by decide) rfl, ?_⟩
  refine List.forall_mem_cons.mpr ⟨ok_iload_n C (show decode cX11_tries 20 = .ok (.iload_n 1, 1) from dk_at dq38_7 (i := 11) rfl) rfl rfl, ?_⟩
  refine List.forall_mem_cons.mpr ⟨ok_iadd C (show decode cX11_tries 21 = .ok (.iadd, 1) from dk_at dq38_7 (i := 12) rfl) rfl, ?_⟩
  refine List.forall_mem_cons.mpr ⟨ok_iaload C (show decode cX11_tries 22 = .ok (.iaload, 1) from dk_at dq38_7 (i := 13) rfl) rfl, ?_⟩
  refine List.forall_mem_cons.mpr ⟨ok_iastore C (show decode cX11_tries 23 = .ok (.iastore, 1) from dk_at dq38_7 (i := 14) rfl) rfl, ?_⟩
  refine List.forall_mem_cons.mpr ⟨ok_iinc C (show decode cX11_tries 24 = .ok (.iinc 1 1, 3) from dk_at dq38_7 (i := 15) rfl) (by decide) (by decide) rfl, ?_⟩
  refine List.forall_mem_cons.mpr ⟨ok_goto C (show decode cX11_tries 27 = .ok (.goto (-25), 3) from dk_at dq38_8 (i := 0) rfl) (tg := 2) (by decide) rfl, ?_⟩
  refine List.forall_mem_cons.mpr ⟨ok_vret C rfl (show decode cX11_tries 30 = .ok (.return_, 1) from dk_at dq38_8 (i := 1) rfl), ?_⟩
  exact fun _ h => absurd h List.not_mem_nil
def L_X11_back : List (Nat × ab_A) := [
  (0, ab_nx 1 (ab_lit (.int 0))),
  (1, ab_nx 2 (ab_istore 1)),
  (2, ab_nx 3 (ab_iload 1)),
  (3, ab_nx 6 (ab_lit (.int 133))),
  (6, ab_icmp 9 30 (fun x y => decide (y ≤ x))),
  (9, ab_nx 10 (ab_aload 0)),
  (10, ab_nx 13 (ab_getf 11 6)),
  (13, ab_nx 15 (ab_lit (.int 120))),
  (15, ab_nx 16 (ab_iload 1)),
  (16, ab_nx 17 (ab_bin (fun x y => x + y))),
  (17, ab_nx 18 (ab_aload 0)),
  (18, ab_nx 21 (ab_getf 11 24)),
  (21, ab_nx 22 (ab_iload 1)),
  (22, ab_nx 23 (ab_ald 1)),
  (23, ab_nx 24 (ab_ast 1)),
  (24, ab_nx 27 (ab_iinc 1 1)),
  (27, ab_goto 2),
  (30, ab_vret 0 0)]
set_option maxRecDepth 100000 in
theorem dq38_9 : ([(0, .iconst 0, 1), (1, .istore_n 1, 1), (2, .iload_n 1, 1), (3, .sipush 133, 3), (6, .if_icmp .ge 24, 3), (9, .aload_n 0, 1), (10, .getfield 33, 3), (13, .bipush 120, 2), (15, .iload_n 1, 1), (16, .iadd, 1), (17, .aload_n 0, 1), (18, .getfield 56, 3), (21, .iload_n 1, 1), (22, .iaload, 1), (23, .iastore, 1), (24, .iinc 1 1, 3)] : List (Nat × Instr × Nat)).all (fun q => decide (decode cX11_back q.1 = .ok q.2)) = true := by decide +kernel
set_option maxRecDepth 100000 in
theorem dq38_10 : ([(27, .goto (-25), 3), (30, .return_, 1)] : List (Nat × Instr × Nat)).all (fun q => decide (decode cX11_back q.1 = .ok q.2)) = true := by decide +kernel
set_option maxRecDepth 100000 in
set_option maxHeartbeats 4000000 in
theorem M_X11_back {l : Launch} {b : ab_B} {D : va_G} {cA : Nat → ClassId} : ab_M l b D ab_cl cA (ab_E0 b) yX11_back (Cond.code yX11_back cX11_back 2 none :: ab_G) ({ frames := 1, cells := 0, slots := 0, locals := 100 } : Room) (ab_X (ab_T L_X11_back) 2) := by
  refine ab_meth (ret := none) L_X11_back (by decide) rfl fun p e R s m args below meth c o C => ?_
  unfold L_X11_back
  refine List.forall_mem_cons.mpr ⟨ok_iconst C (show decode cX11_back 0 = .ok (.iconst 0, 1) from dk_at dq38_9 (i := 0) rfl) (by decide) rfl, ?_⟩
  refine List.forall_mem_cons.mpr ⟨ok_istore_n C (show decode cX11_back 1 = .ok (.istore_n 1, 1) from dk_at dq38_9 (i := 1) rfl) rfl (by decide) rfl, ?_⟩
  refine List.forall_mem_cons.mpr ⟨ok_iload_n C (show decode cX11_back 2 = .ok (.iload_n 1, 1) from dk_at dq38_9 (i := 2) rfl) rfl rfl, ?_⟩
  refine List.forall_mem_cons.mpr ⟨ok_sipush C (show decode cX11_back 3 = .ok (.sipush 133, 3) from dk_at dq38_9 (i := 3) rfl) (by decide) rfl, ?_⟩
  refine List.forall_mem_cons.mpr ⟨ok_icmpge C (show decode cX11_back 6 = .ok (.if_icmp .ge 24, 3) from dk_at dq38_9 (i := 4) rfl) (tg := 30) (by decide) rfl rfl, ?_⟩
  refine List.forall_mem_cons.mpr ⟨ok_aload_n C (show decode cX11_back 9 = .ok (.aload_n 0, 1) from dk_at dq38_9 (i := 5) rfl) rfl rfl, ?_⟩
  refine List.forall_mem_cons.mpr ⟨ok_getf C (wi_X11) rfl (by decide) kw_1186 (show decode cX11_back 10 = .ok (.getfield 33, 3) from dk_at dq38_9 (i := 6) rfl) rfl, ?_⟩
  refine List.forall_mem_cons.mpr ⟨ok_bipush C (show decode cX11_back 13 = .ok (.bipush 120, 2) from dk_at dq38_9 (i := 7) rfl) (by decide) rfl, ?_⟩
  refine List.forall_mem_cons.mpr ⟨ok_iload_n C (show decode cX11_back 15 = .ok (.iload_n 1, 1) from dk_at dq38_9 (i := 8) rfl) rfl rfl, ?_⟩
  refine List.forall_mem_cons.mpr ⟨ok_iadd C (show decode cX11_back 16 = .ok (.iadd, 1) from dk_at dq38_9 (i := 9) rfl) rfl, ?_⟩
  refine List.forall_mem_cons.mpr ⟨ok_aload_n C (show decode cX11_back 17 = .ok (.aload_n 0, 1) from dk_at dq38_9 (i := 10) rfl) rfl rfl, ?_⟩
  refine List.forall_mem_cons.mpr ⟨ok_getf C (wi_X11) rfl (by decide) kw_1204 (show decode cX11_back 18 = .ok (.getfield 56, 3) from dk_at dq38_9 (i := 11) rfl) rfl, ?_⟩
  refine List.forall_mem_cons.mpr ⟨ok_iload_n C (show decode cX11_back 21 = .ok (.iload_n 1, 1) from dk_at dq38_9 (i := 12) rfl) rfl rfl, ?_⟩
  refine List.forall_mem_cons.mpr ⟨ok_iaload C (show decode cX11_back 22 = .ok (.iaload, 1) from dk_at dq38_9 (i := 13) rfl) rfl, ?_⟩
  refine List.forall_mem_cons.mpr ⟨ok_iastore C (show decode cX11_back 23 = .ok (.iastore, 1) from dk_at dq38_9 (i := 14) rfl) rfl, ?_⟩
  refine List.forall_mem_cons.mpr ⟨ok_iinc C (show decode cX11_back 24 = .ok (.iinc 1 1, 3) from dk_at dq38_9 (i := 15) rfl) (by decide) (by decide) rfl, ?_⟩
  refine List.forall_mem_cons.mpr ⟨ok_goto C (show decode cX11_back 27 = .ok (.goto (-25), 3) from dk_at dq38_10 (i := 0) rfl) (tg := 2) (by decide) rfl, ?_⟩
  refine List.forall_mem_cons.mpr ⟨ok_vret C rfl (show decode cX11_back 30 = .ok (.return_, 1) from dk_at dq38_10 (i := 1) rfl), ?_⟩
  exact fun _ h => absurd h List.not_mem_nil
def L_X11_lacks (f_X11_isShore : List Value → ab_H → Option ab_O) (f_X11_lackOf : List Value → ab_H → Option ab_O) : List (Nat × ab_A) := [
  (0, ab_nx 1 (ab_aload 0)),
  (1, ab_nx 2 (ab_lit (.int 0))),
  (2, ab_nx 5 (ab_putf 11 0 0)),
  (5, ab_nx 6 (ab_aload 0)),
  (6, ab_nx 7 (ab_iload 1)),
  (7, ab_nx 10 (ab_callV 2 11 f_X11_isShore 0 0 0 0)),
  (10, ab_if 13 15 (fun x => !decide (x = 0))),
  (13, ab_nx 14 (ab_lit (.int (-1)))),
  (14, ab_ret 0 0),
  (15, ab_nx 16 (ab_lit (.int 0))),
  (16, ab_nx 17 (ab_istore 2)),
  (17, ab_nx 18 (ab_lit (.int 0))),
  (18, ab_nx 19 (ab_istore 3)),
  (19, ab_nx 20 (ab_iload 3)),
  (20, ab_nx 21 (ab_aload 0)),
  (21, ab_nx 24 (ab_getf 11 6)),
  (24, ab_nx 25 (ab_lit (.int 0))),
  (25, ab_nx 26 (ab_ald 1)),
  (26, ab_icmp 29 54 (fun x y => decide (y ≤ x))),
  (29, ab_nx 30 (ab_iload 2)),
  (30, ab_nx 31 (ab_aload 0)),
  (31, ab_nx 32 (ab_iload 3)),
  (32, ab_nx 33 (ab_iload 1)),
  (33, ab_nx 36 (ab_callV 3 11 f_X11_lackOf 0 0 0 0)),
  (36, ab_if 39 45 (fun x => decide (x ≤ 0))),
  (39, ab_nx 40 (ab_lit (.int 1))),
  (40, ab_nx 41 (ab_iload 3)),
  (41, ab_nx 42 (ab_bin (fun x y => x <<< (y &&& 31)))),
  (42, ab_goto 46),
  (45, ab_nx 46 (ab_lit (.int 0))),
  (46, ab_nx 47 (ab_bin (fun x y => x ||| y))),
  (47, ab_nx 48 (ab_istore 2)),
  (48, ab_nx 51 (ab_iinc 3 1)),
  (51, ab_goto 19),
  (54, ab_nx 55 (ab_iload 2)),
  (55, ab_ret 0 0)]
set_option maxRecDepth 100000 in
theorem dq38_11 : ([(0, .aload_n 0, 1), (1, .iconst 0, 1), (2, .putfield 1, 3), (5, .aload_n 0, 1), (6, .iload_n 1, 1), (7, .invokevirtual 242, 3), (10, .ifCond .ne 5, 3), (13, .iconst (-1), 1), (14, .ireturn, 1), (15, .iconst 0, 1), (16, .istore_n 2, 1), (17, .iconst 0, 1), (18, .istore_n 3, 1), (19, .iload_n 3, 1), (20, .aload_n 0, 1), (21, .getfield 33, 3)] : List (Nat × Instr × Nat)).all (fun q => decide (decode cX11_lacks q.1 = .ok q.2)) = true := by decide +kernel
set_option maxRecDepth 100000 in
theorem dq38_12 : ([(24, .iconst 0, 1), (25, .iaload, 1), (26, .if_icmp .ge 28, 3), (29, .iload_n 2, 1), (30, .aload_n 0, 1), (31, .iload_n 3, 1), (32, .iload_n 1, 1), (33, .invokevirtual 248, 3), (36, .ifCond .le 9, 3), (39, .iconst 1, 1), (40, .iload_n 3, 1), (41, .ishl, 1), (42, .goto 4, 3), (45, .iconst 0, 1), (46, .ior, 1), (47, .istore_n 2, 1)] : List (Nat × Instr × Nat)).all (fun q => decide (decode cX11_lacks q.1 = .ok q.2)) = true := by decide +kernel
set_option maxRecDepth 100000 in
theorem dq38_13 : ([(48, .iinc 3 1, 3), (51, .goto (-32), 3), (54, .iload_n 2, 1), (55, .ireturn, 1)] : List (Nat × Instr × Nat)).all (fun q => decide (decode cX11_lacks q.1 = .ok q.2)) = true := by decide +kernel
set_option maxRecDepth 100000 in
set_option maxHeartbeats 4000000 in
theorem M_X11_lacks {l : Launch} {b : ab_B} {D : va_G} {cA : Nat → ClassId} {f_X11_isShore : List Value → ab_H → Option ab_O} (h_X11_isShore : ab_M l b D ab_cl cA (ab_E0 b) yX11_isShore (Cond.code yX11_isShore cX11_isShore 2 (some .boolean) :: ab_G) ({ frames := 2, cells := 0, slots := 0, locals := 200 } : Room) f_X11_isShore) {f_X11_lackOf : List Value → ab_H → Option ab_O} (h_X11_lackOf : ab_M l b D ab_cl cA (ab_E0 b) yX11_lackOf (Cond.code yX11_lackOf cX11_lackOf 4 (some .int) :: ab_G) ({ frames := 2, cells := 0, slots := 0, locals := 200 } : Room) f_X11_lackOf) : ab_M l b D ab_cl cA (ab_E0 b) yX11_lacks (Cond.code yX11_lacks cX11_lacks 4 (some .int) :: ab_G) ({ frames := 3, cells := 0, slots := 0, locals := 300 } : Room) (ab_X (ab_T (L_X11_lacks f_X11_isShore f_X11_lackOf)) 4) := by
  refine ab_meth (ret := (some .int)) (L_X11_lacks f_X11_isShore f_X11_lackOf) (by decide) rfl fun p e R s m args below meth c o C => ?_
  unfold L_X11_lacks
  refine List.forall_mem_cons.mpr ⟨ok_aload_n C (show decode cX11_lacks 0 = .ok (.aload_n 0, 1) from dk_at dq38_11 (i := 0) rfl) rfl rfl, ?_⟩
  refine List.forall_mem_cons.mpr ⟨ok_iconst C (show decode cX11_lacks 1 = .ok (.iconst 0, 1) from dk_at dq38_11 (i := 1) rfl) (by decide) rfl, ?_⟩
  refine List.forall_mem_cons.mpr ⟨ok_putf C (wi_X11) tyX11 tyX11_ok nmX11 rfl (by decide) kw_1180 (Or.inl rfl) (Or.inl ⟨rfl, rfl⟩) (show decode cX11_lacks 2 = .ok (.putfield 1, 3) from dk_at dq38_11 (i := 2) rfl) rfl, ?_⟩
  refine List.forall_mem_cons.mpr ⟨ok_aload_n C (show decode cX11_lacks 5 = .ok (.aload_n 0, 1) from dk_at dq38_11 (i := 3) rfl) rfl rfl, ?_⟩
  refine List.forall_mem_cons.mpr ⟨ok_iload_n C (show decode cX11_lacks 6 = .ok (.iload_n 1, 1) from dk_at dq38_11 (i := 4) rfl) rfl rfl, ?_⟩
  refine List.forall_mem_cons.mpr ⟨ok_callV C h_X11_isShore ⟨rfl, rfl⟩ rfl kw_1410 kw_1407 kw_1409 kp_66 kw_11 rfl ds_X11_isShore ⟨by decide, by decide⟩ (show decode cX11_lacks 7 = .ok (.invokevirtual 242, 3) from dk_at dq38_11 (i := 5) rfl) rfl, ?_⟩
  refine List.forall_mem_cons.mpr ⟨ok_ifne C (show decode cX11_lacks 10 = .ok (.ifCond .ne 5, 3) from dk_at dq38_11 (i := 6) rfl) (tg := 15) (by decide) rfl rfl, ?_⟩
  refine List.forall_mem_cons.mpr ⟨ok_iconst C (show decode cX11_lacks 13 = .ok (.iconst (-1), 1) from dk_at dq38_11 (i := 7) rfl) (by decide) rfl, ?_⟩
  refine List.forall_mem_cons.mpr ⟨ok_ret C rfl (show decode cX11_lacks 14 = .ok (.ireturn, 1) from dk_at dq38_11 (i := 8) rfl), ?_⟩
  refine List.forall_mem_cons.mpr ⟨ok_iconst C (show decode cX11_lacks 15 = .ok (.iconst 0, 1) from dk_at dq38_11 (i := 9) rfl) (by decide) rfl, ?_⟩
  refine List.forall_mem_cons.mpr ⟨ok_istore_n C (show decode cX11_lacks 16 = .ok (.istore_n 2, 1) from dk_at dq38_11 (i := 10) rfl) rfl (by decide) rfl, ?_⟩
  refine List.forall_mem_cons.mpr ⟨ok_iconst C (show decode cX11_lacks 17 = .ok (.iconst 0, 1) from dk_at dq38_11 (i := 11) rfl) (by decide) rfl, ?_⟩
  refine List.forall_mem_cons.mpr ⟨ok_istore_n C (show decode cX11_lacks 18 = .ok (.istore_n 3, 1) from dk_at dq38_11 (i := 12) rfl) rfl (by decide) rfl, ?_⟩
  refine List.forall_mem_cons.mpr ⟨ok_iload_n C (show decode cX11_lacks 19 = .ok (.iload_n 3, 1) from dk_at dq38_11 (i := 13) rfl) rfl rfl, ?_⟩
  refine List.forall_mem_cons.mpr ⟨ok_aload_n C (show decode cX11_lacks 20 = .ok (.aload_n 0, 1) from dk_at dq38_11 (i := 14) rfl) rfl rfl, ?_⟩
  refine List.forall_mem_cons.mpr ⟨ok_getf C (wi_X11) rfl (by decide) kw_1186 (show decode cX11_lacks 21 = .ok (.getfield 33, 3) from dk_at dq38_11 (i := 15) rfl) rfl, ?_⟩
  refine List.forall_mem_cons.mpr ⟨ok_iconst C (show decode cX11_lacks 24 = .ok (.iconst 0, 1) from dk_at dq38_12 (i := 0) rfl) (by decide) rfl, ?_⟩
  refine List.forall_mem_cons.mpr ⟨ok_iaload C (show decode cX11_lacks 25 = .ok (.iaload, 1) from dk_at dq38_12 (i := 1) rfl) rfl, ?_⟩
  refine List.forall_mem_cons.mpr ⟨ok_icmpge C (show decode cX11_lacks 26 = .ok (.if_icmp .ge 28, 3) from dk_at dq38_12 (i := 2) rfl) (tg := 54) (by decide) rfl rfl, ?_⟩
  refine List.forall_mem_cons.mpr ⟨ok_iload_n C (show decode cX11_lacks 29 = .ok (.iload_n 2, 1) from dk_at dq38_12 (i := 3) rfl) rfl rfl, ?_⟩
  refine List.forall_mem_cons.mpr ⟨ok_aload_n C (show decode cX11_lacks 30 = .ok (.aload_n 0, 1) from dk_at dq38_12 (i := 4) rfl) rfl rfl, ?_⟩
  refine List.forall_mem_cons.mpr ⟨ok_iload_n C (show decode cX11_lacks 31 = .ok (.iload_n 3, 1) from dk_at dq38_12 (i := 5) rfl) rfl rfl, ?_⟩
  refine List.forall_mem_cons.mpr ⟨ok_iload_n C (show decode cX11_lacks 32 = .ok (.iload_n 1, 1) from dk_at dq38_12 (i := 6) rfl) rfl rfl, ?_⟩
  refine List.forall_mem_cons.mpr ⟨ok_callV C h_X11_lackOf ⟨rfl, rfl⟩ rfl kw_1417 kw_1414 kw_1416 kp_67 kw_11 rfl ds_X11_lackOf ⟨by decide, by decide⟩ (show decode cX11_lacks 33 = .ok (.invokevirtual 248, 3) from dk_at dq38_12 (i := 7) rfl) rfl, ?_⟩
  refine List.forall_mem_cons.mpr ⟨ok_ifle C (show decode cX11_lacks 36 = .ok (.ifCond .le 9, 3) from dk_at dq38_12 (i := 8) rfl) (tg := 45) (by decide) rfl rfl, ?_⟩
  refine List.forall_mem_cons.mpr ⟨ok_iconst C (show decode cX11_lacks 39 = .ok (.iconst 1, 1) from dk_at dq38_12 (i := 9) rfl) (by decide) rfl, ?_⟩
  refine List.forall_mem_cons.mpr ⟨ok_iload_n C (show decode cX11_lacks 40 = .ok (.iload_n 3, 1) from dk_at dq38_12 (i := 10) rfl) rfl rfl, ?_⟩
  refine List.forall_mem_cons.mpr ⟨ok_ishl C (show decode cX11_lacks 41 = .ok (.ishl, 1) from dk_at dq38_12 (i := 11) rfl) rfl, ?_⟩
  refine List.forall_mem_cons.mpr ⟨ok_goto C (show decode cX11_lacks 42 = .ok (.goto 4, 3) from dk_at dq38_12 (i := 12) rfl) (tg := 46) (by decide) rfl, ?_⟩
  refine List.forall_mem_cons.mpr ⟨ok_iconst C (show decode cX11_lacks 45 = .ok (.iconst 0, 1) from dk_at dq38_12 (i := 13) rfl) (by decide) rfl, ?_⟩
  refine List.forall_mem_cons.mpr ⟨ok_ior C (show decode cX11_lacks 46 = .ok (.ior, 1) from dk_at dq38_12 (i := 14) rfl) rfl, ?_⟩
  refine List.forall_mem_cons.mpr ⟨ok_istore_n C (show decode cX11_lacks 47 = .ok (.istore_n 2, 1) from dk_at dq38_12 (i := 15) rfl) rfl (by decide) rfl, ?_⟩
  refine List.forall_mem_cons.mpr ⟨ok_iinc C (show decode cX11_lacks 48 = .ok (.iinc 3 1, 3) from dk_at dq38_13 (i := 0) rfl) (by decide) (by decide) rfl, ?_⟩
  refine List.forall_mem_cons.mpr ⟨ok_goto C (show decode cX11_lacks 51 = .ok (.goto (-32), 3) from dk_at dq38_13 (i := 1) rfl) (tg := 19) (by decide) rfl, ?_⟩
  refine List.forall_mem_cons.mpr ⟨ok_iload_n C (show decode cX11_lacks 54 = .ok (.iload_n 2, 1) from dk_at dq38_13 (i := 2) rfl) rfl rfl, ?_⟩
  refine List.forall_mem_cons.mpr ⟨ok_ret C rfl (show decode cX11_lacks 55 = .ok (.ireturn, 1) from dk_at dq38_13 (i := 3) rfl), ?_⟩
  exact fun _ h => absurd h List.not_mem_nil
def L_X11_falses (f_X11_isShore : List Value → ab_H → Option ab_O) (f_X11_isFalse : List Value → ab_H → Option ab_O) : List (Nat × ab_A) := [
  (0, ab_nx 1 (ab_aload 0)),
  (1, ab_nx 2 (ab_lit (.int 0))),
  (2, ab_nx 5 (ab_putf 11 0 0)),
  (5, ab_nx 6 (ab_aload 0)),
  (6, ab_nx 7 (ab_iload 1)),
  (7, ab_nx 10 (ab_callV 2 11 f_X11_isShore 0 0 0 0)),
  (10, ab_if 13 15 (fun x => !decide (x = 0))),
  (13, ab_nx 14 (ab_lit (.int (-1)))),
  (14, ab_ret 0 0),
  (15, ab_nx 16 (ab_lit (.int 0))),
  (16, ab_nx 17 (ab_istore 2)),
  (17, ab_nx 18 (ab_lit (.int 0))),
  (18, ab_nx 19 (ab_istore 3)),
  (19, ab_nx 20 (ab_iload 3)),
  (20, ab_nx 21 (ab_aload 0)),
  (21, ab_nx 24 (ab_getf 11 6)),
  (24, ab_nx 25 (ab_lit (.int 0))),
  (25, ab_nx 26 (ab_ald 1)),
  (26, ab_icmp 29 54 (fun x y => decide (y ≤ x))),
  (29, ab_nx 30 (ab_iload 2)),
  (30, ab_nx 31 (ab_aload 0)),
  (31, ab_nx 32 (ab_iload 3)),
  (32, ab_nx 33 (ab_iload 1)),
  (33, ab_nx 36 (ab_callV 3 11 f_X11_isFalse 0 0 0 0)),
  (36, ab_if 39 45 (fun x => decide (x = 0))),
  (39, ab_nx 40 (ab_lit (.int 1))),
  (40, ab_nx 41 (ab_iload 3)),
  (41, ab_nx 42 (ab_bin (fun x y => x <<< (y &&& 31)))),
  (42, ab_goto 46),
  (45, ab_nx 46 (ab_lit (.int 0))),
  (46, ab_nx 47 (ab_bin (fun x y => x ||| y))),
  (47, ab_nx 48 (ab_istore 2)),
  (48, ab_nx 51 (ab_iinc 3 1)),
  (51, ab_goto 19),
  (54, ab_nx 55 (ab_iload 2)),
  (55, ab_ret 0 0)]
set_option maxRecDepth 100000 in
theorem dq38_14 : ([(0, .aload_n 0, 1), (1, .iconst 0, 1), (2, .putfield 1, 3), (5, .aload_n 0, 1), (6, .iload_n 1, 1), (7, .invokevirtual 242, 3), (10, .ifCond .ne 5, 3), (13, .iconst (-1), 1), (14, .ireturn, 1), (15, .iconst 0, 1), (16, .istore_n 2, 1), (17, .iconst 0, 1), (18, .istore_n 3, 1), (19, .iload_n 3, 1), (20, .aload_n 0, 1), (21, .getfield 33, 3)] : List (Nat × Instr × Nat)).all (fun q => decide (decode cX11_falses q.1 = .ok q.2)) = true := by decide +kernel
set_option maxRecDepth 100000 in
theorem dq38_15 : ([(24, .iconst 0, 1), (25, .iaload, 1), (26, .if_icmp .ge 28, 3), (29, .iload_n 2, 1), (30, .aload_n 0, 1), (31, .iload_n 3, 1), (32, .iload_n 1, 1), (33, .invokevirtual 254, 3), (36, .ifCond .eq 9, 3), (39, .iconst 1, 1), (40, .iload_n 3, 1), (41, .ishl, 1), (42, .goto 4, 3), (45, .iconst 0, 1), (46, .ior, 1), (47, .istore_n 2, 1)] : List (Nat × Instr × Nat)).all (fun q => decide (decode cX11_falses q.1 = .ok q.2)) = true := by decide +kernel
set_option maxRecDepth 100000 in
theorem dq38_16 : ([(48, .iinc 3 1, 3), (51, .goto (-32), 3), (54, .iload_n 2, 1), (55, .ireturn, 1)] : List (Nat × Instr × Nat)).all (fun q => decide (decode cX11_falses q.1 = .ok q.2)) = true := by decide +kernel
set_option maxRecDepth 100000 in
set_option maxHeartbeats 4000000 in
theorem M_X11_falses {l : Launch} {b : ab_B} {D : va_G} {cA : Nat → ClassId} {f_X11_isShore : List Value → ab_H → Option ab_O} (h_X11_isShore : ab_M l b D ab_cl cA (ab_E0 b) yX11_isShore (Cond.code yX11_isShore cX11_isShore 2 (some .boolean) :: ab_G) ({ frames := 2, cells := 0, slots := 0, locals := 200 } : Room) f_X11_isShore) {f_X11_isFalse : List Value → ab_H → Option ab_O} (h_X11_isFalse : ab_M l b D ab_cl cA (ab_E0 b) yX11_isFalse (Cond.code yX11_isFalse cX11_isFalse 3 (some .boolean) :: ab_G) ({ frames := 3, cells := 0, slots := 0, locals := 300 } : Room) f_X11_isFalse) : ab_M l b D ab_cl cA (ab_E0 b) yX11_falses (Cond.code yX11_falses cX11_falses 4 (some .int) :: ab_G) ({ frames := 4, cells := 0, slots := 0, locals := 400 } : Room) (ab_X (ab_T (L_X11_falses f_X11_isShore f_X11_isFalse)) 4) := by
  refine ab_meth (ret := (some .int)) (L_X11_falses f_X11_isShore f_X11_isFalse) (by decide) rfl fun p e R s m args below meth c o C => ?_
  unfold L_X11_falses
  refine List.forall_mem_cons.mpr ⟨ok_aload_n C (show decode cX11_falses 0 = .ok (.aload_n 0, 1) from dk_at dq38_14 (i := 0) rfl) rfl rfl, ?_⟩
  refine List.forall_mem_cons.mpr ⟨ok_iconst C (show decode cX11_falses 1 = .ok (.iconst 0, 1) from dk_at dq38_14 (i := 1) rfl) (by decide) rfl, ?_⟩
  refine List.forall_mem_cons.mpr ⟨ok_putf C (wi_X11) tyX11 tyX11_ok nmX11 rfl (by decide) kw_1180 (Or.inl rfl) (Or.inl ⟨rfl, rfl⟩) (show decode cX11_falses 2 = .ok (.putfield 1, 3) from dk_at dq38_14 (i := 2) rfl) rfl, ?_⟩
  refine List.forall_mem_cons.mpr ⟨ok_aload_n C (show decode cX11_falses 5 = .ok (.aload_n 0, 1) from dk_at dq38_14 (i := 3) rfl) rfl rfl, ?_⟩
  refine List.forall_mem_cons.mpr ⟨ok_iload_n C (show decode cX11_falses 6 = .ok (.iload_n 1, 1) from dk_at dq38_14 (i := 4) rfl) rfl rfl, ?_⟩
  refine List.forall_mem_cons.mpr ⟨ok_callV C h_X11_isShore ⟨rfl, rfl⟩ rfl kw_1410 kw_1407 kw_1409 kp_66 kw_11 rfl ds_X11_isShore ⟨by decide, by decide⟩ (show decode cX11_falses 7 = .ok (.invokevirtual 242, 3) from dk_at dq38_14 (i := 5) rfl) rfl, ?_⟩
  refine List.forall_mem_cons.mpr ⟨ok_ifne C (show decode cX11_falses 10 = .ok (.ifCond .ne 5, 3) from dk_at dq38_14 (i := 6) rfl) (tg := 15) (by decide) rfl rfl, ?_⟩
  refine List.forall_mem_cons.mpr ⟨ok_iconst C (show decode cX11_falses 13 = .ok (.iconst (-1), 1) from dk_at dq38_14 (i := 7) rfl) (by decide) rfl, ?_⟩
  refine List.forall_mem_cons.mpr ⟨ok_ret C rfl (show decode cX11_falses 14 = .ok (.ireturn, 1) from dk_at dq38_14 (i := 8) rfl), ?_⟩
  refine List.forall_mem_cons.mpr ⟨ok_iconst C (show decode cX11_falses 15 = .ok (.iconst 0, 1) from dk_at dq38_14 (i := 9) rfl) (by decide) rfl, ?_⟩
  refine List.forall_mem_cons.mpr ⟨ok_istore_n C (show decode cX11_falses 16 = .ok (.istore_n 2, 1) from dk_at dq38_14 (i := 10) rfl) rfl (by decide) rfl, ?_⟩
  refine List.forall_mem_cons.mpr ⟨ok_iconst C (show decode cX11_falses 17 = .ok (.iconst 0, 1) from dk_at dq38_14 (i := 11) rfl) (by decide) rfl, ?_⟩
  refine List.forall_mem_cons.mpr ⟨ok_istore_n C (show decode cX11_falses 18 = .ok (.istore_n 3, 1) from dk_at dq38_14 (i := 12) rfl) rfl (by decide) rfl, ?_⟩
  refine List.forall_mem_cons.mpr ⟨ok_iload_n C (show decode cX11_falses 19 = .ok (.iload_n 3, 1) from dk_at dq38_14 (i := 13) rfl) rfl rfl, ?_⟩
  refine List.forall_mem_cons.mpr ⟨ok_aload_n C (show decode cX11_falses 20 = .ok (.aload_n 0, 1) from dk_at dq38_14 (i := 14) rfl) rfl rfl, ?_⟩
  refine List.forall_mem_cons.mpr ⟨ok_getf C (wi_X11) rfl (by decide) kw_1186 (show decode cX11_falses 21 = .ok (.getfield 33, 3) from dk_at dq38_14 (i := 15) rfl) rfl, ?_⟩
  refine List.forall_mem_cons.mpr ⟨ok_iconst C (show decode cX11_falses 24 = .ok (.iconst 0, 1) from dk_at dq38_15 (i := 0) rfl) (by decide) rfl, ?_⟩
  refine List.forall_mem_cons.mpr ⟨ok_iaload C (show decode cX11_falses 25 = .ok (.iaload, 1) from dk_at dq38_15 (i := 1) rfl) rfl, ?_⟩
  refine List.forall_mem_cons.mpr ⟨ok_icmpge C (show decode cX11_falses 26 = .ok (.if_icmp .ge 28, 3) from dk_at dq38_15 (i := 2) rfl) (tg := 54) (by decide) rfl rfl, ?_⟩
  refine List.forall_mem_cons.mpr ⟨ok_iload_n C (show decode cX11_falses 29 = .ok (.iload_n 2, 1) from dk_at dq38_15 (i := 3) rfl) rfl rfl, ?_⟩
  refine List.forall_mem_cons.mpr ⟨ok_aload_n C (show decode cX11_falses 30 = .ok (.aload_n 0, 1) from dk_at dq38_15 (i := 4) rfl) rfl rfl, ?_⟩
  refine List.forall_mem_cons.mpr ⟨ok_iload_n C (show decode cX11_falses 31 = .ok (.iload_n 3, 1) from dk_at dq38_15 (i := 5) rfl) rfl rfl, ?_⟩
  refine List.forall_mem_cons.mpr ⟨ok_iload_n C (show decode cX11_falses 32 = .ok (.iload_n 1, 1) from dk_at dq38_15 (i := 6) rfl) rfl rfl, ?_⟩
  refine List.forall_mem_cons.mpr ⟨ok_callV C h_X11_isFalse ⟨rfl, rfl⟩ rfl kw_1421 kw_1418 kw_1420 kp_68 kw_11 rfl ds_X11_isFalse ⟨by decide, by decide⟩ (show decode cX11_falses 33 = .ok (.invokevirtual 254, 3) from dk_at dq38_15 (i := 7) rfl) rfl, ?_⟩
  refine List.forall_mem_cons.mpr ⟨ok_ifeq C (show decode cX11_falses 36 = .ok (.ifCond .eq 9, 3) from dk_at dq38_15 (i := 8) rfl) (tg := 45) (by decide) rfl rfl, ?_⟩
  refine List.forall_mem_cons.mpr ⟨ok_iconst C (show decode cX11_falses 39 = .ok (.iconst 1, 1) from dk_at dq38_15 (i := 9) rfl) (by decide) rfl, ?_⟩
  refine List.forall_mem_cons.mpr ⟨ok_iload_n C (show decode cX11_falses 40 = .ok (.iload_n 3, 1) from dk_at dq38_15 (i := 10) rfl) rfl rfl, ?_⟩
  refine List.forall_mem_cons.mpr ⟨ok_ishl C (show decode cX11_falses 41 = .ok (.ishl, 1) from dk_at dq38_15 (i := 11) rfl) rfl, ?_⟩
  refine List.forall_mem_cons.mpr ⟨ok_goto C (show decode cX11_falses 42 = .ok (.goto 4, 3) from dk_at dq38_15 (i := 12) rfl) (tg := 46) (by decide) rfl, ?_⟩
  refine List.forall_mem_cons.mpr ⟨ok_iconst C (show decode cX11_falses 45 = .ok (.iconst 0, 1) from dk_at dq38_15 (i := 13) rfl) (by decide) rfl, ?_⟩
  refine List.forall_mem_cons.mpr ⟨ok_ior C (show decode cX11_falses 46 = .ok (.ior, 1) from dk_at dq38_15 (i := 14) rfl) rfl, ?_⟩
  refine List.forall_mem_cons.mpr ⟨ok_istore_n C (show decode cX11_falses 47 = .ok (.istore_n 2, 1) from dk_at dq38_15 (i := 15) rfl) rfl (by decide) rfl, ?_⟩
  refine List.forall_mem_cons.mpr ⟨ok_iinc C (show decode cX11_falses 48 = .ok (.iinc 3 1, 3) from dk_at dq38_16 (i := 0) rfl) (by decide) (by decide) rfl, ?_⟩
  refine List.forall_mem_cons.mpr ⟨ok_goto C (show decode cX11_falses 51 = .ok (.goto (-32), 3) from dk_at dq38_16 (i := 1) rfl) (tg := 19) (by decide) rfl, ?_⟩
  refine List.forall_mem_cons.mpr ⟨ok_iload_n C (show decode cX11_falses 54 = .ok (.iload_n 2, 1) from dk_at dq38_16 (i := 2) rfl) rfl rfl, ?_⟩
  refine List.forall_mem_cons.mpr ⟨ok_ret C rfl (show decode cX11_falses 55 = .ok (.ireturn, 1) from dk_at dq38_16 (i := 3) rfl), ?_⟩
  exact fun _ h => absurd h List.not_mem_nil
def L_X11_going (f_X11_goingSet : List Value → ab_H → Option ab_O) : List (Nat × ab_A) := [
  (0, ab_nx 1 (ab_aload 0)),
  (1, ab_nx 2 (ab_lit (.int 0))),
  (2, ab_nx 5 (ab_putf 11 0 0)),
  (5, ab_nx 6 (ab_aload 0)),
  (6, ab_nx 9 (ab_getf 11 6)),
  (9, ab_nx 11 (ab_lit (.int 120))),
  (11, ab_nx 12 (ab_ald 1)),
  (12, ab_nx 15 (ab_lit (.int 400))),
  (15, ab_icmp 18 22 (fun x y => !decide (x = y))),
  (18, ab_nx 19 (ab_lit (.int 0))),
  (19, ab_goto 26),
  (22, ab_nx 23 (ab_aload 0)),
  (23, ab_nx 26 (ab_callV 1 11 f_X11_goingSet 0 0 0 0)),
  (26, ab_ret 0 0)]
set_option maxRecDepth 100000 in
theorem dq38_17 : ([(0, .aload_n 0, 1), (1, .iconst 0, 1), (2, .putfield 1, 3), (5, .aload_n 0, 1), (6, .getfield 33, 3), (9, .bipush 120, 2), (11, .iaload, 1), (12, .sipush 400, 3), (15, .if_icmp .ne 7, 3), (18, .iconst 0, 1), (19, .goto 7, 3), (22, .aload_n 0, 1), (23, .invokevirtual 289, 3), (26, .ireturn, 1)] : List (Nat × Instr × Nat)).all (fun q => decide (decode cX11_going q.1 = .ok q.2)) = true := by decide +kernel
set_option maxRecDepth 100000 in
set_option maxHeartbeats 4000000 in
theorem M_X11_going {l : Launch} {b : ab_B} {D : va_G} {cA : Nat → ClassId} {f_X11_goingSet : List Value → ab_H → Option ab_O} (h_X11_goingSet : ab_M l b D ab_cl cA (ab_E0 b) yX11_goingSet (Cond.code yX11_goingSet cX11_goingSet 4 (some .int) :: ab_G) ({ frames := 6, cells := 0, slots := 0, locals := 600 } : Room) f_X11_goingSet) : ab_M l b D ab_cl cA (ab_E0 b) yX11_going (Cond.code yX11_going cX11_going 1 (some .int) :: ab_G) ({ frames := 7, cells := 0, slots := 0, locals := 700 } : Room) (ab_X (ab_T (L_X11_going f_X11_goingSet)) 1) := by
  refine ab_meth (ret := (some .int)) (L_X11_going f_X11_goingSet) (by decide) rfl fun p e R s m args below meth c o C => ?_
  unfold L_X11_going
  refine List.forall_mem_cons.mpr ⟨ok_aload_n C (show decode cX11_going 0 = .ok (.aload_n 0, 1) from dk_at dq38_17 (i := 0) rfl) rfl rfl, ?_⟩
  refine List.forall_mem_cons.mpr ⟨ok_iconst C (show decode cX11_going 1 = .ok (.iconst 0, 1) from dk_at dq38_17 (i := 1) rfl) (by decide) rfl, ?_⟩
  refine List.forall_mem_cons.mpr ⟨ok_putf C (wi_X11) tyX11 tyX11_ok nmX11 rfl (by decide) kw_1180 (Or.inl rfl) (Or.inl ⟨rfl, rfl⟩) (show decode cX11_going 2 = .ok (.putfield 1, 3) from dk_at dq38_17 (i := 2) rfl) rfl, ?_⟩
  refine List.forall_mem_cons.mpr ⟨ok_aload_n C (show decode cX11_going 5 = .ok (.aload_n 0, 1) from dk_at dq38_17 (i := 3) rfl) rfl rfl, ?_⟩
  refine List.forall_mem_cons.mpr ⟨ok_getf C (wi_X11) rfl (by decide) kw_1186 (show decode cX11_going 6 = .ok (.getfield 33, 3) from dk_at dq38_17 (i := 4) rfl) rfl, ?_⟩
  refine List.forall_mem_cons.mpr ⟨ok_bipush C (show decode cX11_going 9 = .ok (.bipush 120, 2) from dk_at dq38_17 (i := 5) rfl) (by decide) rfl, ?_⟩
  refine List.forall_mem_cons.mpr ⟨ok_iaload C (show decode cX11_going 11 = .ok (.iaload, 1) from dk_at dq38_17 (i := 6) rfl) rfl, ?_⟩
  refine List.forall_mem_cons.mpr ⟨ok_sipush C (show decode cX11_going 12 = .ok (.sipush 400, 3) from dk_at dq38_17 (i := 7) rfl) (by decide) rfl, ?_⟩
  refine List.forall_mem_cons.mpr ⟨ok_icmpne C (show decode cX11_going 15 = .ok (.if_icmp .ne 7, 3) from dk_at dq38_17 (i := 8) rfl) (tg := 22) (by decide) rfl rfl, ?_⟩
  refine List.forall_mem_cons.mpr ⟨ok_iconst C (show decode cX11_going 18 = .ok (.iconst 0, 1) from dk_at dq38_17 (i := 9) rfl) (by decide) rfl, ?_⟩
  refine List.forall_mem_cons.mpr ⟨ok_goto C (show decode cX11_going 19 = .ok (.goto 7, 3) from dk_at dq38_17 (i := 10) rfl) (tg := 26) (by decide) rfl, ?_⟩
  refine List.forall_mem_cons.mpr ⟨ok_aload_n C (show decode cX11_going 22 = .ok (.aload_n 0, 1) from dk_at dq38_17 (i := 11) rfl) rfl rfl, ?_⟩
  refine List.forall_mem_cons.mpr ⟨ok_callV C h_X11_goingSet ⟨rfl, rfl⟩ rfl kw_1517 kw_1514 kw_1516 kp_83 kw_11 rfl ds_X11_goingSet ⟨by decide, by decide⟩ (show decode cX11_going 23 = .ok (.invokevirtual 289, 3) from dk_at dq38_17 (i := 12) rfl) rfl, ?_⟩
  refine List.forall_mem_cons.mpr ⟨ok_ret C rfl (show decode cX11_going 26 = .ok (.ireturn, 1) from dk_at dq38_17 (i := 13) rfl), ?_⟩
  exact fun _ h => absurd h List.not_mem_nil
def L_X11_goes (f_X11_isGood : List Value → ab_H → Option ab_O) (f_X11_goingSet : List Value → ab_H → Option ab_O) (f_X11_goesOf : List Value → ab_H → Option ab_O) : List (Nat × ab_A) := [
  (0, ab_nx 1 (ab_aload 0)),
  (1, ab_nx 2 (ab_lit (.int 0))),
  (2, ab_nx 5 (ab_putf 11 0 0)),
  (5, ab_nx 6 (ab_aload 0)),
  (6, ab_nx 7 (ab_iload 1)),
  (7, ab_nx 10 (ab_callV 2 11 f_X11_isGood 0 0 0 0)),
  (10, ab_if 13 15 (fun x => !decide (x = 0))),
  (13, ab_nx 14 (ab_lit (.int (-1)))),
  (14, ab_ret 0 0),
  (15, ab_nx 16 (ab_aload 0)),
  (16, ab_nx 19 (ab_getf 11 6)),
  (19, ab_nx 21 (ab_lit (.int 120))),
  (21, ab_nx 22 (ab_ald 1)),
  (22, ab_nx 25 (ab_lit (.int 400))),
  (25, ab_icmp 28 30 (fun x y => !decide (x = y))),
  (28, ab_nx 29 (ab_lit (.int 0))),
  (29, ab_ret 0 0),
  (30, ab_nx 31 (ab_aload 0)),
  (31, ab_nx 34 (ab_callV 1 11 f_X11_goingSet 0 0 0 0)),
  (34, ab_nx 35 ab_pop),
  (35, ab_nx 36 (ab_lit (.int 0))),
  (36, ab_nx 37 (ab_istore 2)),
  (37, ab_nx 38 (ab_iload 2)),
  (38, ab_nx 39 (ab_iload 1)),
  (39, ab_icmp 42 62 (fun x y => decide (y ≤ x))),
  (42, ab_nx 43 (ab_aload 0)),
  (43, ab_nx 44 ab_dup),
  (44, ab_nx 47 (ab_getf 11 22)),
  (47, ab_nx 48 (ab_aload 0)),
  (48, ab_nx 49 (ab_iload 2)),
  (49, ab_nx 52 (ab_callV 2 11 f_X11_goesOf 0 0 0 0)),
  (52, ab_nx 53 (ab_bin (fun x y => x - y))),
  (53, ab_nx 56 (ab_putf 11 22 0)),
  (56, ab_nx 59 (ab_iinc 2 1)),
  (59, ab_goto 37),
  (62, ab_nx 63 (ab_aload 0)),
  (63, ab_nx 64 (ab_iload 1)),
  (64, ab_nx 67 (ab_callV 2 11 f_X11_goesOf 0 0 0 0)),
  (67, ab_ret 0 0)]
set_option maxRecDepth 100000 in
theorem dq38_18 : ([(0, .aload_n 0, 1), (1, .iconst 0, 1), (2, .putfield 1, 3), (5, .aload_n 0, 1), (6, .iload_n 1, 1), (7, .invokevirtual 239, 3), (10, .ifCond .ne 5, 3), (13, .iconst (-1), 1), (14, .ireturn, 1), (15, .aload_n 0, 1), (16, .getfield 33, 3), (19, .bipush 120, 2), (21, .iaload, 1), (22, .sipush 400, 3), (25, .if_icmp .ne 5, 3), (28, .iconst 0, 1)] : List (Nat × Instr × Nat)).all (fun q => decide (decode cX11_goes q.1 = .ok q.2)) = true := by decide +kernel
set_option maxRecDepth 100000 in
theorem dq38_19 : ([(29, .ireturn, 1), (30, .aload_n 0, 1), (31, .invokevirtual 289, 3), (34, .pop, 1), (35, .iconst 0, 1), (36, .istore_n 2, 1), (37, .iload_n 2, 1), (38, .iload_n 1, 1), (39, .if_icmp .ge 23, 3), (42, .aload_n 0, 1), (43, .dup, 1), (44, .getfield 283, 3), (47, .aload_n 0, 1), (48, .iload_n 2, 1), (49, .invokevirtual 292, 3), (52, .isub, 1)] : List (Nat × Instr × Nat)).all (fun q => decide (decode cX11_goes q.1 = .ok q.2)) = true := by decide +kernel
set_option maxRecDepth 100000 in
theorem dq38_20 : ([(53, .putfield 283, 3), (56, .iinc 2 1, 3), (59, .goto (-22), 3), (62, .aload_n 0, 1), (63, .iload_n 1, 1), (64, .invokevirtual 292, 3), (67, .ireturn, 1)] : List (Nat × Instr × Nat)).all (fun q => decide (decode cX11_goes q.1 = .ok q.2)) = true := by decide +kernel
set_option maxRecDepth 100000 in
set_option maxHeartbeats 4000000 in
theorem M_X11_goes {l : Launch} {b : ab_B} {D : va_G} {cA : Nat → ClassId} {f_X11_isGood : List Value → ab_H → Option ab_O} (h_X11_isGood : ab_M l b D ab_cl cA (ab_E0 b) yX11_isGood (Cond.code yX11_isGood cX11_isGood 2 (some .boolean) :: ab_G) ({ frames := 2, cells := 0, slots := 0, locals := 200 } : Room) f_X11_isGood) {f_X11_goingSet : List Value → ab_H → Option ab_O} (h_X11_goingSet : ab_M l b D ab_cl cA (ab_E0 b) yX11_goingSet (Cond.code yX11_goingSet cX11_goingSet 4 (some .int) :: ab_G) ({ frames := 6, cells := 0, slots := 0, locals := 600 } : Room) f_X11_goingSet) {f_X11_goesOf : List Value → ab_H → Option ab_O} (h_X11_goesOf : ab_M l b D ab_cl cA (ab_E0 b) yX11_goesOf (Cond.code yX11_goesOf cX11_goesOf 3 (some .int) :: ab_G) ({ frames := 3, cells := 0, slots := 0, locals := 300 } : Room) f_X11_goesOf) : ab_M l b D ab_cl cA (ab_E0 b) yX11_goes (Cond.code yX11_goes cX11_goes 3 (some .int) :: ab_G) ({ frames := 7, cells := 0, slots := 0, locals := 700 } : Room) (ab_X (ab_T (L_X11_goes f_X11_isGood f_X11_goingSet f_X11_goesOf)) 3) := by
  refine ab_meth (ret := (some .int)) (L_X11_goes f_X11_isGood f_X11_goingSet f_X11_goesOf) (by decide) rfl fun p e R s m args below meth c o C => ?_
  unfold L_X11_goes
  refine List.forall_mem_cons.mpr ⟨ok_aload_n C (show decode cX11_goes 0 = .ok (.aload_n 0, 1) from dk_at dq38_18 (i := 0) rfl) rfl rfl, ?_⟩
  refine List.forall_mem_cons.mpr ⟨ok_iconst C (show decode cX11_goes 1 = .ok (.iconst 0, 1) from dk_at dq38_18 (i := 1) rfl) (by decide) rfl, ?_⟩
  refine List.forall_mem_cons.mpr ⟨ok_putf C (wi_X11) tyX11 tyX11_ok nmX11 rfl (by decide) kw_1180 (Or.inl rfl) (Or.inl ⟨rfl, rfl⟩) (show decode cX11_goes 2 = .ok (.putfield 1, 3) from dk_at dq38_18 (i := 2) rfl) rfl, ?_⟩
  refine List.forall_mem_cons.mpr ⟨ok_aload_n C (show decode cX11_goes 5 = .ok (.aload_n 0, 1) from dk_at dq38_18 (i := 3) rfl) rfl rfl, ?_⟩
  refine List.forall_mem_cons.mpr ⟨ok_iload_n C (show decode cX11_goes 6 = .ok (.iload_n 1, 1) from dk_at dq38_18 (i := 4) rfl) rfl rfl, ?_⟩
  refine List.forall_mem_cons.mpr ⟨ok_callV C h_X11_isGood ⟨rfl, rfl⟩ rfl kw_1406 kw_1403 kw_1405 kp_65 kw_11 rfl ds_X11_isGood ⟨by decide, by decide⟩ (show decode cX11_goes 7 = .ok (.invokevirtual 239, 3) from dk_at dq38_18 (i := 5) rfl) rfl, ?_⟩
  refine List.forall_mem_cons.mpr ⟨ok_ifne C (show decode cX11_goes 10 = .ok (.ifCond .ne 5, 3) from dk_at dq38_18 (i := 6) rfl) (tg := 15) (by decide) rfl rfl, ?_⟩
  refine List.forall_mem_cons.mpr ⟨ok_iconst C (show decode cX11_goes 13 = .ok (.iconst (-1), 1) from dk_at dq38_18 (i := 7) rfl) (by decide) rfl, ?_⟩
  refine List.forall_mem_cons.mpr ⟨ok_ret C rfl (show decode cX11_goes 14 = .ok (.ireturn, 1) from dk_at dq38_18 (i := 8) rfl), ?_⟩
  refine List.forall_mem_cons.mpr ⟨ok_aload_n C (show decode cX11_goes 15 = .ok (.aload_n 0, 1) from dk_at dq38_18 (i := 9) rfl) rfl rfl, ?_⟩
  refine List.forall_mem_cons.mpr ⟨ok_getf C (wi_X11) rfl (by decide) kw_1186 (show decode cX11_goes 16 = .ok (.getfield 33, 3) from dk_at dq38_18 (i := 10) rfl) rfl, ?_⟩
  refine List.forall_mem_cons.mpr ⟨ok_bipush C (show decode cX11_goes 19 = .ok (.bipush 120, 2) from dk_at dq38_18 (i := 11) rfl) (by decide) rfl, ?_⟩
  refine List.forall_mem_cons.mpr ⟨ok_iaload C (show decode cX11_goes 21 = .ok (.iaload, 1) from dk_at dq38_18 (i := 12) rfl) rfl, ?_⟩
  refine List.forall_mem_cons.mpr ⟨ok_sipush C (show decode cX11_goes 22 = .ok (.sipush 400, 3) from dk_at dq38_18 (i := 13) rfl) (by decide) rfl, ?_⟩
  refine List.forall_mem_cons.mpr ⟨ok_icmpne C (show decode cX11_goes 25 = .ok (.if_icmp .ne 5, 3) from dk_at dq38_18 (i := 14) rfl) (tg := 30) (by decide) rfl rfl, ?_⟩
  refine List.forall_mem_cons.mpr ⟨ok_iconst C (show decode cX11_goes 28 = .ok (.iconst 0, 1) from dk_at dq38_18 (i := 15) rfl) (by decide) rfl, ?_⟩
  refine List.forall_mem_cons.mpr ⟨ok_ret C rfl (show decode cX11_goes 29 = .ok (.ireturn, 1) from dk_at dq38_19 (i := 0) rfl), ?_⟩
  refine List.forall_mem_cons.mpr ⟨ok_aload_n C (show decode cX11_goes 30 = .ok (.aload_n 0, 1) from dk_at dq38_19 (i := 1) rfl) rfl rfl, ?_⟩
  refine List.forall_mem_cons.mpr ⟨ok_callV C h_X11_goingSet ⟨rfl, rfl⟩ rfl kw_1517 kw_1514 kw_1516 kp_83 kw_11 rfl ds_X11_goingSet ⟨by decide, by decide⟩ (show decode cX11_goes 31 = .ok (.invokevirtual 289, 3) from dk_at dq38_19 (i := 2) rfl) rfl, ?_⟩
  refine List.forall_mem_cons.mpr ⟨ok_pop C (show decode cX11_goes 34 = .ok (.pop, 1) from dk_at dq38_19 (i := 3) rfl) rfl, ?_⟩
  refine List.forall_mem_cons.mpr ⟨ok_iconst C (show decode cX11_goes 35 = .ok (.iconst 0, 1) from dk_at dq38_19 (i := 4) rfl) (by decide) rfl, ?_⟩
  refine List.forall_mem_cons.mpr ⟨ok_istore_n C (show decode cX11_goes 36 = .ok (.istore_n 2, 1) from dk_at dq38_19 (i := 5) rfl) rfl (by decide) rfl, ?_⟩
  refine List.forall_mem_cons.mpr ⟨ok_iload_n C (show decode cX11_goes 37 = .ok (.iload_n 2, 1) from dk_at dq38_19 (i := 6) rfl) rfl rfl, ?_⟩
  refine List.forall_mem_cons.mpr ⟨ok_iload_n C (show decode cX11_goes 38 = .ok (.iload_n 1, 1) from dk_at dq38_19 (i := 7) rfl) rfl rfl, ?_⟩
  refine List.forall_mem_cons.mpr ⟨ok_icmpge C (show decode cX11_goes 39 = .ok (.if_icmp .ge 23, 3) from dk_at dq38_19 (i := 8) rfl) (tg := 62) (by decide) rfl rfl, ?_⟩
  refine List.forall_mem_cons.mpr ⟨ok_aload_n C (show decode cX11_goes 42 = .ok (.aload_n 0, 1) from dk_at dq38_19 (i := 9) rfl) rfl rfl, ?_⟩
  refine List.forall_mem_cons.mpr ⟨ok_dup C (show decode cX11_goes 43 = .ok (.dup, 1) from dk_at dq38_19 (i := 10) rfl) rfl, ?_⟩
  refine List.forall_mem_cons.mpr ⟨ok_getf C (wi_X11) rfl (by decide) kw_1202 (show decode cX11_goes 44 = .ok (.getfield 283, 3) from dk_at dq38_19 (i := 11) rfl) rfl, ?_⟩
  refine List.forall_mem_cons.mpr ⟨ok_aload_n C (show decode cX11_goes 47 = .ok (.aload_n 0, 1) from dk_at dq38_19 (i := 12) rfl) rfl rfl, ?_⟩
  refine List.forall_mem_cons.mpr ⟨ok_iload_n C (show decode cX11_goes 48 = .ok (.iload_n 2, 1) from dk_at dq38_19 (i := 13) rfl) rfl rfl, ?_⟩
  refine List.forall_mem_cons.mpr ⟨ok_callV C h_X11_goesOf ⟨rfl, rfl⟩ rfl kw_1521 kw_1518 kw_1520 kp_84 kw_11 rfl ds_X11_goesOf ⟨by decide, by decide⟩ (show decode cX11_goes 49 = .ok (.invokevirtual 292, 3) from dk_at dq38_19 (i := 14) rfl) rfl, ?_⟩
  refine List.forall_mem_cons.mpr ⟨ok_isub C (show decode cX11_goes 52 = .ok (.isub, 1) from dk_at dq38_19 (i := 15) rfl) rfl, ?_⟩
  refine List.forall_mem_cons.mpr ⟨ok_putf C (wi_X11) tyX11 tyX11_ok nmX11 rfl (by decide) kw_1202 (Or.inl rfl) (Or.inl ⟨rfl, rfl⟩) (show decode cX11_goes 53 = .ok (.putfield 283, 3) from dk_at dq38_20 (i := 0) rfl) rfl, ?_⟩
  refine List.forall_mem_cons.mpr ⟨ok_iinc C (show decode cX11_goes 56 = .ok (.iinc 2 1, 3) from dk_at dq38_20 (i := 1) rfl) (by decide) (by decide) rfl, ?_⟩
  refine List.forall_mem_cons.mpr ⟨ok_goto C (show decode cX11_goes 59 = .ok (.goto (-22), 3) from dk_at dq38_20 (i := 2) rfl) (tg := 37) (by decide) rfl, ?_⟩
  refine List.forall_mem_cons.mpr ⟨ok_aload_n C (show decode cX11_goes 62 = .ok (.aload_n 0, 1) from dk_at dq38_20 (i := 3) rfl) rfl rfl, ?_⟩
  refine List.forall_mem_cons.mpr ⟨ok_iload_n C (show decode cX11_goes 63 = .ok (.iload_n 1, 1) from dk_at dq38_20 (i := 4) rfl) rfl rfl, ?_⟩
  refine List.forall_mem_cons.mpr ⟨ok_callV C h_X11_goesOf ⟨rfl, rfl⟩ rfl kw_1521 kw_1518 kw_1520 kp_84 kw_11 rfl ds_X11_goesOf ⟨by decide, by decide⟩ (show decode cX11_goes 64 = .ok (.invokevirtual 292, 3) from dk_at dq38_20 (i := 5) rfl) rfl, ?_⟩
  refine List.forall_mem_cons.mpr ⟨ok_ret C rfl (show decode cX11_goes 67 = .ok (.ireturn, 1) from dk_at dq38_20 (i := 6) rfl), ?_⟩
  exact fun _ h => absurd h List.not_mem_nil
def L_X11_crosses (f_X11_isMan : List Value → ab_H → Option ab_O) (f_X11_isDead : List Value → ab_H → Option ab_O) (f_X11_tries : List Value → ab_H → Option ab_O) (f_X11_goesOn : List Value → ab_H → Option ab_O) (f_X11_back : List Value → ab_H → Option ab_O) : List (Nat × ab_A) := [
  (0, ab_nx 1 (ab_aload 0)),
  (1, ab_nx 2 (ab_lit (.int 0))),
  (2, ab_nx 5 (ab_putf 11 0 0)),
  (5, ab_nx 6 (ab_aload 0)),
  (6, ab_nx 7 (ab_iload 1)),
  (7, ab_nx 10 (ab_callV 2 11 f_X11_isMan 0 0 0 0)),
  (10, ab_if 13 21 (fun x => decide (x = 0))),
  (13, ab_nx 14 (ab_aload 0)),
  (14, ab_nx 15 (ab_iload 1)),
  (15, ab_nx 18 (ab_callV 2 11 f_X11_isDead 0 0 0 0)),
  (18, ab_if 21 23 (fun x => decide (x = 0))),
  (21, ab_nx 22 (ab_lit (.int (-1)))),
  (22, ab_ret 0 0),
  (23, ab_nx 24 (ab_aload 0)),
  (24, ab_nx 27 (ab_callV 1 11 f_X11_tries 0 0 0 0)),
  (27, ab_nx 28 (ab_aload 0)),
  (28, ab_nx 31 (ab_getf 11 6)),
  (31, ab_nx 34 (ab_lit (.int 181))),
  (34, ab_nx 35 (ab_iload 1)),
  (35, ab_nx 36 (ab_bin (fun x y => x + y))),
  (36, ab_nx 37 (ab_ald 1)),
  (37, ab_nx 38 (ab_istore 2)),
  (38, ab_nx 39 (ab_lit (.int (-1)))),
  (39, ab_nx 40 (ab_istore 3)),
  (40, ab_nx 41 (ab_lit (.int 0))),
  (41, ab_nx 43 (ab_istore 4)),
  (43, ab_nx 45 (ab_iload 4)),
  (45, ab_nx 47 (ab_lit (.int 100))),
  (47, ab_icmp 50 93 (fun x y => decide (y ≤ x))),
  (50, ab_nx 51 (ab_iload 3)),
  (51, ab_if 54 93 (fun x => decide (0 ≤ x))),
  (54, ab_nx 55 (ab_aload 0)),
  (55, ab_nx 56 (ab_lit (.int 1))),
  (56, ab_nx 59 (ab_callV 2 11 f_X11_goesOn 0 0 0 0)),
  (59, ab_nx 60 (ab_lit (.int 1))),
  (60, ab_icmp 63 93 (fun x y => !decide (x = y))),
  (63, ab_nx 64 (ab_aload 0)),
  (64, ab_nx 67 (ab_getf 11 6)),
  (67, ab_nx 70 (ab_lit (.int 181))),
  (70, ab_nx 71 (ab_iload 1)),
  (71, ab_nx 72 (ab_bin (fun x y => x + y))),
  (72, ab_nx 73 (ab_ald 1)),
  (73, ab_nx 74 (ab_iload 2)),
  (74, ab_icmp 77 87 (fun x y => decide (x ≤ y))),
  (77, ab_nx 78 (ab_aload 0)),
  (78, ab_nx 81 (ab_getf 11 6)),
  (81, ab_nx 83 (ab_lit (.int 120))),
  (83, ab_nx 84 (ab_ald 1)),
  (84, ab_nx 85 (ab_lit (.int 1))),
  (85, ab_nx 86 (ab_bin (fun x y => x - y))),
  (86, ab_nx 87 (ab_istore 3)),
  (87, ab_nx 90 (ab_iinc 4 1)),
  (90, ab_goto 43),
  (93, ab_nx 94 (ab_aload 0)),
  (94, ab_nx 97 (ab_callV 1 11 f_X11_back 0 0 0 0)),
  (97, ab_nx 98 (ab_iload 3)),
  (98, ab_ret 0 0)]
set_option maxRecDepth 100000 in
theorem dq38_21 : ([(0, .aload_n 0, 1), (1, .iconst 0, 1), (2, .putfield 1, 3), (5, .aload_n 0, 1), (6, .iload_n 1, 1), (7, .invokevirtual 266, 3), (10, .ifCond .eq 11, 3), (13, .aload_n 0, 1), (14, .iload_n 1, 1), (15, .invokevirtual 257, 3), (18, .ifCond .eq 5, 3), (21, .iconst (-1), 1), (22, .ireturn, 1), (23, .aload_n 0, 1), (24, .invokevirtual 317, 3), (27, .aload_n 0, 1)] : List (Nat × Instr × Nat)).all (fun q => decide (decode cX11_crosses q.1 = .ok q.2)) = true := by decide +kernel
set_option maxRecDepth 100000 in
theorem dq38_22 : ([(28, .getfield 33, 3), (31, .sipush 181, 3), (34, .iload_n 1, 1), (35, .iadd, 1), (36, .iaload, 1), (37, .istore_n 2, 1), (38, .iconst (-1), 1), (39, .istore_n 3, 1), (40, .iconst 0, 1), (41, .istore 4, 2), (43, .iload 4, 2), (45, .bipush 100, 2), (47, .if_icmp .ge 46, 3), (50, .iload_n 3, 1), (51, .ifCond .ge 42, 3), (54, .aload_n 0, 1)] : List (Nat × Instr × Nat)).all (fun q => decide (decode cX11_crosses q.1 = .ok q.2)) = true := by decide +kernel
set_option maxRecDepth 100000 in
theorem dq38_23 : ([(55, .iconst 1, 1), (56, .invokevirtual 314, 3), (59, .iconst 1, 1), (60, .if_icmp .ne 33, 3), (63, .aload_n 0, 1), (64, .getfield 33, 3), (67, .sipush 181, 3), (70, .iload_n 1, 1), (71, .iadd, 1), (72, .iaload, 1), (73, .iload_n 2, 1), (74, .if_icmp .le 13, 3), (77, .aload_n 0, 1), (78, .getfield 33, 3), (81, .bipush 120, 2), (83, .iaload, 1)] : List (Nat × Instr × Nat)).all (fun q => decide (decode cX11_crosses q.1 = .ok q.2)) = true := by decide +kernel
set_option maxRecDepth 100000 in
theorem dq38_24 : ([(84, .iconst 1, 1), (85, .isub, 1), (86, .istore_n 3, 1), (87, .iinc 4 1, 3), (90, .goto (-47), 3), (93, .aload_n 0, 1), (94, .invokevirtual 320, 3), (97, .iload_n 3, 1), (98, .ireturn, 1)] : List (Nat × Instr × Nat)).all (fun q => decide (decode cX11_crosses q.1 = .ok q.2)) = true := by decide +kernel
set_option maxRecDepth 100000 in
set_option maxHeartbeats 4000000 in
theorem M_X11_crosses {l : Launch} {b : ab_B} {D : va_G} {cA : Nat → ClassId} {f_X11_isMan : List Value → ab_H → Option ab_O} (h_X11_isMan : ab_M l b D ab_cl cA (ab_E0 b) yX11_isMan (Cond.code yX11_isMan cX11_isMan 2 (some .boolean) :: ab_G) ({ frames := 2, cells := 0, slots := 0, locals := 200 } : Room) f_X11_isMan) {f_X11_isDead : List Value → ab_H → Option ab_O} (h_X11_isDead : ab_M l b D ab_cl cA (ab_E0 b) yX11_isDead (Cond.code yX11_isDead cX11_isDead 2 (some .boolean) :: ab_G) ({ frames := 2, cells := 0, slots := 0, locals := 200 } : Room) f_X11_isDead) {f_X11_tries : List Value → ab_H → Option ab_O} (h_X11_tries : ab_M l b D ab_cl cA (ab_E0 b) yX11_tries (Cond.code yX11_tries cX11_tries 2 none :: ab_G) ({ frames := 1, cells := 0, slots := 0, locals := 100 } : Room) f_X11_tries) {f_X11_goesOn : List Value → ab_H → Option ab_O} (h_X11_goesOn : ab_M l b D ab_cl cA (ab_E0 b) yX11_goesOn (Cond.code yX11_goesOn cX11_goesOn 3 (some .int) :: ab_G) ({ frames := 8, cells := 0, slots := 0, locals := 800 } : Room) f_X11_goesOn) {f_X11_back : List Value → ab_H → Option ab_O} (h_X11_back : ab_M l b D ab_cl cA (ab_E0 b) yX11_back (Cond.code yX11_back cX11_back 2 none :: ab_G) ({ frames := 1, cells := 0, slots := 0, locals := 100 } : Room) f_X11_back) : ab_M l b D ab_cl cA (ab_E0 b) yX11_crosses (Cond.code yX11_crosses cX11_crosses 5 (some .int) :: ab_G) ({ frames := 9, cells := 0, slots := 0, locals := 900 } : Room) (ab_X (ab_T (L_X11_crosses f_X11_isMan f_X11_isDead f_X11_tries f_X11_goesOn f_X11_back)) 5) := by
  refine ab_meth (ret := (some .int)) (L_X11_crosses f_X11_isMan f_X11_isDead f_X11_tries f_X11_goesOn f_X11_back) (by decide) rfl fun p e R s m args below meth c o C => ?_
  unfold L_X11_crosses
  refine List.forall_mem_cons.mpr ⟨ok_aload_n C (show decode cX11_crosses 0 = .ok (.aload_n 0, 1) from dk_at dq38_21 (i := 0) rfl) rfl rfl, ?_⟩
  refine List.forall_mem_cons.mpr ⟨ok_iconst C (show decode cX11_crosses 1 = .ok (.iconst 0, 1) from dk_at dq38_21 (i := 1) rfl) (by decide) rfl, ?_⟩
  refine List.forall_mem_cons.mpr ⟨ok_putf C (wi_X11) tyX11 tyX11_ok nmX11 rfl (by decide) kw_1180 (Or.inl rfl) (Or.inl ⟨rfl, rfl⟩) (show decode cX11_crosses 2 = .ok (.putfield 1, 3) from dk_at dq38_21 (i := 2) rfl) rfl, ?_⟩
  refine List.forall_mem_cons.mpr ⟨ok_aload_n C (show decode cX11_crosses 5 = .ok (.aload_n 0, 1) from dk_at dq38_21 (i := 3) rfl) rfl rfl, ?_⟩
  refine List.forall_mem_cons.mpr ⟨ok_iload_n C (show decode cX11_crosses 6 = .ok (.iload_n 1, 1) from dk_at dq38_21 (i := 4) rfl) rfl rfl, ?_⟩
  refine List.forall_mem_cons.mpr ⟨ok_callV C h_X11_isMan ⟨rfl, rfl⟩ rfl kw_1433 kw_1430 kw_1432 kp_69 kw_11 rfl ds_X11_isMan ⟨by decide, by decide⟩ (show decode cX11_crosses 7 = .ok (.invokevirtual 266, 3) from dk_at dq38_21 (i := 5) rfl) rfl, ?_⟩
  refine List.forall_mem_cons.mpr ⟨ok_ifeq C (show decode cX11_crosses 10 = .ok (.ifCond .eq 11, 3) from dk_at dq38_21 (i := 6) rfl) (tg := 21) (by decide) rfl rfl, ?_⟩
  refine List.forall_mem_cons.mpr ⟨ok_aload_n C (show decode cX11_crosses 13 = .ok (.aload_n 0, 1) from dk_at dq38_21 (i := 7) rfl) rfl rfl, ?_⟩
  refine List.forall_mem_cons.mpr ⟨ok_iload_n C (show decode cX11_crosses 14 = .ok (.iload_n 1, 1) from dk_at dq38_21 (i := 8) rfl) rfl rfl, ?_⟩
  refine List.forall_mem_cons.mpr ⟨ok_callV C h_X11_isDead ⟨rfl, rfl⟩ rfl kw_1441 kw_1438 kw_1440 kp_71 kw_11 rfl ds_X11_isDead ⟨by decide, by decide⟩ (show decode cX11_crosses 15 = .ok (.invokevirtual 257, 3) from dk_at dq38_21 (i := 9) rfl) rfl, ?_⟩
  refine List.forall_mem_cons.mpr ⟨ok_ifeq C (show decode cX11_crosses 18 = .ok (.ifCond .eq 5, 3) from dk_at dq38_21 (i := 10) rfl) (tg := 23) (by decide) rfl rfl, ?_⟩
  refine List.forall_mem_cons.mpr ⟨ok_iconst C (show decode cX11_crosses 21 = .ok (.iconst (-1), 1) from dk_at dq38_21 (i := 11) rfl) (by decide) rfl, ?_⟩
  refine List.forall_mem_cons.mpr ⟨ok_ret C rfl (show decode cX11_crosses 22 = .ok (.ireturn, 1) from dk_at dq38_21 (i := 12) rfl), ?_⟩
  refine List.forall_mem_cons.mpr ⟨ok_aload_n C (show decode cX11_crosses 23 = .ok (.aload_n 0, 1) from dk_at dq38_21 (i := 13) rfl) rfl rfl, ?_⟩
  refine List.forall_mem_cons.mpr ⟨ok_callV C h_X11_tries ⟨rfl, rfl⟩ rfl kw_1556 kw_1553 kw_1555 kp_86 kw_11 rfl ds_X11_tries ⟨by decide, by decide⟩ (show decode cX11_crosses 24 = .ok (.invokevirtual 317, 3) from dk_at dq38_21 (i := 14) rfl) rfl, ?_⟩
  refine List.forall_mem_cons.mpr ⟨ok_aload_n C (show decode cX11_crosses 27 = .ok (.aload_n 0, 1) from dk_at dq38_21 (i := 15) rfl) rfl rfl, ?_⟩
  refine List.forall_mem_cons.mpr ⟨ok_getf C (wi_X11) rfl (by decide) kw_1186 (show decode cX11_crosses 28 = .ok (.getfield 33, 3) from dk_at dq38_22 (i := 0) rfl) rfl, ?_⟩
  refine List.forall_mem_cons.mpr ⟨ok_sipush C (show decode cX11_crosses 31 = .ok (.sipush 181, 3) from dk_at dq38_22 (i := 1) rfl) (by decide) rfl, ?_⟩
  refine List.forall_mem_cons.mpr ⟨ok_iload_n C (show decode cX11_crosses 34 = .ok (.iload_n 1, 1) from dk_at dq38_22 (i := 2) rfl) rfl rfl, ?_⟩
  refine List.forall_mem_cons.mpr ⟨ok_iadd C (show decode cX11_crosses 35 = .ok (.iadd, 1) from dk_at dq38_22 (i := 3) rfl) rfl, ?_⟩
  refine List.forall_mem_cons.mpr ⟨ok_iaload C (show decode cX11_crosses 36 = .ok (.iaload, 1) from dk_at dq38_22 (i := 4) rfl) rfl, ?_⟩
  refine List.forall_mem_cons.mpr ⟨ok_istore_n C (show decode cX11_crosses 37 = .ok (.istore_n 2, 1) from dk_at dq38_22 (i := 5) rfl) rfl (by decide) rfl, ?_⟩
  refine List.forall_mem_cons.mpr ⟨ok_iconst C (show decode cX11_crosses 38 = .ok (.iconst (-1), 1) from dk_at dq38_22 (i := 6) rfl) (by decide) rfl, ?_⟩
  refine List.forall_mem_cons.mpr ⟨ok_istore_n C (show decode cX11_crosses 39 = .ok (.istore_n 3, 1) from dk_at dq38_22 (i := 7) rfl) rfl (by decide) rfl, ?_⟩
  refine List.forall_mem_cons.mpr ⟨ok_iconst C (show decode cX11_crosses 40 = .ok (.iconst 0, 1) from dk_at dq38_22 (i := 8) rfl) (by decide) rfl, ?_⟩
  refine List.forall_mem_cons.mpr ⟨ok_istore C (show decode cX11_crosses 41 = .ok (.istore 4, 2) from dk_at dq38_22 (i := 9) rfl) (by decide) rfl, ?_⟩
  refine List.forall_mem_cons.mpr ⟨ok_iload C (show decode cX11_crosses 43 = .ok (.iload 4, 2) from dk_at dq38_22 (i := 10) rfl) rfl, ?_⟩
  refine List.forall_mem_cons.mpr ⟨ok_bipush C (show decode cX11_crosses 45 = .ok (.bipush 100, 2) from dk_at dq38_22 (i := 11) rfl) (by decide) rfl, ?_⟩
  refine List.forall_mem_cons.mpr ⟨ok_icmpge C (show decode cX11_crosses 47 = .ok (.if_icmp .ge 46, 3) from dk_at dq38_22 (i := 12) rfl) (tg := 93) (by decide) rfl rfl, ?_⟩
  refine List.forall_mem_cons.mpr ⟨ok_iload_n C (show decode cX11_crosses 50 = .ok (.iload_n 3, 1) from dk_at dq38_22 (i := 13) rfl) rfl rfl, ?_⟩
  refine List.forall_mem_cons.mpr ⟨ok_ifge C (show decode cX11_crosses 51 = .ok (.ifCond .ge 42, 3) from dk_at dq38_22 (i := 14) rfl) (tg := 93) (by decide) rfl rfl, ?_⟩
  refine List.forall_mem_cons.mpr ⟨ok_aload_n C (show decode cX11_crosses 54 = .ok (.aload_n 0, 1) from dk_at dq38_22 (i := 15) rfl) rfl rfl, ?_⟩
  refine List.forall_mem_cons.mpr ⟨ok_iconst C (show decode cX11_crosses 55 = .ok (.iconst 1, 1) from dk_at dq38_23 (i := 0) rfl) (by decide) rfl, ?_⟩
  refine List.forall_mem_cons.mpr ⟨ok_callV C h_X11_goesOn ⟨rfl, rfl⟩ rfl kw_1509 kw_1506 kw_1508 kp_81 kw_11 rfl ds_X11_goesOn ⟨by decide, by decide⟩ (show decode cX11_crosses 56 = .ok (.invokevirtual 314, 3) from dk_at dq38_23 (i := 1) rfl) rfl, ?_⟩
  refine List.forall_mem_cons.mpr ⟨ok_iconst C (show decode cX11_crosses 59 = .ok (.iconst 1, 1) from dk_at dq38_23 (i := 2) rfl) (by decide) rfl, ?_⟩
  refine List.forall_mem_cons.mpr ⟨ok_icmpne C (show decode cX11_crosses 60 = .ok (.if_icmp .ne 33, 3) from dk_at dq38_23 (i := 3) rfl) (tg := 93) (by decide) rfl rfl, ?_⟩
  refine List.forall_mem_cons.mpr ⟨ok_aload_n C (show decode cX11_crosses 63 = .ok (.aload_n 0, 1) from dk_at dq38_23 (i := 4) rfl) rfl rfl, ?_⟩
  refine List.forall_mem_cons.mpr ⟨ok_getf C (wi_X11) rfl (by decide) kw_1186 (show decode cX11_crosses 64 = .ok (.getfield 33, 3) from dk_at dq38_23 (i := 5) rfl) rfl, ?_⟩
  refine List.forall_mem_cons.mpr ⟨ok_sipush C (show decode cX11_crosses 67 = .ok (.sipush 181, 3) from dk_at dq38_23 (i := 6) rfl) (by decide) rfl, ?_⟩
  refine List.forall_mem_cons.mpr ⟨ok_iload_n C (show decode cX11_crosses 70 = .ok (.iload_n 1, 1) from dk_at dq38_23 (i := 7) rfl) rfl rfl, ?_⟩
  refine List.forall_mem_cons.mpr ⟨ok_iadd C (show decode cX11_crosses 71 = .ok (.iadd, 1) from dk_at dq38_23 (i := 8) rfl) rfl, ?_⟩
  refine List.forall_mem_cons.mpr ⟨ok_iaload C (show decode cX11_crosses 72 = .ok (.iaload, 1) from dk_at dq38_23 (i := 9) rfl) rfl, ?_⟩
  refine List.forall_mem_cons.mpr ⟨ok_iload_n C (show decode cX11_crosses 73 = .ok (.iload_n 2, 1) from dk_at dq38_23 (i := 10) rfl) rfl rfl, ?_⟩
  refine List.forall_mem_cons.mpr ⟨ok_icmple C (show decode cX11_crosses 74 = .ok (.if_icmp .le 13, 3) from dk_at dq38_23 (i := 11) rfl) (tg := 87) (by decide) rfl rfl, ?_⟩
  refine List.forall_mem_cons.mpr ⟨ok_aload_n C (show decode cX11_crosses 77 = .ok (.aload_n 0, 1) from dk_at dq38_23 (i := 12) rfl) rfl rfl, ?_⟩
  refine List.forall_mem_cons.mpr ⟨ok_getf C (wi_X11) rfl (by decide) kw_1186 (show decode cX11_crosses 78 = .ok (.getfield 33, 3) from dk_at dq38_23 (i := 13) rfl) rfl, ?_⟩
  refine List.forall_mem_cons.mpr ⟨ok_bipush C (show decode cX11_crosses 81 = .ok (.bipush 120, 2) from dk_at dq38_23 (i := 14) rfl) (by decide) rfl, ?_⟩
  refine List.forall_mem_cons.mpr ⟨ok_iaload C (show decode cX11_crosses 83 = .ok (.iaload, 1) from dk_at dq38_23 (i := 15) rfl) rfl, ?_⟩
  refine List.forall_mem_cons.mpr ⟨ok_iconst C (show decode cX11_crosses 84 = .ok (.iconst 1, 1) from dk_at dq38_24 (i := 0) rfl) (by decide) rfl, ?_⟩
  refine List.forall_mem_cons.mpr ⟨ok_isub C (show decode cX11_crosses 85 = .ok (.isub, 1) from dk_at dq38_24 (i := 1) rfl) rfl, ?_⟩
  refine List.forall_mem_cons.mpr ⟨ok_istore_n C (show decode cX11_crosses 86 = .ok (.istore_n 3, 1) from dk_at dq38_24 (i := 2) rfl) rfl (by decide) rfl, ?_⟩
  refine List.forall_mem_cons.mpr ⟨ok_iinc C (show decode cX11_crosses 87 = .ok (.iinc 4 1, 3) from dk_at dq38_24 (i := 3) rfl) (by decide) (by decide) rfl, ?_⟩
  refine List.forall_mem_cons.mpr ⟨ok_goto C (show decode cX11_crosses 90 = .ok (.goto (-47), 3) from dk_at dq38_24 (i := 4) rfl) (tg := 43) (by decide) rfl, ?_⟩
  refine List.forall_mem_cons.mpr ⟨ok_aload_n C (show decode cX11_crosses 93 = .ok (.aload_n 0, 1) from dk_at dq38_24 (i := 5) rfl) rfl rfl, ?_⟩
  refine List.forall_mem_cons.mpr ⟨ok_callV C h_X11_back ⟨rfl, rfl⟩ rfl kw_1560 kw_1557 kw_1559 kp_87 kw_11 rfl ds_X11_back ⟨by decide, by decide⟩ (show decode cX11_crosses 94 = .ok (.invokevirtual 320, 3) from dk_at dq38_24 (i := 6) rfl) rfl, ?_⟩
  refine List.forall_mem_cons.mpr ⟨ok_iload_n C (show decode cX11_crosses 97 = .ok (.iload_n 3, 1) from dk_at dq38_24 (i := 7) rfl) rfl rfl, ?_⟩
  refine List.forall_mem_cons.mpr ⟨ok_ret C rfl (show decode cX11_crosses 98 = .ok (.ireturn, 1) from dk_at dq38_24 (i := 8) rfl), ?_⟩
  exact fun _ h => absurd h List.not_mem_nil
def L_X11_comes (f_X11_isPlace : List Value → ab_H → Option ab_O) (f_X11_tries : List Value → ab_H → Option ab_O) (f_X11_cell : List Value → ab_H → Option ab_O) (f_X11_goesOn : List Value → ab_H → Option ab_O) (f_X11_back : List Value → ab_H → Option ab_O) : List (Nat × ab_A) := [
  (0, ab_nx 1 (ab_aload 0)),
  (1, ab_nx 2 (ab_lit (.int 0))),
  (2, ab_nx 5 (ab_putf 11 0 0)),
  (5, ab_nx 6 (ab_aload 0)),
  (6, ab_nx 7 (ab_iload 1)),
  (7, ab_nx 8 (ab_iload 2)),
  (8, ab_nx 11 (ab_callV 3 11 f_X11_isPlace 0 0 0 0)),
  (11, ab_if 14 16 (fun x => !decide (x = 0))),
  (14, ab_nx 15 (ab_lit (.int (-1)))),
  (15, ab_ret 0 0),
  (16, ab_nx 17 (ab_aload 0)),
  (17, ab_nx 20 (ab_callV 1 11 f_X11_tries 0 0 0 0)),
  (20, ab_nx 21 (ab_aload 0)),
  (21, ab_nx 24 (ab_getf 11 6)),
  (24, ab_nx 27 (ab_lit (.int 160))),
  (27, ab_nx 28 (ab_iload 1)),
  (28, ab_nx 29 (ab_iload 2)),
  (29, ab_nx 32 (ab_call 2 f_X11_cell 0 0 0 0)),
  (32, ab_nx 33 (ab_bin (fun x y => x + y))),
  (33, ab_nx 34 (ab_ald 1)),
  (34, ab_nx 35 (ab_istore 3)),
  (35, ab_nx 36 (ab_lit (.int (-1)))),
  (36, ab_nx 38 (ab_istore 4)),
  (38, ab_nx 39 (ab_lit (.int 0))),
  (39, ab_nx 41 (ab_istore 5)),
  (41, ab_nx 43 (ab_iload 5)),
  (43, ab_nx 45 (ab_lit (.int 100))),
  (45, ab_icmp 48 97 (fun x y => decide (y ≤ x))),
  (48, ab_nx 50 (ab_iload 4)),
  (50, ab_if 53 97 (fun x => decide (0 ≤ x))),
  (53, ab_nx 54 (ab_aload 0)),
  (54, ab_nx 55 (ab_lit (.int 1))),
  (55, ab_nx 58 (ab_callV 2 11 f_X11_goesOn 0 0 0 0)),
  (58, ab_nx 59 (ab_lit (.int 1))),
  (59, ab_icmp 62 97 (fun x y => !decide (x = y))),
  (62, ab_nx 63 (ab_aload 0)),
  (63, ab_nx 66 (ab_getf 11 6)),
  (66, ab_nx 69 (ab_lit (.int 160))),
  (69, ab_nx 70 (ab_iload 1)),
  (70, ab_nx 71 (ab_iload 2)),
  (71, ab_nx 74 (ab_call 2 f_X11_cell 0 0 0 0)),
  (74, ab_nx 75 (ab_bin (fun x y => x + y))),
  (75, ab_nx 76 (ab_ald 1)),
  (76, ab_nx 77 (ab_iload 3)),
  (77, ab_icmp 80 91 (fun x y => decide (x ≤ y))),
  (80, ab_nx 81 (ab_aload 0)),
  (81, ab_nx 84 (ab_getf 11 6)),
  (84, ab_nx 86 (ab_lit (.int 120))),
  (86, ab_nx 87 (ab_ald 1)),
  (87, ab_nx 88 (ab_lit (.int 1))),
  (88, ab_nx 89 (ab_bin (fun x y => x - y))),
  (89, ab_nx 91 (ab_istore 4)),
  (91, ab_nx 94 (ab_iinc 5 1)),
  (94, ab_goto 41),
  (97, ab_nx 98 (ab_aload 0)),
  (98, ab_nx 101 (ab_callV 1 11 f_X11_back 0 0 0 0)),
  (101, ab_nx 103 (ab_iload 4)),
  (103, ab_ret 0 0)]
set_option maxRecDepth 100000 in
theorem dq38_25 : ([(0, .aload_n 0, 1), (1, .iconst 0, 1), (2, .putfield 1, 3), (5, .aload_n 0, 1), (6, .iload_n 1, 1), (7, .iload_n 2, 1), (8, .invokevirtual 251, 3), (11, .ifCond .ne 5, 3), (14, .iconst (-1), 1), (15, .ireturn, 1), (16, .aload_n 0, 1), (17, .invokevirtual 317, 3), (20, .aload_n 0, 1), (21, .getfield 33, 3), (24, .sipush 160, 3), (27, .iload_n 1, 1)] : List (Nat × Instr × Nat)).all (fun q => decide (decode cX11_comes q.1 = .ok q.2)) = true := by decide +kernel
set_option maxRecDepth 100000 in
theorem dq38_26 : ([(28, .iload_n 2, 1), (29, .invokestatic 245, 3), (32, .iadd, 1), (33, .iaload, 1), (34, .istore_n 3, 1), (35, .iconst (-1), 1), (36, .istore 4, 2), (38, .iconst 0, 1), (39, .istore 5, 2), (41, .iload 5, 2), (43, .bipush 100, 2), (45, .if_icmp .ge 52, 3), (48, .iload 4, 2), (50, .ifCond .ge 47, 3), (53, .aload_n 0, 1), (54, .iconst 1, 1)] : List (Nat × Instr × Nat)).all (fun q => decide (decode cX11_comes q.1 = .ok q.2)) = true := by decide +kernel
set_option maxRecDepth 100000 in
theorem dq38_27 : ([(55, .invokevirtual 314, 3), (58, .iconst 1, 1), (59, .if_icmp .ne 38, 3), (62, .aload_n 0, 1), (63, .getfield 33, 3), (66, .sipush 160, 3), (69, .iload_n 1, 1), (70, .iload_n 2, 1), (71, .invokestatic 245, 3), (74, .iadd, 1), (75, .iaload, 1), (76, .iload_n 3, 1), (77, .if_icmp .le 14, 3), (80, .aload_n 0, 1), (81, .getfield 33, 3), (84, .bipush 120, 2)] : List (Nat × Instr × Nat)).all (fun q => decide (decode cX11_comes q.1 = .ok q.2)) = true := by decide +kernel
set_option maxRecDepth 100000 in
theorem dq38_28 : ([(86, .iaload, 1), (87, .iconst 1, 1), (88, .isub, 1), (89, .istore 4, 2), (91, .iinc 5 1, 3), (94, .goto (-53), 3), (97, .aload_n 0, 1), (98, .invokevirtual 320, 3), (101, .iload 4, 2), (103, .ireturn, 1)] : List (Nat × Instr × Nat)).all (fun q => decide (decode cX11_comes q.1 = .ok q.2)) = true := by decide +kernel
set_option maxRecDepth 100000 in
set_option maxHeartbeats 4000000 in
theorem M_X11_comes {l : Launch} {b : ab_B} {D : va_G} {cA : Nat → ClassId} {f_X11_isPlace : List Value → ab_H → Option ab_O} (h_X11_isPlace : ab_M l b D ab_cl cA (ab_E0 b) yX11_isPlace (Cond.code yX11_isPlace cX11_isPlace 3 (some .boolean) :: ab_G) ({ frames := 3, cells := 0, slots := 0, locals := 300 } : Room) f_X11_isPlace) {f_X11_tries : List Value → ab_H → Option ab_O} (h_X11_tries : ab_M l b D ab_cl cA (ab_E0 b) yX11_tries (Cond.code yX11_tries cX11_tries 2 none :: ab_G) ({ frames := 1, cells := 0, slots := 0, locals := 100 } : Room) f_X11_tries) {f_X11_cell : List Value → ab_H → Option ab_O} (h_X11_cell : ab_M l b D ab_cl cA (ab_E0 b) yX11_cell (Cond.code yX11_cell cX11_cell 2 (some .int) :: ab_G) ({ frames := 1, cells := 0, slots := 0, locals := 100 } : Room) f_X11_cell) {f_X11_goesOn : List Value → ab_H → Option ab_O} (h_X11_goesOn : ab_M l b D ab_cl cA (ab_E0 b) yX11_goesOn (Cond.code yX11_goesOn cX11_goesOn 3 (some .int) :: ab_G) ({ frames := 8, cells := 0, slots := 0, locals := 800 } : Room) f_X11_goesOn) {f_X11_back : List Value → ab_H → Option ab_O} (h_X11_back : ab_M l b D ab_cl cA (ab_E0 b) yX11_back (Cond.code yX11_back cX11_back 2 none :: ab_G) ({ frames := 1, cells := 0, slots := 0, locals := 100 } : Room) f_X11_back) : ab_M l b D ab_cl cA (ab_E0 b) yX11_comes (Cond.code yX11_comes cX11_comes 6 (some .int) :: ab_G) ({ frames := 9, cells := 0, slots := 0, locals := 900 } : Room) (ab_X (ab_T (L_X11_comes f_X11_isPlace f_X11_tries f_X11_cell f_X11_goesOn f_X11_back)) 6) := by
  refine ab_meth (ret := (some .int)) (L_X11_comes f_X11_isPlace f_X11_tries f_X11_cell f_X11_goesOn f_X11_back) (by decide) rfl fun p e R s m args below meth c o C => ?_
  unfold L_X11_comes
  refine List.forall_mem_cons.mpr ⟨ok_aload_n C (show decode cX11_comes 0 = .ok (.aload_n 0, 1) from dk_at dq38_25 (i := 0) rfl) rfl rfl, ?_⟩
  refine List.forall_mem_cons.mpr ⟨ok_iconst C (show decode cX11_comes 1 = .ok (.iconst 0, 1) from dk_at dq38_25 (i := 1) rfl) (by decide) rfl, ?_⟩
  refine List.forall_mem_cons.mpr ⟨ok_putf C (wi_X11) tyX11 tyX11_ok nmX11 rfl (by decide) kw_1180 (Or.inl rfl) (Or.inl ⟨rfl, rfl⟩) (show decode cX11_comes 2 = .ok (.putfield 1, 3) from dk_at dq38_25 (i := 2) rfl) rfl, ?_⟩
  refine List.forall_mem_cons.mpr ⟨ok_aload_n C (show decode cX11_comes 5 = .ok (.aload_n 0, 1) from dk_at dq38_25 (i := 3) rfl) rfl rfl, ?_⟩
  refine List.forall_mem_cons.mpr ⟨ok_iload_n C (show decode cX11_comes 6 = .ok (.iload_n 1, 1) from dk_at dq38_25 (i := 4) rfl) rfl rfl, ?_⟩
  refine List.forall_mem_cons.mpr ⟨ok_iload_n C (show decode cX11_comes 7 = .ok (.iload_n 2, 1) from dk_at dq38_25 (i := 5) rfl) rfl rfl, ?_⟩
  refine List.forall_mem_cons.mpr ⟨ok_callV C h_X11_isPlace ⟨rfl, rfl⟩ rfl kw_1402 kw_1399 kw_1401 kp_64 kw_11 rfl ds_X11_isPlace ⟨by decide, by decide⟩ (show decode cX11_comes 8 = .ok (.invokevirtual 251, 3) from dk_at dq38_25 (i := 6) rfl) rfl, ?_⟩
  refine List.forall_mem_cons.mpr ⟨ok_ifne C (show decode cX11_comes 11 = .ok (.ifCond .ne 5, 3) from dk_at dq38_25 (i := 7) rfl) (tg := 16) (by decide) rfl rfl, ?_⟩
  refine List.forall_mem_cons.mpr ⟨ok_iconst C (show decode cX11_comes 14 = .ok (.iconst (-1), 1) from dk_at dq38_25 (i := 8) rfl) (by decide) rfl, ?_⟩
  refine List.forall_mem_cons.mpr ⟨ok_ret C rfl (show decode cX11_comes 15 = .ok (.ireturn, 1) from dk_at dq38_25 (i := 9) rfl), ?_⟩
  refine List.forall_mem_cons.mpr ⟨ok_aload_n C (show decode cX11_comes 16 = .ok (.aload_n 0, 1) from dk_at dq38_25 (i := 10) rfl) rfl rfl, ?_⟩
  refine List.forall_mem_cons.mpr ⟨ok_callV C h_X11_tries ⟨rfl, rfl⟩ rfl kw_1556 kw_1553 kw_1555 kp_86 kw_11 rfl ds_X11_tries ⟨by decide, by decide⟩ (show decode cX11_comes 17 = .ok (.invokevirtual 317, 3) from dk_at dq38_25 (i := 11) rfl) rfl, ?_⟩
  refine List.forall_mem_cons.mpr ⟨ok_aload_n C (show decode cX11_comes 20 = .ok (.aload_n 0, 1) from dk_at dq38_25 (i := 12) rfl) rfl rfl, ?_⟩
  refine List.forall_mem_cons.mpr ⟨ok_getf C (wi_X11) rfl (by decide) kw_1186 (show decode cX11_comes 21 = .ok (.getfield 33, 3) from dk_at dq38_25 (i := 13) rfl) rfl, ?_⟩
  refine List.forall_mem_cons.mpr ⟨ok_sipush C (show decode cX11_comes 24 = .ok (.sipush 160, 3) from dk_at dq38_25 (i := 14) rfl) (by decide) rfl, ?_⟩
  refine List.forall_mem_cons.mpr ⟨ok_iload_n C (show decode cX11_comes 27 = .ok (.iload_n 1, 1) from dk_at dq38_25 (i := 15) rfl) rfl rfl, ?_⟩
  refine List.forall_mem_cons.mpr ⟨ok_iload_n C (show decode cX11_comes 28 = .ok (.iload_n 2, 1) from dk_at dq38_26 (i := 0) rfl) rfl rfl, ?_⟩
  refine List.forall_mem_cons.mpr ⟨ok_callS C h_X11_cell ⟨rfl, rfl⟩ kw_1413 kw_1411 kw_1412 kw_11 ds_X11_cell ⟨by decide, by decide⟩ (show decode cX11_comes 29 = .ok (.invokestatic 245, 3) from dk_at dq38_26 (i := 1) rfl) rfl, ?_⟩
  refine List.forall_mem_cons.mpr ⟨ok_iadd C (show decode cX11_comes 32 = .ok (.iadd, 1) from dk_at dq38_26 (i := 2) rfl) rfl, ?_⟩
  refine List.forall_mem_cons.mpr ⟨ok_iaload C (show decode cX11_comes 33 = .ok (.iaload, 1) from dk_at dq38_26 (i := 3) rfl) rfl, ?_⟩
  refine List.forall_mem_cons.mpr ⟨ok_istore_n C (show decode cX11_comes 34 = .ok (.istore_n 3, 1) from dk_at dq38_26 (i := 4) rfl) rfl (by decide) rfl, ?_⟩
  refine List.forall_mem_cons.mpr ⟨ok_iconst C (show decode cX11_comes 35 = .ok (.iconst (-1), 1) from dk_at dq38_26 (i := 5) rfl) (by decide) rfl, ?_⟩
  refine List.forall_mem_cons.mpr ⟨ok_istore C (show decode cX11_comes 36 = .ok (.istore 4, 2) from dk_at dq38_26 (i := 6) rfl) (by decide) rfl, ?_⟩
  refine List.forall_mem_cons.mpr ⟨ok_iconst C (show decode cX11_comes 38 = .ok (.iconst 0, 1) from dk_at dq38_26 (i := 7) rfl) (by decide) rfl, ?_⟩
  refine List.forall_mem_cons.mpr ⟨ok_istore C (show decode cX11_comes 39 = .ok (.istore 5, 2) from dk_at dq38_26 (i := 8) rfl) (by decide) rfl, ?_⟩
  refine List.forall_mem_cons.mpr ⟨ok_iload C (show decode cX11_comes 41 = .ok (.iload 5, 2) from dk_at dq38_26 (i := 9) rfl) rfl, ?_⟩
  refine List.forall_mem_cons.mpr ⟨ok_bipush C (show decode cX11_comes 43 = .ok (.bipush 100, 2) from dk_at dq38_26 (i := 10) rfl) (by decide) rfl, ?_⟩
  refine List.forall_mem_cons.mpr ⟨ok_icmpge C (show decode cX11_comes 45 = .ok (.if_icmp .ge 52, 3) from dk_at dq38_26 (i := 11) rfl) (tg := 97) (by decide) rfl rfl, ?_⟩
  refine List.forall_mem_cons.mpr ⟨ok_iload C (show decode cX11_comes 48 = .ok (.iload 4, 2) from dk_at dq38_26 (i := 12) rfl) rfl, ?_⟩
  refine List.forall_mem_cons.mpr ⟨ok_ifge C (show decode cX11_comes 50 = .ok (.ifCond .ge 47, 3) from dk_at dq38_26 (i := 13) rfl) (tg := 97) (by decide) rfl rfl, ?_⟩
  refine List.forall_mem_cons.mpr ⟨ok_aload_n C (show decode cX11_comes 53 = .ok (.aload_n 0, 1) from dk_at dq38_26 (i := 14) rfl) rfl rfl, ?_⟩
  refine List.forall_mem_cons.mpr ⟨ok_iconst C (show decode cX11_comes 54 = .ok (.iconst 1, 1) from dk_at dq38_26 (i := 15) rfl) (by decide) rfl, ?_⟩
  refine List.forall_mem_cons.mpr ⟨ok_callV C h_X11_goesOn ⟨rfl, rfl⟩ rfl kw_1509 kw_1506 kw_1508 kp_81 kw_11 rfl ds_X11_goesOn ⟨by decide, by decide⟩ (show decode cX11_comes 55 = .ok (.invokevirtual 314, 3) from dk_at dq38_27 (i := 0) rfl) rfl, ?_⟩
  refine List.forall_mem_cons.mpr ⟨ok_iconst C (show decode cX11_comes 58 = .ok (.iconst 1, 1) from dk_at dq38_27 (i := 1) rfl) (by decide) rfl, ?_⟩
  refine List.forall_mem_cons.mpr ⟨ok_icmpne C (show decode cX11_comes 59 = .ok (.if_icmp .ne 38, 3) from dk_at dq38_27 (i := 2) rfl) (tg := 97) (by decide) rfl rfl, ?_⟩
  refine List.forall_mem_cons.mpr ⟨ok_aload_n C (show decode cX11_comes 62 = .ok (.aload_n 0, 1) from dk_at dq38_27 (i := 3) rfl) rfl rfl, ?_⟩
  refine List.forall_mem_cons.mpr ⟨ok_getf C (wi_X11) rfl (by decide) kw_1186 (show decode cX11_comes 63 = .ok (.getfield 33, 3) from dk_at dq38_27 (i := 4) rfl) rfl, ?_⟩
  refine List.forall_mem_cons.mpr ⟨ok_sipush C (show decode cX11_comes 66 = .ok (.sipush 160, 3) from dk_at dq38_27 (i := 5) rfl) (by decide) rfl, ?_⟩
  refine List.forall_mem_cons.mpr ⟨ok_iload_n C (show decode cX11_comes 69 = .ok (.iload_n 1, 1) from dk_at dq38_27 (i := 6) rfl) rfl rfl, ?_⟩
  refine List.forall_mem_cons.mpr ⟨ok_iload_n C (show decode cX11_comes 70 = .ok (.iload_n 2, 1) from dk_at dq38_27 (i := 7) rfl) rfl rfl, ?_⟩
  refine List.forall_mem_cons.mpr ⟨ok_callS C h_X11_cell ⟨rfl, rfl⟩ kw_1413 kw_1411 kw_1412 kw_11 ds_X11_cell ⟨by decide, by decide⟩ (show decode cX11_comes 71 = .ok (.invokestatic 245, 3) from dk_at dq38_27 (i := 8) rfl) rfl, ?_⟩
  refine List.forall_mem_cons.mpr ⟨ok_iadd C (show decode cX11_comes 74 = .ok (.iadd, 1) from dk_at dq38_27 (i := 9) rfl) rfl, ?_⟩
  refine List.forall_mem_cons.mpr ⟨ok_iaload C (show decode cX11_comes 75 = .ok (.iaload, 1) from dk_at dq38_27 (i := 10) rfl) rfl, ?_⟩
  refine List.forall_mem_cons.mpr ⟨ok_iload_n C (show decode cX11_comes 76 = .ok (.iload_n 3, 1) from dk_at dq38_27 (i := 11) rfl) rfl rfl, ?_⟩
  refine List.forall_mem_cons.mpr ⟨ok_icmple C (show decode cX11_comes 77 = .ok (.if_icmp .le 14, 3) from dk_at dq38_27 (i := 12) rfl) (tg := 91) (by decide) rfl rfl, ?_⟩
  refine List.forall_mem_cons.mpr ⟨ok_aload_n C (show decode cX11_comes 80 = .ok (.aload_n 0, 1) from dk_at dq38_27 (i := 13) rfl) rfl rfl, ?_⟩
  refine List.forall_mem_cons.mpr ⟨ok_getf C (wi_X11) rfl (by decide) kw_1186 (show decode cX11_comes 81 = .ok (.getfield 33, 3) from dk_at dq38_27 (i := 14) rfl) rfl, ?_⟩
  refine List.forall_mem_cons.mpr ⟨ok_bipush C (show decode cX11_comes 84 = .ok (.bipush 120, 2) from dk_at dq38_27 (i := 15) rfl) (by decide) rfl, ?_⟩
  refine List.forall_mem_cons.mpr ⟨ok_iaload C (show decode cX11_comes 86 = .ok (.iaload, 1) from dk_at dq38_28 (i := 0) rfl) rfl, ?_⟩
  refine List.forall_mem_cons.mpr ⟨ok_iconst C (show decode cX11_comes 87 = .ok (.iconst 1, 1) from dk_at dq38_28 (i := 1) rfl) (by decide) rfl, ?_⟩
  refine List.forall_mem_cons.mpr ⟨ok_isub C (show decode cX11_comes 88 = .ok (.isub, 1) from dk_at dq38_28 (i := 2) rfl) rfl, ?_⟩
  refine List.forall_mem_cons.mpr ⟨ok_istore C (show decode cX11_comes 89 = .ok (.istore 4, 2) from dk_at dq38_28 (i := 3) rfl) (by decide) rfl, ?_⟩
  refine List.forall_mem_cons.mpr ⟨ok_iinc C (show decode cX11_comes 91 = .ok (.iinc 5 1, 3) from dk_at dq38_28 (i := 4) rfl) (by decide) (by decide) rfl, ?_⟩
  refine List.forall_mem_cons.mpr ⟨ok_goto C (show decode cX11_comes 94 = .ok (.goto (-53), 3) from dk_at dq38_28 (i := 5) rfl) (tg := 41) (by decide) rfl, ?_⟩
  refine List.forall_mem_cons.mpr ⟨ok_aload_n C (show decode cX11_comes 97 = .ok (.aload_n 0, 1) from dk_at dq38_28 (i := 6) rfl) rfl rfl, ?_⟩
  refine List.forall_mem_cons.mpr ⟨ok_callV C h_X11_back ⟨rfl, rfl⟩ rfl kw_1560 kw_1557 kw_1559 kp_87 kw_11 rfl ds_X11_back ⟨by decide, by decide⟩ (show decode cX11_comes 98 = .ok (.invokevirtual 320, 3) from dk_at dq38_28 (i := 7) rfl) rfl, ?_⟩
  refine List.forall_mem_cons.mpr ⟨ok_iload C (show decode cX11_comes 101 = .ok (.iload 4, 2) from dk_at dq38_28 (i := 8) rfl) rfl, ?_⟩
  refine List.forall_mem_cons.mpr ⟨ok_ret C rfl (show decode cX11_comes 103 = .ok (.ireturn, 1) from dk_at dq38_28 (i := 9) rfl), ?_⟩
  exact fun _ h => absurd h List.not_mem_nil
def L_X11_without (f_X11_isPlace : List Value → ab_H → Option ab_O) (f_X11_isIn : List Value → ab_H → Option ab_O) (f_X11_tries : List Value → ab_H → Option ab_O) (f_X11_cell : List Value → ab_H → Option ab_O) (f_X11_goesOn : List Value → ab_H → Option ab_O) (f_X11_back : List Value → ab_H → Option ab_O) : List (Nat × ab_A) := [
  (0, ab_nx 1 (ab_aload 0)),
  (1, ab_nx 2 (ab_lit (.int 0))),
  (2, ab_nx 5 (ab_putf 11 0 0)),
  (5, ab_nx 6 (ab_aload 0)),
  (6, ab_nx 7 (ab_iload 1)),
  (7, ab_nx 8 (ab_iload 2)),
  (8, ab_nx 11 (ab_callV 3 11 f_X11_isPlace 0 0 0 0)),
  (11, ab_if 14 36 (fun x => decide (x = 0))),
  (14, ab_nx 15 (ab_iload 3)),
  (15, ab_nx 16 (ab_lit (.int 1))),
  (16, ab_nx 19 (ab_lit (.int 250))),
  (19, ab_nx 22 (ab_call 3 f_X11_isIn 0 0 0 0)),
  (22, ab_if 25 36 (fun x => decide (x = 0))),
  (25, ab_nx 27 (ab_iload 4)),
  (27, ab_nx 28 (ab_lit (.int 1))),
  (28, ab_nx 30 (ab_lit (.int 60))),
  (30, ab_nx 33 (ab_call 3 f_X11_isIn 0 0 0 0)),
  (33, ab_if 36 38 (fun x => !decide (x = 0))),
  (36, ab_nx 37 (ab_lit (.int (-1)))),
  (37, ab_ret 0 0),
  (38, ab_nx 39 (ab_aload 0)),
  (39, ab_nx 42 (ab_callV 1 11 f_X11_tries 0 0 0 0)),
  (42, ab_nx 43 (ab_iload 1)),
  (43, ab_nx 44 (ab_iload 2)),
  (44, ab_nx 47 (ab_call 2 f_X11_cell 0 0 0 0)),
  (47, ab_nx 49 (ab_istore 5)),
  (49, ab_nx 50 (ab_aload 0)),
  (50, ab_nx 53 (ab_getf 11 6)),
  (53, ab_nx 56 (ab_lit (.int 160))),
  (56, ab_nx 58 (ab_iload 5)),
  (58, ab_nx 59 (ab_bin (fun x y => x + y))),
  (59, ab_nx 60 (ab_ald 1)),
  (60, ab_nx 62 (ab_istore 6)),
  (62, ab_nx 63 (ab_aload 0)),
  (63, ab_nx 66 (ab_getf 11 6)),
  (66, ab_nx 68 (ab_lit (.int 124))),
  (68, ab_nx 70 (ab_iload 5)),
  (70, ab_nx 71 (ab_bin (fun x y => x + y))),
  (71, ab_nx 72 (ab_ald 1)),
  (72, ab_nx 74 (ab_istore 7)),
  (74, ab_nx 75 (ab_lit (.int (-1)))),
  (75, ab_nx 77 (ab_istore 8)),
  (77, ab_nx 78 (ab_lit (.int 0))),
  (78, ab_nx 80 (ab_istore 9)),
  (80, ab_nx 82 (ab_iload 9)),
  (82, ab_nx 84 (ab_iload 7)),
  (84, ab_icmp 87 146 (fun x y => decide (y < x))),
  (87, ab_nx 89 (ab_iload 8)),
  (89, ab_if 92 146 (fun x => decide (0 ≤ x))),
  (92, ab_nx 93 (ab_aload 0)),
  (93, ab_nx 96 (ab_getf 11 6)),
  (96, ab_nx 98 (ab_lit (.int 124))),
  (98, ab_nx 100 (ab_iload 5)),
  (100, ab_nx 101 (ab_bin (fun x y => x + y))),
  (101, ab_nx 102 ab_dup2),
  (102, ab_nx 103 (ab_ald 1)),
  (103, ab_nx 105 (ab_iload 9)),
  (105, ab_nx 106 (ab_bin (fun x y => x - y))),
  (106, ab_nx 107 (ab_ast 1)),
  (107, ab_nx 108 (ab_aload 0)),
  (108, ab_nx 110 (ab_iload 4)),
  (110, ab_nx 113 (ab_callV 2 11 f_X11_goesOn 0 0 0 0)),
  (113, ab_nx 114 ab_pop),
  (114, ab_nx 115 (ab_aload 0)),
  (115, ab_nx 118 (ab_getf 11 6)),
  (118, ab_nx 121 (ab_lit (.int 160))),
  (121, ab_nx 123 (ab_iload 5)),
  (123, ab_nx 124 (ab_bin (fun x y => x + y))),
  (124, ab_nx 125 (ab_ald 1)),
  (125, ab_nx 127 (ab_iload 6)),
  (127, ab_nx 128 (ab_bin (fun x y => x - y))),
  (128, ab_nx 129 (ab_iload 3)),
  (129, ab_icmp 132 136 (fun x y => decide (x < y))),
  (132, ab_nx 134 (ab_iload 9)),
  (134, ab_nx 136 (ab_istore 8)),
  (136, ab_nx 137 (ab_aload 0)),
  (137, ab_nx 140 (ab_callV 1 11 f_X11_back 0 0 0 0)),
  (140, ab_nx 143 (ab_iinc 9 1)),
  (143, ab_goto 80),
  (146, ab_nx 148 (ab_iload 8)),
  (148, ab_ret 0 0)]
set_option maxRecDepth 100000 in
theorem dq38_29 : ([(0, .aload_n 0, 1), (1, .iconst 0, 1), (2, .putfield 1, 3), (5, .aload_n 0, 1), (6, .iload_n 1, 1), (7, .iload_n 2, 1), (8, .invokevirtual 251, 3), (11, .ifCond .eq 25, 3), (14, .iload_n 3, 1), (15, .iconst 1, 1), (16, .sipush 250, 3), (19, .invokestatic 179, 3), (22, .ifCond .eq 14, 3), (25, .iload 4, 2), (27, .iconst 1, 1), (28, .bipush 60, 2)] : List (Nat × Instr × Nat)).all (fun q => decide (decode cX11_without q.1 = .ok q.2)) = true := by decide +kernel
set_option maxRecDepth 100000 in
theorem dq38_30 : ([(30, .invokestatic 179, 3), (33, .ifCond .ne 5, 3), (36, .iconst (-1), 1), (37, .ireturn, 1), (38, .aload_n 0, 1), (39, .invokevirtual 317, 3), (42, .iload_n 1, 1), (43, .iload_n 2, 1), (44, .invokestatic 245, 3), (47, .istore 5, 2), (49, .aload_n 0, 1), (50, .getfield 33, 3), (53, .sipush 160, 3), (56, .iload 5, 2), (58, .iadd, 1), (59, .iaload, 1)] : List (Nat × Instr × Nat)).all (fun q => decide (decode cX11_without q.1 = .ok q.2)) = true := by decide +kernel
set_option maxRecDepth 100000 in
theorem dq38_31 : ([(60, .istore 6, 2), (62, .aload_n 0, 1), (63, .getfield 33, 3), (66, .bipush 124, 2), (68, .iload 5, 2), (70, .iadd, 1), (71, .iaload, 1), (72, .istore 7, 2), (74, .iconst (-1), 1), (75, .istore 8, 2), (77, .iconst 0, 1), (78, .istore 9, 2), (80, .iload 9, 2), (82, .iload 7, 2), (84, .if_icmp .gt 62, 3), (87, .iload 8, 2)] : List (Nat × Instr × Nat)).all (fun q => decide (decode cX11_without q.1 = .ok q.2)) = true := by decide +kernel
set_option maxRecDepth 100000 in
theorem dq38_32 : ([(89, .ifCond .ge 57, 3), (92, .aload_n 0, 1), (93, .getfield 33, 3), (96, .bipush 124, 2), (98, .iload 5, 2), (100, .iadd, 1), (101, .dup2, 1), (102, .iaload, 1), (103, .iload 9, 2), (105, .isub, 1), (106, .iastore, 1), (107, .aload_n 0, 1), (108, .iload 4, 2), (110, .invokevirtual 314, 3), (113, .pop, 1), (114, .aload_n 0, 1)] : List (Nat × Instr × Nat)).all (fun q => decide (decode cX11_without q.1 = .ok q.2)) = true := by decide +kernel
set_option maxRecDepth 100000 in
theorem dq38_33 : ([(115, .getfield 33, 3), (118, .sipush 160, 3), (121, .iload 5, 2), (123, .iadd, 1), (124, .iaload, 1), (125, .iload 6, 2), (127, .isub, 1), (128, .iload_n 3, 1), (129, .if_icmp .lt 7, 3), (132, .iload 9, 2), (134, .istore 8, 2), (136, .aload_n 0, 1), (137, .invokevirtual 320, 3), (140, .iinc 9 1, 3), (143, .goto (-63), 3), (146, .iload 8, 2)] : List (Nat × Instr × Nat)).all (fun q => decide (decode cX11_without q.1 = .ok q.2)) = true := by decide +kernel
set_option maxRecDepth 100000 in
theorem dq38_34 : ([(148, .ireturn, 1)] : List (Nat × Instr × Nat)).all (fun q => decide (decode cX11_without q.1 = .ok q.2)) = true := by decide +kernel
set_option maxRecDepth 100000 in
set_option maxHeartbeats 4000000 in
theorem M_X11_without {l : Launch} {b : ab_B} {D : va_G} {cA : Nat → ClassId} {f_X11_isPlace : List Value → ab_H → Option ab_O} (h_X11_isPlace : ab_M l b D ab_cl cA (ab_E0 b) yX11_isPlace (Cond.code yX11_isPlace cX11_isPlace 3 (some .boolean) :: ab_G) ({ frames := 3, cells := 0, slots := 0, locals := 300 } : Room) f_X11_isPlace) {f_X11_isIn : List Value → ab_H → Option ab_O} (h_X11_isIn : ab_M l b D ab_cl cA (ab_E0 b) yX11_isIn (Cond.code yX11_isIn cX11_isIn 3 (some .boolean) :: ab_G) ({ frames := 1, cells := 0, slots := 0, locals := 100 } : Room) f_X11_isIn) {f_X11_tries : List Value → ab_H → Option ab_O} (h_X11_tries : ab_M l b D ab_cl cA (ab_E0 b) yX11_tries (Cond.code yX11_tries cX11_tries 2 none :: ab_G) ({ frames := 1, cells := 0, slots := 0, locals := 100 } : Room) f_X11_tries) {f_X11_cell : List Value → ab_H → Option ab_O} (h_X11_cell : ab_M l b D ab_cl cA (ab_E0 b) yX11_cell (Cond.code yX11_cell cX11_cell 2 (some .int) :: ab_G) ({ frames := 1, cells := 0, slots := 0, locals := 100 } : Room) f_X11_cell) {f_X11_goesOn : List Value → ab_H → Option ab_O} (h_X11_goesOn : ab_M l b D ab_cl cA (ab_E0 b) yX11_goesOn (Cond.code yX11_goesOn cX11_goesOn 3 (some .int) :: ab_G) ({ frames := 8, cells := 0, slots := 0, locals := 800 } : Room) f_X11_goesOn) {f_X11_back : List Value → ab_H → Option ab_O} (h_X11_back : ab_M l b D ab_cl cA (ab_E0 b) yX11_back (Cond.code yX11_back cX11_back 2 none :: ab_G) ({ frames := 1, cells := 0, slots := 0, locals := 100 } : Room) f_X11_back) : ab_M l b D ab_cl cA (ab_E0 b) yX11_without (Cond.code yX11_without cX11_without 10 (some .int) :: ab_G) ({ frames := 9, cells := 0, slots := 0, locals := 900 } : Room) (ab_X (ab_T (L_X11_without f_X11_isPlace f_X11_isIn f_X11_tries f_X11_cell f_X11_goesOn f_X11_back)) 10) := by
  refine ab_meth (ret := (some .int)) (L_X11_without f_X11_isPlace f_X11_isIn f_X11_tries f_X11_cell f_X11_goesOn f_X11_back) (by decide) rfl fun p e R s m args below meth c o C => ?_
  unfold L_X11_without
  refine List.forall_mem_cons.mpr ⟨ok_aload_n C (show decode cX11_without 0 = .ok (.aload_n 0, 1) from dk_at dq38_29 (i := 0) rfl) rfl rfl, ?_⟩
  refine List.forall_mem_cons.mpr ⟨ok_iconst C (show decode cX11_without 1 = .ok (.iconst 0, 1) from dk_at dq38_29 (i := 1) rfl) (by decide) rfl, ?_⟩
  refine List.forall_mem_cons.mpr ⟨ok_putf C (wi_X11) tyX11 tyX11_ok nmX11 rfl (by decide) kw_1180 (Or.inl rfl) (Or.inl ⟨rfl, rfl⟩) (show decode cX11_without 2 = .ok (.putfield 1, 3) from dk_at dq38_29 (i := 2) rfl) rfl, ?_⟩
  refine List.forall_mem_cons.mpr ⟨ok_aload_n C (show decode cX11_without 5 = .ok (.aload_n 0, 1) from dk_at dq38_29 (i := 3) rfl) rfl rfl, ?_⟩
  refine List.forall_mem_cons.mpr ⟨ok_iload_n C (show decode cX11_without 6 = .ok (.iload_n 1, 1) from dk_at dq38_29 (i := 4) rfl) rfl rfl, ?_⟩
  refine List.forall_mem_cons.mpr ⟨ok_iload_n C (show decode cX11_without 7 = .ok (.iload_n 2, 1) from dk_at dq38_29 (i := 5) rfl) rfl rfl, ?_⟩
  refine List.forall_mem_cons.mpr ⟨ok_callV C h_X11_isPlace ⟨rfl, rfl⟩ rfl kw_1402 kw_1399 kw_1401 kp_64 kw_11 rfl ds_X11_isPlace ⟨by decide, by decide⟩ (show decode cX11_without 8 = .ok (.invokevirtual 251, 3) from dk_at dq38_29 (i := 6) rfl) rfl, ?_⟩
  refine List.forall_mem_cons.mpr ⟨ok_ifeq C (show decode cX11_without 11 = .ok (.ifCond .eq 25, 3) from dk_at dq38_29 (i := 7) rfl) (tg := 36) (by decide) rfl rfl, ?_⟩
  refine List.forall_mem_cons.mpr ⟨ok_iload_n C (show decode cX11_without 14 = .ok (.iload_n 3, 1) from dk_at dq38_29 (i := 8) rfl) rfl rfl, ?_⟩
  refine List.forall_mem_cons.mpr ⟨ok_iconst C (show decode cX11_without 15 = .ok (.iconst 1, 1) from dk_at dq38_29 (i := 9) rfl) (by decide) rfl, ?_⟩
  refine List.forall_mem_cons.mpr ⟨ok_sipush C (show decode cX11_without 16 = .ok (.sipush 250, 3) from dk_at dq38_29 (i := 10) rfl) (by decide) rfl, ?_⟩
  refine List.forall_mem_cons.mpr ⟨ok_callS C h_X11_isIn ⟨rfl, rfl⟩ kw_1355 kw_1353 kw_1354 kw_11 ds_X11_isIn ⟨by decide, by decide⟩ (show decode cX11_without 19 = .ok (.invokestatic 179, 3) from dk_at dq38_29 (i := 11) rfl) rfl, ?_⟩
  refine List.forall_mem_cons.mpr ⟨ok_ifeq C (show decode cX11_without 22 = .ok (.ifCond .eq 14, 3) from dk_at dq38_29 (i := 12) rfl) (tg := 36) (by decide) rfl rfl, ?_⟩
  refine List.forall_mem_cons.mpr ⟨ok_iload C (show decode cX11_without 25 = .ok (.iload 4, 2) from dk_at dq38_29 (i := 13) rfl) rfl, ?_⟩
  refine List.forall_mem_cons.mpr ⟨ok_iconst C (show decode cX11_without 27 = .ok (.iconst 1, 1) from dk_at dq38_29 (i := 14) rfl) (by decide) rfl, ?_⟩
  refine List.forall_mem_cons.mpr ⟨ok_bipush C (show decode cX11_without 28 = .ok (.bipush 60, 2) from dk_at dq38_29 (i := 15) rfl) (by decide) rfl, ?_⟩
  refine List.forall_mem_cons.mpr ⟨ok_callS C h_X11_isIn ⟨rfl, rfl⟩ kw_1355 kw_1353 kw_1354 kw_11 ds_X11_isIn ⟨by decide, by decide⟩ (show decode cX11_without 30 = .ok (.invokestatic 179, 3) from dk_at dq38_30 (i := 0) rfl) rfl, ?_⟩
  refine List.forall_mem_cons.mpr ⟨ok_ifne C (show decode cX11_without 33 = .ok (.ifCond .ne 5, 3) from dk_at dq38_30 (i := 1) rfl) (tg := 38) (by decide) rfl rfl, ?_⟩
  refine List.forall_mem_cons.mpr ⟨ok_iconst C (show decode cX11_without 36 = .ok (.iconst (-1), 1) from dk_at dq38_30 (i := 2) rfl) (by decide) rfl, ?_⟩
  refine List.forall_mem_cons.mpr ⟨ok_ret C rfl (show decode cX11_without 37 = .ok (.ireturn, 1) from dk_at dq38_30 (i := 3) rfl), ?_⟩
  refine List.forall_mem_cons.mpr ⟨ok_aload_n C (show decode cX11_without 38 = .ok (.aload_n 0, 1) from dk_at dq38_30 (i := 4) rfl) rfl rfl, ?_⟩
  refine List.forall_mem_cons.mpr ⟨ok_callV C h_X11_tries ⟨rfl, rfl⟩ rfl kw_1556 kw_1553 kw_1555 kp_86 kw_11 rfl ds_X11_tries ⟨by decide, by decide⟩ (show decode cX11_without 39 = .ok (.invokevirtual 317, 3) from dk_at dq38_30 (i := 5) rfl) rfl, ?_⟩
  refine List.forall_mem_cons.mpr ⟨ok_iload_n C (show decode cX11_without 42 = .ok (.iload_n 1, 1) from dk_at dq38_30 (i := 6) rfl) rfl rfl, ?_⟩
  refine List.forall_mem_cons.mpr ⟨ok_iload_n C (show decode cX11_without 43 = .ok (.iload_n 2, 1) from dk_at dq38_30 (i := 7) rfl) rfl rfl, ?_⟩
  refine List.forall_mem_cons.mpr ⟨ok_callS C h_X11_cell ⟨rfl, rfl⟩ kw_1413 kw_1411 kw_1412 kw_11 ds_X11_cell ⟨by decide, by decide⟩ (show decode cX11_without 44 = .ok (.invokestatic 245, 3) from dk_at dq38_30 (i := 8) rfl) rfl, ?_⟩
  refine List.forall_mem_cons.mpr ⟨ok_istore C (show decode cX11_without 47 = .ok (.istore 5, 2) from dk_at dq38_30 (i := 9) rfl) (by decide) rfl, ?_⟩
  refine List.forall_mem_cons.mpr ⟨ok_aload_n C (show decode cX11_without 49 = .ok (.aload_n 0, 1) from dk_at dq38_30 (i := 10) rfl) rfl rfl, ?_⟩
  refine List.forall_mem_cons.mpr ⟨ok_getf C (wi_X11) rfl (by decide) kw_1186 (show decode cX11_without 50 = .ok (.getfield 33, 3) from dk_at dq38_30 (i := 11) rfl) rfl, ?_⟩
  refine List.forall_mem_cons.mpr ⟨ok_sipush C (show decode cX11_without 53 = .ok (.sipush 160, 3) from dk_at dq38_30 (i := 12) rfl) (by decide) rfl, ?_⟩
  refine List.forall_mem_cons.mpr ⟨ok_iload C (show decode cX11_without 56 = .ok (.iload 5, 2) from dk_at dq38_30 (i := 13) rfl) rfl, ?_⟩
  refine List.forall_mem_cons.mpr ⟨ok_iadd C (show decode cX11_without 58 = .ok (.iadd, 1) from dk_at dq38_30 (i := 14) rfl) rfl, ?_⟩
  refine List.forall_mem_cons.mpr ⟨ok_iaload C (show decode cX11_without 59 = .ok (.iaload, 1) from dk_at dq38_30 (i := 15) rfl) rfl, ?_⟩
  refine List.forall_mem_cons.mpr ⟨ok_istore C (show decode cX11_without 60 = .ok (.istore 6, 2) from dk_at dq38_31 (i := 0) rfl) (by decide) rfl, ?_⟩
  refine List.forall_mem_cons.mpr ⟨ok_aload_n C (show decode cX11_without 62 = .ok (.aload_n 0, 1) from dk_at dq38_31 (i := 1) rfl) rfl rfl, ?_⟩
  refine List.forall_mem_cons.mpr ⟨ok_getf C (wi_X11) rfl (by decide) kw_1186 (show decode cX11_without 63 = .ok (.getfield 33, 3) from dk_at dq38_31 (i := 2) rfl) rfl, ?_⟩
  refine List.forall_mem_cons.mpr ⟨ok_bipush C (show decode cX11_without 66 = .ok (.bipush 124, 2) from dk_at dq38_31 (i := 3) rfl) (by decide) rfl, ?_⟩
  refine List.forall_mem_cons.mpr ⟨ok_iload C (show decode cX11_without 68 = .ok (.iload 5, 2) from dk_at dq38_31 (i := 4) rfl) rfl, ?_⟩
  refine List.forall_mem_cons.mpr ⟨ok_iadd C (show decode cX11_without 70 = .ok (.iadd, 1) from dk_at dq38_31 (i := 5) rfl) rfl, ?_⟩
  refine List.forall_mem_cons.mpr ⟨ok_iaload C (show decode cX11_without 71 = .ok (.iaload, 1) from dk_at dq38_31 (i := 6) rfl) rfl, ?_⟩
  refine List.forall_mem_cons.mpr ⟨ok_istore C (show decode cX11_without 72 = .ok (.istore 7, 2) from dk_at dq38_31 (i := 7) rfl) (by decide) rfl, ?_⟩
  refine List.forall_mem_cons.mpr ⟨ok_iconst C (show decode cX11_without 74 = .ok (.iconst (-1), 1) from dk_at dq38_31 (i := 8) rfl) (by decide) rfl, ?_⟩
  refine List.forall_mem_cons.mpr ⟨ok_istore C (show decode cX11_without 75 = .ok (.istore 8, 2) from dk_at dq38_31 (i := 9) rfl) (by decide) rfl, ?_⟩
  refine List.forall_mem_cons.mpr ⟨ok_iconst C (show decode cX11_without 77 = .ok (.iconst 0, 1) from dk_at dq38_31 (i := 10) rfl) (by decide) rfl, ?_⟩
  refine List.forall_mem_cons.mpr ⟨ok_istore C (show decode cX11_without 78 = .ok (.istore 9, 2) from dk_at dq38_31 (i := 11) rfl) (by decide) rfl, ?_⟩
  refine List.forall_mem_cons.mpr ⟨ok_iload C (show decode cX11_without 80 = .ok (.iload 9, 2) from dk_at dq38_31 (i := 12) rfl) rfl, ?_⟩
  refine List.forall_mem_cons.mpr ⟨ok_iload C (show decode cX11_without 82 = .ok (.iload 7, 2) from dk_at dq38_31 (i := 13) rfl) rfl, ?_⟩
  refine List.forall_mem_cons.mpr ⟨ok_icmpgt C (show decode cX11_without 84 = .ok (.if_icmp .gt 62, 3) from dk_at dq38_31 (i := 14) rfl) (tg := 146) (by decide) rfl rfl, ?_⟩
  refine List.forall_mem_cons.mpr ⟨ok_iload C (show decode cX11_without 87 = .ok (.iload 8, 2) from dk_at dq38_31 (i := 15) rfl) rfl, ?_⟩
  refine List.forall_mem_cons.mpr ⟨ok_ifge C (show decode cX11_without 89 = .ok (.ifCond .ge 57, 3) from dk_at dq38_32 (i := 0) rfl) (tg := 146) (by decide) rfl rfl, ?_⟩
  refine List.forall_mem_cons.mpr ⟨ok_aload_n C (show decode cX11_without 92 = .ok (.aload_n 0, 1) from dk_at dq38_32 (i := 1) rfl) rfl rfl, ?_⟩
  refine List.forall_mem_cons.mpr ⟨ok_getf C (wi_X11) rfl (by decide) kw_1186 (show decode cX11_without 93 = .ok (.getfield 33, 3) from dk_at dq38_32 (i := 2) rfl) rfl, ?_⟩
  refine List.forall_mem_cons.mpr ⟨ok_bipush C (show decode cX11_without 96 = .ok (.bipush 124, 2) from dk_at dq38_32 (i := 3) rfl) (by decide) rfl, ?_⟩
  refine List.forall_mem_cons.mpr ⟨ok_iload C (show decode cX11_without 98 = .ok (.iload 5, 2) from dk_at dq38_32 (i := 4) rfl) rfl, ?_⟩
  refine List.forall_mem_cons.mpr ⟨ok_iadd C (show decode cX11_without 100 = .ok (.iadd, 1) from dk_at dq38_32 (i := 5) rfl) rfl, ?_⟩
  refine List.forall_mem_cons.mpr ⟨ok_dup2 C (show decode cX11_without 101 = .ok (.dup2, 1) from dk_at dq38_32 (i := 6) rfl) rfl, ?_⟩
  refine List.forall_mem_cons.mpr ⟨ok_iaload C (show decode cX11_without 102 = .ok (.iaload, 1) from dk_at dq38_32 (i := 7) rfl) rfl, ?_⟩
  refine List.forall_mem_cons.mpr ⟨ok_iload C (show decode cX11_without 103 = .ok (.iload 9, 2) from dk_at dq38_32 (i := 8) rfl) rfl, ?_⟩
  refine List.forall_mem_cons.mpr ⟨ok_isub C (show decode cX11_without 105 = .ok (.isub, 1) from dk_at dq38_32 (i := 9) rfl) rfl, ?_⟩
  refine List.forall_mem_cons.mpr ⟨ok_iastore C (show decode cX11_without 106 = .ok (.iastore, 1) from dk_at dq38_32 (i := 10) rfl) rfl, ?_⟩
  refine List.forall_mem_cons.mpr ⟨ok_aload_n C (show decode cX11_without 107 = .ok (.aload_n 0, 1) from dk_at dq38_32 (i := 11) rfl) rfl rfl, ?_⟩
  refine List.forall_mem_cons.mpr ⟨ok_iload C (show decode cX11_without 108 = .ok (.iload 4, 2) from dk_at dq38_32 (i := 12) rfl) rfl, ?_⟩
  refine List.forall_mem_cons.mpr ⟨ok_callV C h_X11_goesOn ⟨rfl, rfl⟩ rfl kw_1509 kw_1506 kw_1508 kp_81 kw_11 rfl ds_X11_goesOn ⟨by decide, by decide⟩ (show decode cX11_without 110 = .ok (.invokevirtual 314, 3) from dk_at dq38_32 (i := 13) rfl) rfl, ?_⟩
  refine List.forall_mem_cons.mpr ⟨ok_pop C (show decode cX11_without 113 = .ok (.pop, 1) from dk_at dq38_32 (i := 14) rfl) rfl, ?_⟩
  refine List.forall_mem_cons.mpr ⟨ok_aload_n C (show decode cX11_without 114 = .ok (.aload_n 0, 1) from dk_at dq38_32 (i := 15) rfl) rfl rfl, ?_⟩
  refine List.forall_mem_cons.mpr ⟨ok_getf C (wi_X11) rfl (by decide) kw_1186 (show decode cX11_without 115 = .ok (.getfield 33, 3) from dk_at dq38_33 (i := 0) rfl) rfl, ?_⟩
  refine List.forall_mem_cons.mpr ⟨ok_sipush C (show decode cX11_without 118 = .ok (.sipush 160, 3) from dk_at dq38_33 (i := 1) rfl) (by decide) rfl, ?_⟩
  refine List.forall_mem_cons.mpr ⟨ok_iload C (show decode cX11_without 121 = .ok (.iload 5, 2) from dk_at dq38_33 (i := 2) rfl) rfl, ?_⟩
  refine List.forall_mem_cons.mpr ⟨ok_iadd C (show decode cX11_without 123 = .ok (.iadd, 1) from dk_at dq38_33 (i := 3) rfl) rfl, ?_⟩
  refine List.forall_mem_cons.mpr ⟨ok_iaload C (show decode cX11_without 124 = .ok (.iaload, 1) from dk_at dq38_33 (i := 4) rfl) rfl, ?_⟩
  refine List.forall_mem_cons.mpr ⟨ok_iload C (show decode cX11_without 125 = .ok (.iload 6, 2) from dk_at dq38_33 (i := 5) rfl) rfl, ?_⟩
  refine List.forall_mem_cons.mpr ⟨ok_isub C (show decode cX11_without 127 = .ok (.isub, 1) from dk_at dq38_33 (i := 6) rfl) rfl, ?_⟩
  refine List.forall_mem_cons.mpr ⟨ok_iload_n C (show decode cX11_without 128 = .ok (.iload_n 3, 1) from dk_at dq38_33 (i := 7) rfl) rfl rfl, ?_⟩
  refine List.forall_mem_cons.mpr ⟨ok_icmplt C (show decode cX11_without 129 = .ok (.if_icmp .lt 7, 3) from dk_at dq38_33 (i := 8) rfl) (tg := 136) (by decide) rfl rfl, ?_⟩
  refine List.forall_mem_cons.mpr ⟨ok_iload C (show decode cX11_without 132 = .ok (.iload 9, 2) from dk_at dq38_33 (i := 9) rfl) rfl, ?_⟩
  refine List.forall_mem_cons.mpr ⟨ok_istore C (show decode cX11_without 134 = .ok (.istore 8, 2) from dk_at dq38_33 (i := 10) rfl) (by decide) rfl, ?_⟩
  refine List.forall_mem_cons.mpr ⟨ok_aload_n C (show decode cX11_without 136 = .ok (.aload_n 0, 1) from dk_at dq38_33 (i := 11) rfl) rfl rfl, ?_⟩
  refine List.forall_mem_cons.mpr ⟨ok_callV C h_X11_back ⟨rfl, rfl⟩ rfl kw_1560 kw_1557 kw_1559 kp_87 kw_11 rfl ds_X11_back ⟨by decide, by decide⟩ (show decode cX11_without 137 = .ok (.invokevirtual 320, 3) from dk_at dq38_33 (i := 12) rfl) rfl, ?_⟩
  refine List.forall_mem_cons.mpr ⟨ok_iinc C (show decode cX11_without 140 = .ok (.iinc 9 1, 3) from dk_at dq38_33 (i := 13) rfl) (by decide) (by decide) rfl, ?_⟩
  refine List.forall_mem_cons.mpr ⟨ok_goto C (show decode cX11_without 143 = .ok (.goto (-63), 3) from dk_at dq38_33 (i := 14) rfl) (tg := 80) (by decide) rfl, ?_⟩
  refine List.forall_mem_cons.mpr ⟨ok_iload C (show decode cX11_without 146 = .ok (.iload 8, 2) from dk_at dq38_33 (i := 15) rfl) rfl, ?_⟩
  refine List.forall_mem_cons.mpr ⟨ok_ret C rfl (show decode cX11_without 148 = .ok (.ireturn, 1) from dk_at dq38_34 (i := 0) rfl), ?_⟩
  exact fun _ h => absurd h List.not_mem_nil
end
