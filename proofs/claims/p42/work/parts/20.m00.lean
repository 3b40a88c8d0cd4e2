def L_X0_init : List (Nat × ab_A) := [
  (0, ab_nx 1 (ab_aload 0)),
  (1, ab_nx 4 ab_obj),
  (4, ab_vret 0 0)]
set_option maxRecDepth 100000 in
set_option maxHeartbeats 4000000 in
theorem M_X0_init {l : Launch} {b : ab_B} {D : va_G} {cA : Nat → ClassId} : ab_M l b D ab_cl cA (ab_E0 b) yX0_init (Cond.code yX0_init cX0_init 1 none :: ab_G) ({ frames := 2, cells := 0, slots := 0, locals := 200 } : Room) (ab_X (ab_T L_X0_init) 1) := by
  refine ab_meth (ret := none) L_X0_init (by decide) rfl fun p e R s m args below meth c o C => ?_
  unfold L_X0_init
  refine List.forall_mem_cons.mpr ⟨ok_aload_n C (show decode cX0_init 0 = .ok (.aload_n 0, 1) by decide +kernel) rfl rfl, ?_⟩
  refine List.forall_mem_cons.mpr ⟨ok_obj C kw_220 kw_30 kw_31 ⟨by decide, by decide⟩ (show decode cX0_init 1 = .ok (.invokespecial 1, 3) by decide +kernel) rfl, ?_⟩
  refine List.forall_mem_cons.mpr ⟨ok_vret C rfl (show decode cX0_init 4 = .ok (.return_, 1) by decide +kernel), ?_⟩
  exact fun _ h => absurd h List.not_mem_nil
def L_X0_drawOf : List (Nat × ab_A) := [
  (0, ab_nx 1 (ab_aload 0)),
  (1, ab_nx 2 (ab_aload 0)),
  (2, ab_nx 5 (ab_getf 0 0)),
  (5, ab_nx 7 (ab_lit (.int 1103515245))),
  (7, ab_nx 8 (ab_bin (fun x y => x * y))),
  (8, ab_nx 11 (ab_lit (.int 12345))),
  (11, ab_nx 12 (ab_bin (fun x y => x + y))),
  (12, ab_nx 15 (ab_putf 0 0 0)),
  (15, ab_nx 16 (ab_iload 1)),
  (16, ab_if 19 31 (fun x => decide (x ≤ 0))),
  (19, ab_nx 20 (ab_aload 0)),
  (20, ab_nx 23 (ab_getf 0 0)),
  (23, ab_nx 25 (ab_lit (.int 8))),
  (25, ab_nx 26 (ab_bin (fun x y => (x.toUInt32 >>> (y.toUInt32 &&& Int32.toUInt32 31)).toInt32))),
  (26, ab_nx 27 (ab_iload 1)),
  (27, ab_nx 28 ab_irem),
  (28, ab_goto 32),
  (31, ab_nx 32 (ab_lit (.int 0))),
  (32, ab_ret 0 0)]
set_option maxRecDepth 100000 in
set_option maxHeartbeats 4000000 in
theorem M_X0_drawOf {l : Launch} {b : ab_B} {D : va_G} {cA : Nat → ClassId} : ab_M l b D ab_cl cA (ab_E0 b) yX0_drawOf (Cond.code yX0_drawOf cX0_drawOf 2 (some .int) :: ab_G) ({ frames := 1, cells := 0, slots := 0, locals := 100 } : Room) (ab_X (ab_T L_X0_drawOf) 2) := by
  refine ab_meth (ret := (some .int)) L_X0_drawOf (by decide) rfl fun p e R s m args below meth c o C => ?_
  unfold L_X0_drawOf
  refine List.forall_mem_cons.mpr ⟨ok_aload_n C (show decode cX0_drawOf 0 = .ok (.aload_n 0, 1) by decide +kernel) rfl rfl, ?_⟩
  refine List.forall_mem_cons.mpr ⟨ok_aload_n C (show decode cX0_drawOf 1 = .ok (.aload_n 0, 1) by decide +kernel) rfl rfl, ?_⟩
  refine List.forall_mem_cons.mpr ⟨ok_getf C (wi_X0) rfl (by decide) kw_221 (show decode cX0_drawOf 2 = .ok (.getfield 7, 3) by decide +kernel) rfl, ?_⟩
  refine List.forall_mem_cons.mpr ⟨ok_ldc C (show decode cX0_drawOf 5 = .ok (.ldc 13, 2) by decide +kernel) (gm kw_891) rfl, ?_⟩
  refine List.forall_mem_cons.mpr ⟨ok_imul C (show decode cX0_drawOf 7 = .ok (.imul, 1) by decide +kernel) rfl, ?_⟩
  refine List.forall_mem_cons.mpr ⟨ok_sipush C (show decode cX0_drawOf 8 = .ok (.sipush 12345, 3) by decide +kernel) (by decide) rfl, ?_⟩
  refine List.forall_mem_cons.mpr ⟨ok_iadd C (show decode cX0_drawOf 11 = .ok (.iadd, 1) by decide +kernel) rfl, ?_⟩
  refine List.forall_mem_cons.mpr ⟨ok_putf C (wi_X0) tyX0 tyX0_ok nmX0 rfl (by decide) kw_221 (Or.inl rfl) (Or.inl ⟨rfl, rfl⟩) (show decode cX0_drawOf 12 = .ok (.putfield 7, 3) by decide +kernel) rfl, ?_⟩
  refine List.forall_mem_cons.mpr ⟨ok_iload_n C (show decode cX0_drawOf 15 = .ok (.iload_n 1, 1) by decide +kernel) rfl rfl, ?_⟩
  refine List.forall_mem_cons.mpr ⟨ok_ifle C (show decode cX0_drawOf 16 = .ok (.ifCond .le 15, 3) by decide +kernel) (tg := 31) (by decide) rfl rfl, ?_⟩
  refine List.forall_mem_cons.mpr ⟨ok_aload_n C (show decode cX0_drawOf 19 = .ok (.aload_n 0, 1) by decide +kernel) rfl rfl, ?_⟩
  refine List.forall_mem_cons.mpr ⟨ok_getf C (wi_X0) rfl (by decide) kw_221 (show decode cX0_drawOf 20 = .ok (.getfield 7, 3) by decide +kernel) rfl, ?_⟩
  refine List.forall_mem_cons.mpr ⟨ok_bipush C (show decode cX0_drawOf 23 = .ok (.bipush 8, 2) by decide +kernel) (by decide) rfl, ?_⟩
  refine List.forall_mem_cons.mpr ⟨ok_iushr C (show decode cX0_drawOf 25 = .ok (.iushr, 1) by decide +kernel) rfl, ?_⟩
  refine List.forall_mem_cons.mpr ⟨ok_iload_n C (show decode cX0_drawOf 26 = .ok (.iload_n 1, 1) by decide +kernel) rfl rfl, ?_⟩
  refine List.forall_mem_cons.mpr ⟨ok_irem C (show decode cX0_drawOf 27 = .ok (.irem, 1) by decide +kernel) rfl, ?_⟩
  refine List.forall_mem_cons.mpr ⟨ok_goto C (show decode cX0_drawOf 28 = .ok (.goto 4, 3) by decide +kernel) (tg := 32) (by decide) rfl, ?_⟩
  refine List.forall_mem_cons.mpr ⟨ok_iconst C (show decode cX0_drawOf 31 = .ok (.iconst 0, 1) by decide +kernel) (by decide) rfl, ?_⟩
  refine List.forall_mem_cons.mpr ⟨ok_ret C rfl (show decode cX0_drawOf 32 = .ok (.ireturn, 1) by decide +kernel), ?_⟩
  exact fun _ h => absurd h List.not_mem_nil
def L_X1_init : List (Nat × ab_A) := [
  (0, ab_nx 1 (ab_aload 0)),
  (1, ab_nx 4 ab_obj),
  (4, ab_nx 5 (ab_aload 0)),
  (5, ab_nx 7 (ab_lit (.int 6))),
  (7, ab_nx 9 (ab_newa 1 (fun n => (n, .inl (fun _ => 0))) 2 12)),
  (9, ab_nx 12 (ab_putf 1 0 2)),
  (12, ab_nx 13 (ab_aload 0)),
  (13, ab_nx 15 (ab_lit (.int 6))),
  (15, ab_nx 17 (ab_newa 1 (fun n => (n, .inl (fun _ => 0))) 2 12)),
  (17, ab_nx 20 (ab_putf 1 1 2)),
  (20, ab_vret 2 12)]
set_option maxRecDepth 100000 in
set_option maxHeartbeats 4000000 in
theorem M_X1_init {l : Launch} {b : ab_B} {D : va_G} {cA : Nat → ClassId} : ab_M l b D ab_cl cA (ab_E0 b) yX1_init (Cond.code yX1_init cX1_init 1 none :: ab_G) ({ frames := 2, cells := 2, slots := 12, locals := 200 } : Room) (ab_X (ab_T L_X1_init) 1) := by
  refine ab_meth (ret := none) L_X1_init (by decide) rfl fun p e R s m args below meth c o C => ?_
  unfold L_X1_init
  refine List.forall_mem_cons.mpr ⟨ok_aload_n C (show decode cX1_init 0 = .ok (.aload_n 0, 1) by decide +kernel) rfl rfl, ?_⟩
  refine List.forall_mem_cons.mpr ⟨ok_obj C kw_104 kw_30 kw_31 ⟨by decide, by decide⟩ (show decode cX1_init 1 = .ok (.invokespecial 3, 3) by decide +kernel) rfl, ?_⟩
  refine List.forall_mem_cons.mpr ⟨ok_aload_n C (show decode cX1_init 4 = .ok (.aload_n 0, 1) by decide +kernel) rfl rfl, ?_⟩
  refine List.forall_mem_cons.mpr ⟨ok_bipush C (show decode cX1_init 5 = .ok (.bipush 6, 2) by decide +kernel) (by decide) rfl, ?_⟩
  refine List.forall_mem_cons.mpr ⟨ok_newa_int C kw_97 (show decode cX1_init 7 = .ok (.newarray .int, 2) by decide +kernel) rfl, ?_⟩
  refine List.forall_mem_cons.mpr ⟨ok_putf C (wi_X1) tyX1 tyX1_ok nmX1 rfl (by decide) kw_105 (Or.inr ⟨rfl, cx_name C, rfl⟩) (Or.inr (Or.inr (Or.inl ⟨rfl, Or.inr ⟨_, rfl⟩⟩))) (show decode cX1_init 9 = .ok (.putfield 9, 3) by decide +kernel) rfl, ?_⟩
  refine List.forall_mem_cons.mpr ⟨ok_aload_n C (show decode cX1_init 12 = .ok (.aload_n 0, 1) by decide +kernel) rfl rfl, ?_⟩
  refine List.forall_mem_cons.mpr ⟨ok_bipush C (show decode cX1_init 13 = .ok (.bipush 6, 2) by decide +kernel) (by decide) rfl, ?_⟩
  refine List.forall_mem_cons.mpr ⟨ok_newa_int C kw_97 (show decode cX1_init 15 = .ok (.newarray .int, 2) by decide +kernel) rfl, ?_⟩
  refine List.forall_mem_cons.mpr ⟨ok_putf C (wi_X1) tyX1 tyX1_ok nmX1 rfl (by decide) kw_107 (Or.inr ⟨rfl, cx_name C, rfl⟩) (Or.inr (Or.inr (Or.inl ⟨rfl, Or.inr ⟨_, rfl⟩⟩))) (show decode cX1_init 17 = .ok (.putfield 15, 3) by decide +kernel) rfl, ?_⟩
  refine List.forall_mem_cons.mpr ⟨ok_vret C rfl (show decode cX1_init 20 = .ok (.return_, 1) by decide +kernel), ?_⟩
  exact fun _ h => absurd h List.not_mem_nil
def L_X1_amountMoved : List (Nat × ab_A) := [
  (0, ab_nx 1 (ab_lit (.int 0))),
  (1, ab_nx 2 (ab_iload 0)),
  (2, ab_nx 3 (ab_iload 1)),
  (3, ab_nx 4 (ab_iload 2)),
  (4, ab_nx 7 (ab_mm ab_min 0 0)),
  (7, ab_nx 10 (ab_mm ab_min 0 0)),
  (10, ab_nx 13 (ab_mm ab_max 0 0)),
  (13, ab_ret 0 0)]
set_option maxRecDepth 100000 in
set_option maxHeartbeats 4000000 in
theorem M_X1_amountMoved {l : Launch} {b : ab_B} {D : va_G} {cA : Nat → ClassId} : ab_M l b D ab_cl cA (ab_E0 b) yX1_amountMoved (Cond.code yX1_amountMoved cX1_amountMoved 3 (some .int) :: ab_G) ({ frames := 2, cells := 0, slots := 0, locals := 200 } : Room) (ab_X (ab_T L_X1_amountMoved) 3) := by
  refine ab_meth (ret := (some .int)) L_X1_amountMoved (by decide) rfl fun p e R s m args below meth c o C => ?_
  unfold L_X1_amountMoved
  refine List.forall_mem_cons.mpr ⟨ok_iconst C (show decode cX1_amountMoved 0 = .ok (.iconst 0, 1) by decide +kernel) (by decide) rfl, ?_⟩
  refine List.forall_mem_cons.mpr ⟨ok_iload_n C (show decode cX1_amountMoved 1 = .ok (.iload_n 0, 1) by decide +kernel) rfl rfl, ?_⟩
  refine List.forall_mem_cons.mpr ⟨ok_iload_n C (show decode cX1_amountMoved 2 = .ok (.iload_n 1, 1) by decide +kernel) rfl rfl, ?_⟩
  refine List.forall_mem_cons.mpr ⟨ok_iload_n C (show decode cX1_amountMoved 3 = .ok (.iload_n 2, 1) by decide +kernel) rfl rfl, ?_⟩
  refine List.forall_mem_cons.mpr ⟨ok_mmin C kw_766 kw_486 kw_16 kw_487 ⟨by decide, by decide⟩ (show decode cX1_amountMoved 4 = .ok (.invokestatic 18, 3) by decide +kernel) rfl, ?_⟩
  refine List.forall_mem_cons.mpr ⟨ok_mmin C kw_766 kw_486 kw_16 kw_487 ⟨by decide, by decide⟩ (show decode cX1_amountMoved 7 = .ok (.invokestatic 18, 3) by decide +kernel) rfl, ?_⟩
  refine List.forall_mem_cons.mpr ⟨ok_mmax C kw_767 kw_607 kw_16 kw_608 ⟨by decide, by decide⟩ (show decode cX1_amountMoved 10 = .ok (.invokestatic 24, 3) by decide +kernel) rfl, ?_⟩
  refine List.forall_mem_cons.mpr ⟨ok_ret C rfl (show decode cX1_amountMoved 13 = .ok (.ireturn, 1) by decide +kernel), ?_⟩
  exact fun _ h => absurd h List.not_mem_nil
def L_X6_ferryShore : List (Nat × ab_A) := [
  (0, ab_nx 1 (ab_aload 0)),
  (1, ab_nx 4 (ab_getf 6 7)),
  (4, ab_nx 5 (ab_lit (.int 2))),
  (5, ab_nx 6 ab_irem),
  (6, ab_ret 0 0)]
set_option maxRecDepth 100000 in
set_option maxHeartbeats 4000000 in
theorem M_X6_ferryShore {l : Launch} {b : ab_B} {D : va_G} {cA : Nat → ClassId} : ab_M l b D ab_cl cA (ab_E0 b) yX6_ferryShore (Cond.code yX6_ferryShore cX6_ferryShore 1 (some .int) :: ab_G) ({ frames := 1, cells := 0, slots := 0, locals := 100 } : Room) (ab_X (ab_T L_X6_ferryShore) 1) := by
  refine ab_meth (ret := (some .int)) L_X6_ferryShore (by decide) rfl fun p e R s m args below meth c o C => ?_
  unfold L_X6_ferryShore
  refine List.forall_mem_cons.mpr ⟨ok_aload_n C (show decode cX6_ferryShore 0 = .ok (.aload_n 0, 1) by decide +kernel) rfl rfl, ?_⟩
  refine List.forall_mem_cons.mpr ⟨ok_getf C (wi_X6) rfl (by decide) kw_162 (show decode cX6_ferryShore 1 = .ok (.getfield 42, 3) by decide +kernel) rfl, ?_⟩
  refine List.forall_mem_cons.mpr ⟨ok_iconst C (show decode cX6_ferryShore 4 = .ok (.iconst 2, 1) by decide +kernel) (by decide) rfl, ?_⟩
  refine List.forall_mem_cons.mpr ⟨ok_irem C (show decode cX6_ferryShore 5 = .ok (.irem, 1) by decide +kernel) rfl, ?_⟩
  refine List.forall_mem_cons.mpr ⟨ok_ret C rfl (show decode cX6_ferryShore 6 = .ok (.ireturn, 1) by decide +kernel), ?_⟩
  exact fun _ h => absurd h List.not_mem_nil
def L_X6_apartOf : List (Nat × ab_A) := [
  (0, ab_nx 1 (ab_iload 1)),
  (1, ab_nx 2 (ab_iload 2)),
  (2, ab_icmp 5 19 (fun x y => decide (x ≤ y))),
  (5, ab_nx 6 (ab_aload 0)),
  (6, ab_nx 9 (ab_getf 6 6)),
  (9, ab_nx 10 (ab_iload 1)),
  (10, ab_nx 12 (ab_lit (.int 8))),
  (12, ab_nx 13 (ab_bin (fun x y => x * y))),
  (13, ab_nx 14 (ab_iload 2)),
  (14, ab_nx 15 (ab_bin (fun x y => x + y))),
  (15, ab_nx 16 (ab_ald 1)),
  (16, ab_goto 30),
  (19, ab_nx 20 (ab_aload 0)),
  (20, ab_nx 23 (ab_getf 6 6)),
  (23, ab_nx 24 (ab_iload 2)),
  (24, ab_nx 26 (ab_lit (.int 8))),
  (26, ab_nx 27 (ab_bin (fun x y => x * y))),
  (27, ab_nx 28 (ab_iload 1)),
  (28, ab_nx 29 (ab_bin (fun x y => x + y))),
  (29, ab_nx 30 (ab_ald 1)),
  (30, ab_ret 0 0)]
set_option maxRecDepth 100000 in
set_option maxHeartbeats 4000000 in
theorem M_X6_apartOf {l : Launch} {b : ab_B} {D : va_G} {cA : Nat → ClassId} : ab_M l b D ab_cl cA (ab_E0 b) yX6_apartOf (Cond.code yX6_apartOf cX6_apartOf 3 (some .int) :: ab_G) ({ frames := 1, cells := 0, slots := 0, locals := 100 } : Room) (ab_X (ab_T L_X6_apartOf) 3) := by
  refine ab_meth (ret := (some .int)) L_X6_apartOf (by decide) rfl fun p e R s m args below meth c o C => ?_
  unfold L_X6_apartOf
  refine List.forall_mem_cons.mpr ⟨ok_iload_n C (show decode cX6_apartOf 0 = .ok (.iload_n 1, 1) by decide +kernel) rfl rfl, ?_⟩
  refine List.forall_mem_cons.mpr ⟨ok_iload_n C (show decode cX6_apartOf 1 = .ok (.iload_n 2, 1) by decide +kernel) rfl rfl, ?_⟩
  refine List.forall_mem_cons.mpr ⟨ok_icmple C (show decode cX6_apartOf 2 = .ok (.if_icmp .le 17, 3) by decide +kernel) (tg := 19) (by decide) rfl rfl, ?_⟩
  refine List.forall_mem_cons.mpr ⟨ok_aload_n C (show decode cX6_apartOf 5 = .ok (.aload_n 0, 1) by decide +kernel) rfl rfl, ?_⟩
  refine List.forall_mem_cons.mpr ⟨ok_getf C (wi_X6) rfl (by decide) kw_161 (show decode cX6_apartOf 6 = .ok (.getfield 30, 3) by decide +kernel) rfl, ?_⟩
  refine List.forall_mem_cons.mpr ⟨ok_iload_n C (show decode cX6_apartOf 9 = .ok (.iload_n 1, 1) by decide +kernel) rfl rfl, ?_⟩
  refine List.forall_mem_cons.mpr ⟨ok_bipush C (show decode cX6_apartOf 10 = .ok (.bipush 8, 2) by decide +kernel) (by decide) rfl, ?_⟩
  refine List.forall_mem_cons.mpr ⟨ok_imul C (show decode cX6_apartOf 12 = .ok (.imul, 1) by decide +kernel) rfl, ?_⟩
  refine List.forall_mem_cons.mpr ⟨ok_iload_n C (show decode cX6_apartOf 13 = .ok (.iload_n 2, 1) by decide +kernel) rfl rfl, ?_⟩
  refine List.forall_mem_cons.mpr ⟨ok_iadd C (show decode cX6_apartOf 14 = .ok (.iadd, 1) by decide +kernel) rfl, ?_⟩
  refine List.forall_mem_cons.mpr ⟨ok_iaload C (show decode cX6_apartOf 15 = .ok (.iaload, 1) by decide +kernel) rfl, ?_⟩
  refine List.forall_mem_cons.mpr ⟨ok_goto C (show decode cX6_apartOf 16 = .ok (.goto 14, 3) by decide +kernel) (tg := 30) (by decide) rfl, ?_⟩
  refine List.forall_mem_cons.mpr ⟨ok_aload_n C (show decode cX6_apartOf 19 = .ok (.aload_n 0, 1) by decide +kernel) rfl rfl, ?_⟩
  refine List.forall_mem_cons.mpr ⟨ok_getf C (wi_X6) rfl (by decide) kw_161 (show decode cX6_apartOf 20 = .ok (.getfield 30, 3) by decide +kernel) rfl, ?_⟩
  refine List.forall_mem_cons.mpr ⟨ok_iload_n C (show decode cX6_apartOf 23 = .ok (.iload_n 2, 1) by decide +kernel) rfl rfl, ?_⟩
  refine List.forall_mem_cons.mpr ⟨ok_bipush C (show decode cX6_apartOf 24 = .ok (.bipush 8, 2) by decide +kernel) (by decide) rfl, ?_⟩
  refine List.forall_mem_cons.mpr ⟨ok_imul C (show decode cX6_apartOf 26 = .ok (.imul, 1) by decide +kernel) rfl, ?_⟩
  refine List.forall_mem_cons.mpr ⟨ok_iload_n C (show decode cX6_apartOf 27 = .ok (.iload_n 1, 1) by decide +kernel) rfl rfl, ?_⟩
  refine List.forall_mem_cons.mpr ⟨ok_iadd C (show decode cX6_apartOf 28 = .ok (.iadd, 1) by decide +kernel) rfl, ?_⟩
  refine List.forall_mem_cons.mpr ⟨ok_iaload C (show decode cX6_apartOf 29 = .ok (.iaload, 1) by decide +kernel) rfl, ?_⟩
  refine List.forall_mem_cons.mpr ⟨ok_ret C rfl (show decode cX6_apartOf 30 = .ok (.ireturn, 1) by decide +kernel), ?_⟩
  exact fun _ h => absurd h List.not_mem_nil
def L_X6_isFelt (f_X6_apartOf : List Value → ab_H → Option ab_O) : List (Nat × ab_A) := [
  (0, ab_nx 1 (ab_aload 1)),
  (1, ab_nx 4 (ab_getf 7 4)),
  (4, ab_nx 5 (ab_iload 2)),
  (5, ab_nx 6 (ab_ald 1)),
  (6, ab_nx 7 (ab_istore 3)),
  (7, ab_nx 8 (ab_aload 1)),
  (8, ab_nx 11 (ab_getf 7 5)),
  (11, ab_nx 12 (ab_iload 2)),
  (12, ab_nx 13 (ab_ald 1)),
  (13, ab_nx 15 (ab_istore 4)),
  (15, ab_nx 16 (ab_aload 0)),
  (16, ab_nx 19 (ab_getf 6 4)),
  (19, ab_nx 20 (ab_iload 3)),
  (20, ab_nx 21 (ab_ald 1)),
  (21, ab_nx 22 (ab_lit (.int (-1)))),
  (22, ab_icmp 25 40 (fun x y => decide (x = y))),
  (25, ab_nx 26 (ab_aload 0)),
  (26, ab_nx 29 (ab_getf 6 4)),
  (29, ab_nx 31 (ab_iload 4)),
  (31, ab_nx 32 (ab_ald 1)),
  (32, ab_nx 33 (ab_lit (.int (-1)))),
  (33, ab_icmp 36 40 (fun x y => decide (x = y))),
  (36, ab_nx 37 (ab_lit (.int 1))),
  (37, ab_goto 41),
  (40, ab_nx 41 (ab_lit (.int 0))),
  (41, ab_nx 43 (ab_istore 5)),
  (43, ab_nx 45 (ab_iload 5)),
  (45, ab_if 48 84 (fun x => decide (x = 0))),
  (48, ab_nx 49 (ab_aload 0)),
  (49, ab_nx 52 (ab_getf 6 4)),
  (52, ab_nx 53 (ab_iload 3)),
  (53, ab_nx 54 (ab_ald 1)),
  (54, ab_nx 55 (ab_aload 0)),
  (55, ab_nx 58 (ab_getf 6 4)),
  (58, ab_nx 60 (ab_iload 4)),
  (60, ab_nx 61 (ab_ald 1)),
  (61, ab_icmp 64 84 (fun x y => decide (x = y))),
  (64, ab_nx 65 (ab_aload 0)),
  (65, ab_nx 66 (ab_iload 3)),
  (66, ab_nx 68 (ab_iload 4)),
  (68, ab_nx 71 (ab_callV 3 6 f_X6_apartOf 0 0 0 0)),
  (71, ab_nx 72 (ab_aload 1)),
  (72, ab_nx 75 (ab_getf 7 6)),
  (75, ab_nx 76 (ab_iload 2)),
  (76, ab_nx 77 (ab_ald 1)),
  (77, ab_icmp 80 84 (fun x y => decide (x < y))),
  (80, ab_nx 81 (ab_lit (.int 1))),
  (81, ab_goto 85),
  (84, ab_nx 85 (ab_lit (.int 0))),
  (85, ab_zret 0 0)]
set_option maxRecDepth 100000 in
set_option maxHeartbeats 4000000 in
theorem M_X6_isFelt {l : Launch} {b : ab_B} {D : va_G} {cA : Nat → ClassId} {f_X6_apartOf : List Value → ab_H → Option ab_O} (h_X6_apartOf : ab_M l b D ab_cl cA (ab_E0 b) yX6_apartOf (Cond.code yX6_apartOf cX6_apartOf 3 (some .int) :: ab_G) ({ frames := 1, cells := 0, slots := 0, locals := 100 } : Room) f_X6_apartOf) : ab_M l b D ab_cl cA (ab_E0 b) yX6_isFelt (Cond.code yX6_isFelt cX6_isFelt 6 (some .boolean) :: ab_G) ({ frames := 2, cells := 0, slots := 0, locals := 200 } : Room) (ab_X (ab_T (L_X6_isFelt f_X6_apartOf)) 6) := by
  refine ab_meth (ret := (some .boolean)) (L_X6_isFelt f_X6_apartOf) (by decide) rfl fun p e R s m args below meth c o C => ?_
  unfold L_X6_isFelt
  refine List.forall_mem_cons.mpr ⟨ok_aload_n C (show decode cX6_isFelt 0 = .ok (.aload_n 1, 1) by decide +kernel) rfl rfl, ?_⟩
  refine List.forall_mem_cons.mpr ⟨ok_getf C (wi_X7) rfl (by decide) kw_240 (show decode cX6_isFelt 1 = .ok (.getfield 66, 3) by decide +kernel) rfl, ?_⟩
  refine List.forall_mem_cons.mpr ⟨ok_iload_n C (show decode cX6_isFelt 4 = .ok (.iload_n 2, 1) by decide +kernel) rfl rfl, ?_⟩
  refine List.forall_mem_cons.mpr ⟨ok_iaload C (show decode cX6_isFelt 5 = .ok (.iaload, 1) by decide +kernel) rfl, ?_⟩
  refine List.forall_mem_cons.mpr ⟨ok_istore_n C (show decode cX6_isFelt 6 = .ok (.istore_n 3, 1) by decide +kernel) rfl (by decide) rfl, ?_⟩
  refine List.forall_mem_cons.mpr ⟨ok_aload_n C (show decode cX6_isFelt 7 = .ok (.aload_n 1, 1) by decide +kernel) rfl rfl, ?_⟩
  refine List.forall_mem_cons.mpr ⟨ok_getf C (wi_X7) rfl (by decide) kw_242 (show decode cX6_isFelt 8 = .ok (.getfield 69, 3) by decide +kernel) rfl, ?_⟩
  refine List.forall_mem_cons.mpr ⟨ok_iload_n C (show decode cX6_isFelt 11 = .ok (.iload_n 2, 1) by decide +kernel) rfl rfl, ?_⟩
  refine List.forall_mem_cons.mpr ⟨ok_iaload C (show decode cX6_isFelt 12 = .ok (.iaload, 1) by decide +kernel) rfl, ?_⟩
  refine List.forall_mem_cons.mpr ⟨ok_istore C (show decode cX6_isFelt 13 = .ok (.istore 4, 2) by decide +kernel) (by decide) rfl, ?_⟩
  refine List.forall_mem_cons.mpr ⟨ok_aload_n C (show decode cX6_isFelt 15 = .ok (.aload_n 0, 1) by decide +kernel) rfl rfl, ?_⟩
  refine List.forall_mem_cons.mpr ⟨ok_getf C (wi_X6) rfl (by decide) kw_155 (show decode cX6_isFelt 16 = .ok (.getfield 24, 3) by decide +kernel) rfl, ?_⟩
  refine List.forall_mem_cons.mpr ⟨ok_iload_n C (show decode cX6_isFelt 19 = .ok (.iload_n 3, 1) by decide +kernel) rfl rfl, ?_⟩
  refine List.forall_mem_cons.mpr ⟨ok_iaload C (show decode cX6_isFelt 20 = .ok (.iaload, 1) by decide +kernel) rfl, ?_⟩
  refine List.forall_mem_cons.mpr ⟨ok_iconst C (show decode cX6_isFelt 21 = .ok (.iconst (-1), 1) by decide +kernel) (by decide) rfl, ?_⟩
  refine List.forall_mem_cons.mpr ⟨ok_icmpeq C (show decode cX6_isFelt 22 = .ok (.if_icmp .eq 18, 3) by decide +kernel) (tg := 40) (by decide) rfl rfl, ?_⟩
  refine List.forall_mem_cons.mpr ⟨ok_aload_n C (show decode cX6_isFelt 25 = .ok (.aload_n 0, 1) by decide +kernel) rfl rfl, ?_⟩
  refine List.forall_mem_cons.mpr ⟨ok_getf C (wi_X6) rfl (by decide) kw_155 (show decode cX6_isFelt 26 = .ok (.getfield 24, 3) by decide +kernel) rfl, ?_⟩
  refine List.forall_mem_cons.mpr ⟨ok_iload C (show decode cX6_isFelt 29 = .ok (.iload 4, 2) by decide +kernel) rfl, ?_⟩
  refine List.forall_mem_cons.mpr ⟨ok_iaload C (show decode cX6_isFelt 31 = .ok (.iaload, 1) by decide +kernel) rfl, ?_⟩
  refine List.forall_mem_cons.mpr ⟨ok_iconst C (show decode cX6_isFelt 32 = .ok (.iconst (-1), 1) by decide +kernel) (by decide) rfl, ?_⟩
  refine List.forall_mem_cons.mpr ⟨ok_icmpeq C (show decode cX6_isFelt 33 = .ok (.if_icmp .eq 7, 3) by decide +kernel) (tg := 40) (by decide) rfl rfl, ?_⟩
  refine List.forall_mem_cons.mpr ⟨ok_iconst C (show decode cX6_isFelt 36 = .ok (.iconst 1, 1) by decide +kernel) (by decide) rfl, ?_⟩
  refine List.forall_mem_cons.mpr ⟨ok_goto C (show decode cX6_isFelt 37 = .ok (.goto 4, 3) by decide +kernel) (tg := 41) (by decide) rfl, ?_⟩
  refine List.forall_mem_cons.mpr ⟨ok_iconst C (show decode cX6_isFelt 40 = .ok (.iconst 0, 1) by decide +kernel) (by decide) rfl, ?_⟩
  refine List.forall_mem_cons.mpr ⟨ok_istore C (show decode cX6_isFelt 41 = .ok (.istore 5, 2) by decide +kernel) (by decide) rfl, ?_⟩
  refine List.forall_mem_cons.mpr ⟨ok_iload C (show decode cX6_isFelt 43 = .ok (.iload 5, 2) by decide +kernel) rfl, ?_⟩
  refine List.forall_mem_cons.mpr ⟨ok_ifeq C (show decode cX6_isFelt 45 = .ok (.ifCond .eq 39, 3) by decide +kernel) (tg := 84) (by decide) rfl rfl, ?_⟩
  refine List.forall_mem_cons.mpr ⟨ok_aload_n C (show decode cX6_isFelt 48 = .ok (.aload_n 0, 1) by decide +kernel) rfl rfl, ?_⟩
  refine List.forall_mem_cons.mpr ⟨ok_getf C (wi_X6) rfl (by decide) kw_155 (show decode cX6_isFelt 49 = .ok (.getfield 24, 3) by decide +kernel) rfl, ?_⟩
  refine List.forall_mem_cons.mpr ⟨ok_iload_n C (show decode cX6_isFelt 52 = .ok (.iload_n 3, 1) by decide +kernel) rfl rfl, ?_⟩
  refine List.forall_mem_cons.mpr ⟨ok_iaload C (show decode cX6_isFelt 53 = .ok (.iaload, 1) by decide +kernel) rfl, ?_⟩
  refine List.forall_mem_cons.mpr ⟨ok_aload_n C (show decode cX6_isFelt 54 = .ok (.aload_n 0, 1) by decide +kernel) rfl rfl, ?_⟩
  refine List.forall_mem_cons.mpr ⟨ok_getf C (wi_X6) rfl (by decide) kw_155 (show decode cX6_isFelt 55 = .ok (.getfield 24, 3) by decide +kernel) rfl, ?_⟩
  refine List.forall_mem_cons.mpr ⟨ok_iload C (show decode cX6_isFelt 58 = .ok (.iload 4, 2) by decide +kernel) rfl, ?_⟩
  refine List.forall_mem_cons.mpr ⟨ok_iaload C (show decode cX6_isFelt 60 = .ok (.iaload, 1) by decide +kernel) rfl, ?_⟩
  refine List.forall_mem_cons.mpr ⟨ok_icmpeq C (show decode cX6_isFelt 61 = .ok (.if_icmp .eq 23, 3) by decide +kernel) (tg := 84) (by decide) rfl rfl, ?_⟩
  refine List.forall_mem_cons.mpr ⟨ok_aload_n C (show decode cX6_isFelt 64 = .ok (.aload_n 0, 1) by decide +kernel) rfl rfl, ?_⟩
  refine List.forall_mem_cons.mpr ⟨ok_iload_n C (show decode cX6_isFelt 65 = .ok (.iload_n 3, 1) by decide +kernel) rfl rfl, ?_⟩
  refine List.forall_mem_cons.mpr ⟨ok_iload C (show decode cX6_isFelt 66 = .ok (.iload 4, 2) by decide +kernel) rfl, ?_⟩
  refine List.forall_mem_cons.mpr ⟨ok_callV C h_X6_apartOf ⟨rfl, rfl⟩ rfl kw_636 kw_673 kw_634 kw_635 kw_6 rfl ds_X6_apartOf ⟨by decide, by decide⟩ (show decode cX6_isFelt 68 = .ok (.invokevirtual 72, 3) by decide +kernel) rfl, ?_⟩
  refine List.forall_mem_cons.mpr ⟨ok_aload_n C (show decode cX6_isFelt 71 = .ok (.aload_n 1, 1) by decide +kernel) rfl rfl, ?_⟩
  refine List.forall_mem_cons.mpr ⟨ok_getf C (wi_X7) rfl (by decide) kw_244 (show decode cX6_isFelt 72 = .ok (.getfield 75, 3) by decide +kernel) rfl, ?_⟩
  refine List.forall_mem_cons.mpr ⟨ok_iload_n C (show decode cX6_isFelt 75 = .ok (.iload_n 2, 1) by decide +kernel) rfl rfl, ?_⟩
  refine List.forall_mem_cons.mpr ⟨ok_iaload C (show decode cX6_isFelt 76 = .ok (.iaload, 1) by decide +kernel) rfl, ?_⟩
  refine List.forall_mem_cons.mpr ⟨ok_icmplt C (show decode cX6_isFelt 77 = .ok (.if_icmp .lt 7, 3) by decide +kernel) (tg := 84) (by decide) rfl rfl, ?_⟩
  refine List.forall_mem_cons.mpr ⟨ok_iconst C (show decode cX6_isFelt 80 = .ok (.iconst 1, 1) by decide +kernel) (by decide) rfl, ?_⟩
  refine List.forall_mem_cons.mpr ⟨ok_goto C (show decode cX6_isFelt 81 = .ok (.goto 4, 3) by decide +kernel) (tg := 85) (by decide) rfl, ?_⟩
  refine List.forall_mem_cons.mpr ⟨ok_iconst C (show decode cX6_isFelt 84 = .ok (.iconst 0, 1) by decide +kernel) (by decide) rfl, ?_⟩
  refine List.forall_mem_cons.mpr ⟨ok_zret C rfl (show decode cX6_isFelt 85 = .ok (.ireturn, 1) by decide +kernel), ?_⟩
  exact fun _ h => absurd h List.not_mem_nil
def L_X6_allMissed (f_X6_isFelt : List Value → ab_H → Option ab_O) : List (Nat × ab_A) := [
  (0, ab_nx 1 (ab_lit (.int 0))),
  (1, ab_nx 2 (ab_istore 2)),
  (2, ab_nx 3 (ab_lit (.int 0))),
  (3, ab_nx 4 (ab_istore 3)),
  (4, ab_nx 5 (ab_iload 3)),
  (5, ab_nx 6 (ab_aload 1)),
  (6, ab_nx 9 (ab_getf 7 10)),
  (9, ab_icmp 12 38 (fun x y => decide (y ≤ x))),
  (12, ab_nx 13 (ab_aload 0)),
  (13, ab_nx 14 (ab_aload 1)),
  (14, ab_nx 15 (ab_iload 3)),
  (15, ab_nx 18 (ab_callV 3 6 f_X6_isFelt 0 0 0 0)),
  (18, ab_if 21 32 (fun x => decide (x = 0))),
  (21, ab_nx 22 (ab_iload 2)),
  (22, ab_nx 23 (ab_lit (.int 1))),
  (23, ab_nx 24 (ab_aload 1)),
  (24, ab_nx 27 (ab_getf 7 5)),
  (27, ab_nx 28 (ab_iload 3)),
  (28, ab_nx 29 (ab_ald 1)),
  (29, ab_nx 30 (ab_bin (fun x y => x <<< (y &&& 31)))),
  (30, ab_nx 31 (ab_bin (fun x y => x ||| y))),
  (31, ab_nx 32 (ab_istore 2)),
  (32, ab_nx 35 (ab_iinc 3 1)),
  (35, ab_goto 4),
  (38, ab_nx 39 (ab_iload 2)),
  (39, ab_ret 0 0)]
set_option maxRecDepth 100000 in
set_option maxHeartbeats 4000000 in
theorem M_X6_allMissed {l : Launch} {b : ab_B} {D : va_G} {cA : Nat → ClassId} {f_X6_isFelt : List Value → ab_H → Option ab_O} (h_X6_isFelt : ab_M l b D ab_cl cA (ab_E0 b) yX6_isFelt (Cond.code yX6_isFelt cX6_isFelt 6 (some .boolean) :: ab_G) ({ frames := 2, cells := 0, slots := 0, locals := 200 } : Room) f_X6_isFelt) : ab_M l b D ab_cl cA (ab_E0 b) yX6_allMissed (Cond.code yX6_allMissed cX6_allMissed 4 (some .int) :: ab_G) ({ frames := 3, cells := 0, slots := 0, locals := 300 } : Room) (ab_X (ab_T (L_X6_allMissed f_X6_isFelt)) 4) := by
  refine ab_meth (ret := (some .int)) (L_X6_allMissed f_X6_isFelt) (by decide) rfl fun p e R s m args below meth c o C => ?_
  unfold L_X6_allMissed
  refine List.forall_mem_cons.mpr ⟨ok_iconst C (show decode cX6_allMissed 0 = .ok (.iconst 0, 1) by decide +kernel) (by decide) rfl, ?_⟩
  refine List.forall_mem_cons.mpr ⟨ok_istore_n C (show decode cX6_allMissed 1 = .ok (.istore_n 2, 1) by decide +kernel) rfl (by decide) rfl, ?_⟩
  refine List.forall_mem_cons.mpr ⟨ok_iconst C (show decode cX6_allMissed 2 = .ok (.iconst 0, 1) by decide +kernel) (by decide) rfl, ?_⟩
  refine List.forall_mem_cons.mpr ⟨ok_istore_n C (show decode cX6_allMissed 3 = .ok (.istore_n 3, 1) by decide +kernel) rfl (by decide) rfl, ?_⟩
  refine List.forall_mem_cons.mpr ⟨ok_iload_n C (show decode cX6_allMissed 4 = .ok (.iload_n 3, 1) by decide +kernel) rfl rfl, ?_⟩
  refine List.forall_mem_cons.mpr ⟨ok_aload_n C (show decode cX6_allMissed 5 = .ok (.aload_n 1, 1) by decide +kernel) rfl rfl, ?_⟩
  refine List.forall_mem_cons.mpr ⟨ok_getf C (wi_X7) rfl (by decide) kw_257 (show decode cX6_allMissed 6 = .ok (.getfield 78, 3) by decide +kernel) rfl, ?_⟩
  refine List.forall_mem_cons.mpr ⟨ok_icmpge C (show decode cX6_allMissed 9 = .ok (.if_icmp .ge 29, 3) by decide +kernel) (tg := 38) (by decide) rfl rfl, ?_⟩
  refine List.forall_mem_cons.mpr ⟨ok_aload_n C (show decode cX6_allMissed 12 = .ok (.aload_n 0, 1) by decide +kernel) rfl rfl, ?_⟩
  refine List.forall_mem_cons.mpr ⟨ok_aload_n C (show decode cX6_allMissed 13 = .ok (.aload_n 1, 1) by decide +kernel) rfl rfl, ?_⟩
  refine List.forall_mem_cons.mpr ⟨ok_iload_n C (show decode cX6_allMissed 14 = .ok (.iload_n 3, 1) by decide +kernel) rfl rfl, ?_⟩
  refine List.forall_mem_cons.mpr ⟨ok_callV C h_X6_isFelt ⟨rfl, rfl⟩ rfl kw_672 kw_669 kw_671 kp_19 kw_6 rfl ds_X6_isFelt ⟨by decide, by decide⟩ (show decode cX6_allMissed 15 = .ok (.invokevirtual 81, 3) by decide +kernel) rfl, ?_⟩
  refine List.forall_mem_cons.mpr ⟨ok_ifeq C (show decode cX6_allMissed 18 = .ok (.ifCond .eq 14, 3) by decide +kernel) (tg := 32) (by decide) rfl rfl, ?_⟩
  refine List.forall_mem_cons.mpr ⟨ok_iload_n C (show decode cX6_allMissed 21 = .ok (.iload_n 2, 1) by decide +kernel) rfl rfl, ?_⟩
  refine List.forall_mem_cons.mpr ⟨ok_iconst C (show decode cX6_allMissed 22 = .ok (.iconst 1, 1) by decide +kernel) (by decide) rfl, ?_⟩
  refine List.forall_mem_cons.mpr ⟨ok_aload_n C (show decode cX6_allMissed 23 = .ok (.aload_n 1, 1) by decide +kernel) rfl rfl, ?_⟩
  refine List.forall_mem_cons.mpr ⟨ok_getf C (wi_X7) rfl (by decide) kw_242 (show decode cX6_allMissed 24 = .ok (.getfield 69, 3) by decide +kernel) rfl, ?_⟩
  refine List.forall_mem_cons.mpr ⟨ok_iload_n C (show decode cX6_allMissed 27 = .ok (.iload_n 3, 1) by decide +kernel) rfl rfl, ?_⟩
  refine List.forall_mem_cons.mpr ⟨ok_iaload C (show decode cX6_allMissed 28 = .ok (.iaload, 1) by decide +kernel) rfl, ?_⟩
  refine List.forall_mem_cons.mpr ⟨ok_ishl C (show decode cX6_allMissed 29 = .ok (.ishl, 1) by decide +kernel) rfl, ?_⟩
  refine List.forall_mem_cons.mpr ⟨ok_ior C (show decode cX6_allMissed 30 = .ok (.ior, 1) by decide +kernel) rfl, ?_⟩
  refine List.forall_mem_cons.mpr ⟨ok_istore_n C (show decode cX6_allMissed 31 = .ok (.istore_n 2, 1) by decide +kernel) rfl (by decide) rfl, ?_⟩
  refine List.forall_mem_cons.mpr ⟨ok_iinc C (show decode cX6_allMissed 32 = .ok (.iinc 3 1, 3) by decide +kernel) (by decide) (by decide) rfl, ?_⟩
  refine List.forall_mem_cons.mpr ⟨ok_goto C (show decode cX6_allMissed 35 = .ok (.goto (-31), 3) by decide +kernel) (tg := 4) (by decide) rfl, ?_⟩
  refine List.forall_mem_cons.mpr ⟨ok_iload_n C (show decode cX6_allMissed 38 = .ok (.iload_n 2, 1) by decide +kernel) rfl rfl, ?_⟩
  refine List.forall_mem_cons.mpr ⟨ok_ret C rfl (show decode cX6_allMissed 39 = .ok (.ireturn, 1) by decide +kernel), ?_⟩
  exact fun _ h => absurd h List.not_mem_nil
def L_X10_slotOf : List (Nat × ab_A) := [
  (0, ab_nx 1 (ab_lit (.int 2))),
  (1, ab_nx 2 (ab_iload 0)),
  (2, ab_nx 3 (ab_bin (fun x y => x * y))),
  (3, ab_nx 4 (ab_iload 1)),
  (4, ab_nx 5 (ab_bin (fun x y => x + y))),
  (5, ab_ret 0 0)]
set_option maxRecDepth 100000 in
set_option maxHeartbeats 4000000 in
theorem M_X10_slotOf {l : Launch} {b : ab_B} {D : va_G} {cA : Nat → ClassId} : ab_M l b D ab_cl cA (ab_E0 b) yX10_slotOf (Cond.code yX10_slotOf cX10_slotOf 2 (some .int) :: ab_G) ({ frames := 1, cells := 0, slots := 0, locals := 100 } : Room) (ab_X (ab_T L_X10_slotOf) 2) := by
  refine ab_meth (ret := (some .int)) L_X10_slotOf (by decide) rfl fun p e R s m args below meth c o C => ?_
  unfold L_X10_slotOf
  refine List.forall_mem_cons.mpr ⟨ok_iconst C (show decode cX10_slotOf 0 = .ok (.iconst 2, 1) by decide +kernel) (by decide) rfl, ?_⟩
  refine List.forall_mem_cons.mpr ⟨ok_iload_n C (show decode cX10_slotOf 1 = .ok (.iload_n 0, 1) by decide +kernel) rfl rfl, ?_⟩
  refine List.forall_mem_cons.mpr ⟨ok_imul C (show decode cX10_slotOf 2 = .ok (.imul, 1) by decide +kernel) rfl, ?_⟩
  refine List.forall_mem_cons.mpr ⟨ok_iload_n C (show decode cX10_slotOf 3 = .ok (.iload_n 1, 1) by decide +kernel) rfl rfl, ?_⟩
  refine List.forall_mem_cons.mpr ⟨ok_iadd C (show decode cX10_slotOf 4 = .ok (.iadd, 1) by decide +kernel) rfl, ?_⟩
  refine List.forall_mem_cons.mpr ⟨ok_ret C rfl (show decode cX10_slotOf 5 = .ok (.ireturn, 1) by decide +kernel), ?_⟩
  exact fun _ h => absurd h List.not_mem_nil
def L_X7_amountOf : List (Nat × ab_A) := [
  (0, ab_nx 1 (ab_aload 0)),
  (1, ab_nx 4 (ab_getf 7 3)),
  (4, ab_nx 5 (ab_iload 1)),
  (5, ab_nx 7 (ab_lit (.int 12))),
  (7, ab_nx 8 (ab_bin (fun x y => x * y))),
  (8, ab_nx 9 (ab_iload 2)),
  (9, ab_nx 10 (ab_bin (fun x y => x + y))),
  (10, ab_nx 11 (ab_ald 1)),
  (11, ab_ret 0 0)]
set_option maxRecDepth 100000 in
set_option maxHeartbeats 4000000 in
theorem M_X7_amountOf {l : Launch} {b : ab_B} {D : va_G} {cA : Nat → ClassId} : ab_M l b D ab_cl cA (ab_E0 b) yX7_amountOf (Cond.code yX7_amountOf cX7_amountOf 3 (some .int) :: ab_G) ({ frames := 1, cells := 0, slots := 0, locals := 100 } : Room) (ab_X (ab_T L_X7_amountOf) 3) := by
  refine ab_meth (ret := (some .int)) L_X7_amountOf (by decide) rfl fun p e R s m args below meth c o C => ?_
  unfold L_X7_amountOf
  refine List.forall_mem_cons.mpr ⟨ok_aload_n C (show decode cX7_amountOf 0 = .ok (.aload_n 0, 1) by decide +kernel) rfl rfl, ?_⟩
  refine List.forall_mem_cons.mpr ⟨ok_getf C (wi_X7) rfl (by decide) kw_238 (show decode cX7_amountOf 1 = .ok (.getfield 22, 3) by decide +kernel) rfl, ?_⟩
  refine List.forall_mem_cons.mpr ⟨ok_iload_n C (show decode cX7_amountOf 4 = .ok (.iload_n 1, 1) by decide +kernel) rfl rfl, ?_⟩
  refine List.forall_mem_cons.mpr ⟨ok_bipush C (show decode cX7_amountOf 5 = .ok (.bipush 12, 2) by decide +kernel) (by decide) rfl, ?_⟩
  refine List.forall_mem_cons.mpr ⟨ok_imul C (show decode cX7_amountOf 7 = .ok (.imul, 1) by decide +kernel) rfl, ?_⟩
  refine List.forall_mem_cons.mpr ⟨ok_iload_n C (show decode cX7_amountOf 8 = .ok (.iload_n 2, 1) by decide +kernel) rfl rfl, ?_⟩
  refine List.forall_mem_cons.mpr ⟨ok_iadd C (show decode cX7_amountOf 9 = .ok (.iadd, 1) by decide +kernel) rfl, ?_⟩
  refine List.forall_mem_cons.mpr ⟨ok_iaload C (show decode cX7_amountOf 10 = .ok (.iaload, 1) by decide +kernel) rfl, ?_⟩
  refine List.forall_mem_cons.mpr ⟨ok_ret C rfl (show decode cX7_amountOf 11 = .ok (.ireturn, 1) by decide +kernel), ?_⟩
  exact fun _ h => absurd h List.not_mem_nil
def L_X6_lackAt (f_X7_amountOf : List Value → ab_H → Option ab_O) : List (Nat × ab_A) := [
  (0, ab_nx 1 (ab_lit (.int 0))),
  (1, ab_nx 2 (ab_aload 1)),
  (2, ab_nx 3 (ab_lit (.int 1))),
  (3, ab_nx 4 (ab_iload 2)),
  (4, ab_nx 7 (ab_callV 3 7 f_X7_amountOf 0 0 0 0)),
  (7, ab_nx 8 (ab_aload 0)),
  (8, ab_nx 11 (ab_getf 6 0)),
  (11, ab_nx 12 (ab_iload 2)),
  (12, ab_nx 13 (ab_ald 1)),
  (13, ab_nx 14 (ab_bin (fun x y => x - y))),
  (14, ab_nx 17 (ab_mm ab_max 0 0)),
  (17, ab_ret 0 0)]
set_option maxRecDepth 100000 in
set_option maxHeartbeats 4000000 in
theorem M_X6_lackAt {l : Launch} {b : ab_B} {D : va_G} {cA : Nat → ClassId} {f_X7_amountOf : List Value → ab_H → Option ab_O} (h_X7_amountOf : ab_M l b D ab_cl cA (ab_E0 b) yX7_amountOf (Cond.code yX7_amountOf cX7_amountOf 3 (some .int) :: ab_G) ({ frames := 1, cells := 0, slots := 0, locals := 100 } : Room) f_X7_amountOf) : ab_M l b D ab_cl cA (ab_E0 b) yX6_lackAt (Cond.code yX6_lackAt cX6_lackAt 3 (some .int) :: ab_G) ({ frames := 2, cells := 0, slots := 0, locals := 200 } : Room) (ab_X (ab_T (L_X6_lackAt f_X7_amountOf)) 3) := by
  refine ab_meth (ret := (some .int)) (L_X6_lackAt f_X7_amountOf) (by decide) rfl fun p e R s m args below meth c o C => ?_
  unfold L_X6_lackAt
  refine List.forall_mem_cons.mpr ⟨ok_iconst C (show decode cX6_lackAt 0 = .ok (.iconst 0, 1) by decide +kernel) (by decide) rfl, ?_⟩
  refine List.forall_mem_cons.mpr ⟨ok_aload_n C (show decode cX6_lackAt 1 = .ok (.aload_n 1, 1) by decide +kernel) rfl rfl, ?_⟩
  refine List.forall_mem_cons.mpr ⟨ok_iconst C (show decode cX6_lackAt 2 = .ok (.iconst 1, 1) by decide +kernel) (by decide) rfl, ?_⟩
  refine List.forall_mem_cons.mpr ⟨ok_iload_n C (show decode cX6_lackAt 3 = .ok (.iload_n 2, 1) by decide +kernel) rfl rfl, ?_⟩
  refine List.forall_mem_cons.mpr ⟨ok_callV C h_X7_amountOf ⟨rfl, rfl⟩ rfl kw_576 kw_573 kw_574 kw_575 kw_9 rfl ds_X7_amountOf ⟨by decide, by decide⟩ (show decode cX6_lackAt 4 = .ok (.invokevirtual 33, 3) by decide +kernel) rfl, ?_⟩
  refine List.forall_mem_cons.mpr ⟨ok_aload_n C (show decode cX6_lackAt 7 = .ok (.aload_n 0, 1) by decide +kernel) rfl rfl, ?_⟩
  refine List.forall_mem_cons.mpr ⟨ok_getf C (wi_X6) rfl (by decide) kw_142 (show decode cX6_lackAt 8 = .ok (.getfield 9, 3) by decide +kernel) rfl, ?_⟩
  refine List.forall_mem_cons.mpr ⟨ok_iload_n C (show decode cX6_lackAt 11 = .ok (.iload_n 2, 1) by decide +kernel) rfl rfl, ?_⟩
  refine List.forall_mem_cons.mpr ⟨ok_iaload C (show decode cX6_lackAt 12 = .ok (.iaload, 1) by decide +kernel) rfl, ?_⟩
  refine List.forall_mem_cons.mpr ⟨ok_isub C (show decode cX6_lackAt 13 = .ok (.isub, 1) by decide +kernel) rfl, ?_⟩
  refine List.forall_mem_cons.mpr ⟨ok_mmax C kw_606 kw_607 kw_16 kw_608 ⟨by decide, by decide⟩ (show decode cX6_lackAt 14 = .ok (.invokestatic 58, 3) by decide +kernel) rfl, ?_⟩
  refine List.forall_mem_cons.mpr ⟨ok_ret C rfl (show decode cX6_lackAt 17 = .ok (.ireturn, 1) by decide +kernel), ?_⟩
  exact fun _ h => absurd h List.not_mem_nil
def L_X1_plan (f_X6_ferryShore : List Value → ab_H → Option ab_O) (f_X6_allMissed : List Value → ab_H → Option ab_O) (f_X10_slotOf : List Value → ab_H → Option ab_O) (f_X6_lackAt : List Value → ab_H → Option ab_O) (f_X1_amountMoved : List Value → ab_H → Option ab_O) : List (Nat × ab_A) := [
  (0, ab_nx 1 (ab_aload 2)),
  (1, ab_nx 4 (ab_callV 1 6 f_X6_ferryShore 0 0 0 0)),
  (4, ab_nx 5 (ab_istore 3)),
  (5, ab_nx 6 (ab_aload 2)),
  (6, ab_nx 9 (ab_getf 6 7)),
  (9, ab_nx 12 (ab_lit (.int 400))),
  (12, ab_icmp 15 22 (fun x y => decide (y ≤ x))),
  (15, ab_nx 16 (ab_aload 1)),
  (16, ab_nx 19 (ab_getf 7 7)),
  (19, ab_goto 23),
  (22, ab_nx 23 (ab_lit (.int 0))),
  (23, ab_nx 25 (ab_istore 4)),
  (25, ab_nx 26 (ab_aload 0)),
  (26, ab_nx 27 (ab_lit (.int 0))),
  (27, ab_nx 30 (ab_putf 1 3 0)),
  (30, ab_nx 31 (ab_aload 0)),
  (31, ab_nx 32 (ab_lit (.int 0))),
  (32, ab_nx 35 (ab_putf 1 2 0)),
  (35, ab_nx 36 (ab_aload 2)),
  (36, ab_nx 37 (ab_aload 1)),
  (37, ab_nx 40 (ab_callV 2 6 f_X6_allMissed 0 0 0 0)),
  (40, ab_nx 42 (ab_istore 5)),
  (42, ab_nx 43 (ab_lit (.int 0))),
  (43, ab_nx 45 (ab_istore 6)),
  (45, ab_nx 47 (ab_iload 6)),
  (47, ab_nx 48 (ab_aload 1)),
  (48, ab_nx 51 (ab_getf 7 9)),
  (51, ab_icmp 54 115 (fun x y => decide (y ≤ x))),
  (54, ab_nx 56 (ab_iload 4)),
  (56, ab_nx 57 (ab_aload 0)),
  (57, ab_nx 60 (ab_getf 1 3)),
  (60, ab_nx 61 (ab_bin (fun x y => x - y))),
  (61, ab_nx 62 (ab_lit (.int 2))),
  (62, ab_icmp 65 115 (fun x y => decide (x < y))),
  (65, ab_nx 66 (ab_aload 2)),
  (66, ab_nx 69 (ab_getf 6 4)),
  (69, ab_nx 71 (ab_iload 6)),
  (71, ab_nx 72 (ab_ald 1)),
  (72, ab_nx 73 (ab_iload 3)),
  (73, ab_icmp 76 109 (fun x y => !decide (x = y))),
  (76, ab_nx 78 (ab_iload 5)),
  (78, ab_nx 79 (ab_lit (.int 1))),
  (79, ab_nx 81 (ab_iload 6)),
  (81, ab_nx 82 (ab_bin (fun x y => x <<< (y &&& 31)))),
  (82, ab_nx 83 (ab_bin (fun x y => x &&& y))),
  (83, ab_if 86 109 (fun x => decide (x = 0))),
  (86, ab_nx 87 (ab_aload 0)),
  (87, ab_nx 88 ab_dup),
  (88, ab_nx 91 (ab_getf 1 2)),
  (91, ab_nx 92 (ab_lit (.int 1))),
  (92, ab_nx 94 (ab_iload 6)),
  (94, ab_nx 95 (ab_bin (fun x y => x <<< (y &&& 31)))),
  (95, ab_nx 96 (ab_bin (fun x y => x ||| y))),
  (96, ab_nx 99 (ab_putf 1 2 0)),
  (99, ab_nx 100 (ab_aload 0)),
  (100, ab_nx 101 ab_dup),
  (101, ab_nx 104 (ab_getf 1 3)),
  (104, ab_nx 105 (ab_lit (.int 2))),
  (105, ab_nx 106 (ab_bin (fun x y => x + y))),
  (106, ab_nx 109 (ab_putf 1 3 0)),
  (109, ab_nx 112 (ab_iinc 6 1)),
  (112, ab_goto 45),
  (115, ab_nx 116 (ab_lit (.int 0))),
  (116, ab_nx 118 (ab_istore 6)),
  (118, ab_nx 120 (ab_iload 6)),
  (120, ab_nx 121 (ab_aload 1)),
  (121, ab_nx 124 (ab_getf 7 8)),
  (124, ab_icmp 127 208 (fun x y => decide (y ≤ x))),
  (127, ab_nx 128 (ab_aload 2)),
  (128, ab_nx 129 (ab_aload 1)),
  (129, ab_nx 131 (ab_iload 6)),
  (131, ab_nx 132 (ab_lit (.int 1))),
  (132, ab_nx 133 (ab_iload 3)),
  (133, ab_nx 134 (ab_bin (fun x y => x - y))),
  (134, ab_nx 137 (ab_call 2 f_X10_slotOf 0 0 0 0)),
  (137, ab_nx 140 (ab_callV 3 6 f_X6_lackAt 0 0 0 0)),
  (140, ab_nx 142 (ab_istore 7)),
  (142, ab_nx 143 (ab_aload 0)),
  (143, ab_nx 146 (ab_getf 1 1)),
  (146, ab_nx 148 (ab_iload 6)),
  (148, ab_nx 150 (ab_iload 4)),
  (150, ab_nx 151 (ab_aload 0)),
  (151, ab_nx 154 (ab_getf 1 3)),
  (154, ab_nx 155 (ab_bin (fun x y => x - y))),
  (155, ab_nx 156 (ab_ast 1)),
  (156, ab_nx 157 (ab_aload 0)),
  (157, ab_nx 160 (ab_getf 1 0)),
  (160, ab_nx 162 (ab_iload 6)),
  (162, ab_nx 163 (ab_aload 2)),
  (163, ab_nx 166 (ab_getf 6 0)),
  (166, ab_nx 168 (ab_iload 6)),
  (168, ab_nx 169 (ab_iload 3)),
  (169, ab_nx 172 (ab_call 2 f_X10_slotOf 0 0 0 0)),
  (172, ab_nx 173 (ab_ald 1)),
  (173, ab_nx 175 (ab_iload 7)),
  (175, ab_nx 176 (ab_aload 0)),
  (176, ab_nx 179 (ab_getf 1 1)),
  (179, ab_nx 181 (ab_iload 6)),
  (181, ab_nx 182 (ab_ald 1)),
  (182, ab_nx 185 (ab_call 3 f_X1_amountMoved 0 0 0 0)),
  (185, ab_nx 186 (ab_ast 1)),
  (186, ab_nx 187 (ab_aload 0)),
  (187, ab_nx 188 ab_dup),
  (188, ab_nx 191 (ab_getf 1 3)),
  (191, ab_nx 192 (ab_aload 0)),
  (192, ab_nx 195 (ab_getf 1 0)),
  (195, ab_nx 197 (ab_iload 6)),
  (197, ab_nx 198 (ab_ald 1)),
  (198, ab_nx 199 (ab_bin (fun x y => x + y))),
  (199, ab_nx 202 (ab_putf 1 3 0)),
  (202, ab_nx 205 (ab_iinc 6 1)),
  (205, ab_goto 118),
  (208, ab_vret 0 0)]
set_option maxRecDepth 100000 in
set_option maxHeartbeats 4000000 in
theorem M_X1_plan {l : Launch} {b : ab_B} {D : va_G} {cA : Nat → ClassId} {f_X6_ferryShore : List Value → ab_H → Option ab_O} (h_X6_ferryShore : ab_M l b D ab_cl cA (ab_E0 b) yX6_ferryShore (Cond.code yX6_ferryShore cX6_ferryShore 1 (some .int) :: ab_G) ({ frames := 1, cells := 0, slots := 0, locals := 100 } : Room) f_X6_ferryShore) {f_X6_allMissed : List Value → ab_H → Option ab_O} (h_X6_allMissed : ab_M l b D ab_cl cA (ab_E0 b) yX6_allMissed (Cond.code yX6_allMissed cX6_allMissed 4 (some .int) :: ab_G) ({ frames := 3, cells := 0, slots := 0, locals := 300 } : Room) f_X6_allMissed) {f_X10_slotOf : List Value → ab_H → Option ab_O} (h_X10_slotOf : ab_M l b D ab_cl cA (ab_E0 b) yX10_slotOf (Cond.code yX10_slotOf cX10_slotOf 2 (some .int) :: ab_G) ({ frames := 1, cells := 0, slots := 0, locals := 100 } : Room) f_X10_slotOf) {f_X6_lackAt : List Value → ab_H → Option ab_O} (h_X6_lackAt : ab_M l b D ab_cl cA (ab_E0 b) yX6_lackAt (Cond.code yX6_lackAt cX6_lackAt 3 (some .int) :: ab_G) ({ frames := 2, cells := 0, slots := 0, locals := 200 } : Room) f_X6_lackAt) {f_X1_amountMoved : List Value → ab_H → Option ab_O} (h_X1_amountMoved : ab_M l b D ab_cl cA (ab_E0 b) yX1_amountMoved (Cond.code yX1_amountMoved cX1_amountMoved 3 (some .int) :: ab_G) ({ frames := 2, cells := 0, slots := 0, locals := 200 } : Room) f_X1_amountMoved) : ab_M l b D ab_cl cA (ab_E0 b) yX1_plan (Cond.code yX1_plan cX1_plan 8 none :: ab_G) ({ frames := 4, cells := 0, slots := 0, locals := 400 } : Room) (ab_X (ab_T (L_X1_plan f_X6_ferryShore f_X6_allMissed f_X10_slotOf f_X6_lackAt f_X1_amountMoved)) 8) := by
  refine ab_meth (ret := none) (L_X1_plan f_X6_ferryShore f_X6_allMissed f_X10_slotOf f_X6_lackAt f_X1_amountMoved) (by decide) rfl fun p e R s m args below meth c o C => ?_
  unfold L_X1_plan
  refine List.forall_mem_cons.mpr ⟨ok_aload_n C (show decode cX1_plan 0 = .ok (.aload_n 2, 1) by decide +kernel) rfl rfl, ?_⟩
  refine List.forall_mem_cons.mpr ⟨ok_callV C h_X6_ferryShore ⟨rfl, rfl⟩ rfl kw_644 kw_756 kw_642 kw_643 kw_6 rfl ds_X6_ferryShore ⟨by decide, by decide⟩ (show decode cX1_plan 1 = .ok (.invokevirtual 27, 3) by decide +kernel) rfl, ?_⟩
  refine List.forall_mem_cons.mpr ⟨ok_istore_n C (show decode cX1_plan 4 = .ok (.istore_n 3, 1) by decide +kernel) rfl (by decide) rfl, ?_⟩
  refine List.forall_mem_cons.mpr ⟨ok_aload_n C (show decode cX1_plan 5 = .ok (.aload_n 2, 1) by decide +kernel) rfl rfl, ?_⟩
  refine List.forall_mem_cons.mpr ⟨ok_getf C (wi_X6) rfl (by decide) kw_163 (show decode cX1_plan 6 = .ok (.getfield 33, 3) by decide +kernel) rfl, ?_⟩
  refine List.forall_mem_cons.mpr ⟨ok_sipush C (show decode cX1_plan 9 = .ok (.sipush 400, 3) by decide +kernel) (by decide) rfl, ?_⟩
  refine List.forall_mem_cons.mpr ⟨ok_icmpge C (show decode cX1_plan 12 = .ok (.if_icmp .ge 10, 3) by decide +kernel) (tg := 22) (by decide) rfl rfl, ?_⟩
  refine List.forall_mem_cons.mpr ⟨ok_aload_n C (show decode cX1_plan 15 = .ok (.aload_n 1, 1) by decide +kernel) rfl rfl, ?_⟩
  refine List.forall_mem_cons.mpr ⟨ok_getf C (wi_X7) rfl (by decide) kw_246 (show decode cX1_plan 16 = .ok (.getfield 37, 3) by decide +kernel) rfl, ?_⟩
  refine List.forall_mem_cons.mpr ⟨ok_goto C (show decode cX1_plan 19 = .ok (.goto 4, 3) by decide +kernel) (tg := 23) (by decide) rfl, ?_⟩
  refine List.forall_mem_cons.mpr ⟨ok_iconst C (show decode cX1_plan 22 = .ok (.iconst 0, 1) by decide +kernel) (by decide) rfl, ?_⟩
  refine List.forall_mem_cons.mpr ⟨ok_istore C (show decode cX1_plan 23 = .ok (.istore 4, 2) by decide +kernel) (by decide) rfl, ?_⟩
  refine List.forall_mem_cons.mpr ⟨ok_aload_n C (show decode cX1_plan 25 = .ok (.aload_n 0, 1) by decide +kernel) rfl rfl, ?_⟩
  refine List.forall_mem_cons.mpr ⟨ok_iconst C (show decode cX1_plan 26 = .ok (.iconst 0, 1) by decide +kernel) (by decide) rfl, ?_⟩
  refine List.forall_mem_cons.mpr ⟨ok_putf C (wi_X1) tyX1 tyX1_ok nmX1 rfl (by decide) kw_111 (Or.inl rfl) (Or.inl ⟨rfl, rfl⟩) (show decode cX1_plan 27 = .ok (.putfield 42, 3) by decide +kernel) rfl, ?_⟩
  refine List.forall_mem_cons.mpr ⟨ok_aload_n C (show decode cX1_plan 30 = .ok (.aload_n 0, 1) by decide +kernel) rfl rfl, ?_⟩
  refine List.forall_mem_cons.mpr ⟨ok_iconst C (show decode cX1_plan 31 = .ok (.iconst 0, 1) by decide +kernel) (by decide) rfl, ?_⟩
  refine List.forall_mem_cons.mpr ⟨ok_putf C (wi_X1) tyX1 tyX1_ok nmX1 rfl (by decide) kw_109 (Or.inl rfl) (Or.inl ⟨rfl, rfl⟩) (show decode cX1_plan 32 = .ok (.putfield 45, 3) by decide +kernel) rfl, ?_⟩
  refine List.forall_mem_cons.mpr ⟨ok_aload_n C (show decode cX1_plan 35 = .ok (.aload_n 2, 1) by decide +kernel) rfl rfl, ?_⟩
  refine List.forall_mem_cons.mpr ⟨ok_aload_n C (show decode cX1_plan 36 = .ok (.aload_n 1, 1) by decide +kernel) rfl rfl, ?_⟩
  refine List.forall_mem_cons.mpr ⟨ok_callV C h_X6_allMissed ⟨rfl, rfl⟩ rfl kw_760 kw_757 kw_758 kw_759 kw_6 rfl ds_X6_allMissed ⟨by decide, by decide⟩ (show decode cX1_plan 37 = .ok (.invokevirtual 48, 3) by decide +kernel) rfl, ?_⟩
  refine List.forall_mem_cons.mpr ⟨ok_istore C (show decode cX1_plan 40 = .ok (.istore 5, 2) by decide +kernel) (by decide) rfl, ?_⟩
  refine List.forall_mem_cons.mpr ⟨ok_iconst C (show decode cX1_plan 42 = .ok (.iconst 0, 1) by decide +kernel) (by decide) rfl, ?_⟩
  refine List.forall_mem_cons.mpr ⟨ok_istore C (show decode cX1_plan 43 = .ok (.istore 6, 2) by decide +kernel) (by decide) rfl, ?_⟩
  refine List.forall_mem_cons.mpr ⟨ok_iload C (show decode cX1_plan 45 = .ok (.iload 6, 2) by decide +kernel) rfl, ?_⟩
  refine List.forall_mem_cons.mpr ⟨ok_aload_n C (show decode cX1_plan 47 = .ok (.aload_n 1, 1) by decide +kernel) rfl rfl, ?_⟩
  refine List.forall_mem_cons.mpr ⟨ok_getf C (wi_X7) rfl (by decide) kw_252 (show decode cX1_plan 48 = .ok (.getfield 52, 3) by decide +kernel) rfl, ?_⟩
  refine List.forall_mem_cons.mpr ⟨ok_icmpge C (show decode cX1_plan 51 = .ok (.if_icmp .ge 64, 3) by decide +kernel) (tg := 115) (by decide) rfl rfl, ?_⟩
  refine List.forall_mem_cons.mpr ⟨ok_iload C (show decode cX1_plan 54 = .ok (.iload 4, 2) by decide +kernel) rfl, ?_⟩
  refine List.forall_mem_cons.mpr ⟨ok_aload_n C (show decode cX1_plan 56 = .ok (.aload_n 0, 1) by decide +kernel) rfl rfl, ?_⟩
  refine List.forall_mem_cons.mpr ⟨ok_getf C (wi_X1) rfl (by decide) kw_111 (show decode cX1_plan 57 = .ok (.getfield 42, 3) by decide +kernel) rfl, ?_⟩
  refine List.forall_mem_cons.mpr ⟨ok_isub C (show decode cX1_plan 60 = .ok (.isub, 1) by decide +kernel) rfl, ?_⟩
  refine List.forall_mem_cons.mpr ⟨ok_iconst C (show decode cX1_plan 61 = .ok (.iconst 2, 1) by decide +kernel) (by decide) rfl, ?_⟩
  refine List.forall_mem_cons.mpr ⟨ok_icmplt C (show decode cX1_plan 62 = .ok (.if_icmp .lt 53, 3) by decide +kernel) (tg := 115) (by decide) rfl rfl, ?_⟩
  refine List.forall_mem_cons.mpr ⟨ok_aload_n C (show decode cX1_plan 65 = .ok (.aload_n 2, 1) by decide +kernel) rfl rfl, ?_⟩
  refine List.forall_mem_cons.mpr ⟨ok_getf C (wi_X6) rfl (by decide) kw_156 (show decode cX1_plan 66 = .ok (.getfield 55, 3) by decide +kernel) rfl, ?_⟩
  refine List.forall_mem_cons.mpr ⟨ok_iload C (show decode cX1_plan 69 = .ok (.iload 6, 2) by decide +kernel) rfl, ?_⟩
  refine List.forall_mem_cons.mpr ⟨ok_iaload C (show decode cX1_plan 71 = .ok (.iaload, 1) by decide +kernel) rfl, ?_⟩
  refine List.forall_mem_cons.mpr ⟨ok_iload_n C (show decode cX1_plan 72 = .ok (.iload_n 3, 1) by decide +kernel) rfl rfl, ?_⟩
  refine List.forall_mem_cons.mpr ⟨ok_icmpne C (show decode cX1_plan 73 = .ok (.if_icmp .ne 36, 3) by decide +kernel) (tg := 109) (by decide) rfl rfl, ?_⟩
  refine List.forall_mem_cons.mpr ⟨ok_iload C (show decode cX1_plan 76 = .ok (.iload 5, 2) by decide +kernel) rfl, ?_⟩
  refine List.forall_mem_cons.mpr ⟨ok_iconst C (show decode cX1_plan 78 = .ok (.iconst 1, 1) by decide +kernel) (by decide) rfl, ?_⟩
  refine List.forall_mem_cons.mpr ⟨ok_iload C (show decode cX1_plan 79 = .ok (.iload 6, 2) by decide +kernel) rfl, ?_⟩
  refine List.forall_mem_cons.mpr ⟨ok_ishl C (show decode cX1_plan 81 = .ok (.ishl, 1) by decide +kernel) rfl, ?_⟩
  refine List.forall_mem_cons.mpr ⟨ok_iand C (show decode cX1_plan 82 = .ok (.iand, 1) by decide +kernel) rfl, ?_⟩
  refine List.forall_mem_cons.mpr ⟨ok_ifeq C (show decode cX1_plan 83 = .ok (.ifCond .eq 26, 3) by decide +kernel) (tg := 109) (by decide) rfl rfl, ?_⟩
  refine List.forall_mem_cons.mpr ⟨ok_aload_n C (show decode cX1_plan 86 = .ok (.aload_n 0, 1) by decide +kernel) rfl rfl, ?_⟩
  refine List.forall_mem_cons.mpr ⟨ok_dup C (show decode cX1_plan 87 = .ok (.dup, 1) by decide +kernel) rfl, ?_⟩
  refine List.forall_mem_cons.mpr ⟨ok_getf C (wi_X1) rfl (by decide) kw_109 (show decode cX1_plan 88 = .ok (.getfield 45, 3) by decide +kernel) rfl, ?_⟩
  refine List.forall_mem_cons.mpr ⟨ok_iconst C (show decode cX1_plan 91 = .ok (.iconst 1, 1) by decide +kernel) (by decide) rfl, ?_⟩
  refine List.forall_mem_cons.mpr ⟨ok_iload C (show decode cX1_plan 92 = .ok (.iload 6, 2) by decide +kernel) rfl, ?_⟩
  refine List.forall_mem_cons.mpr ⟨ok_ishl C (show decode cX1_plan 94 = .ok (.ishl, 1) by decide +kernel) rfl, ?_⟩
  refine List.forall_mem_cons.mpr ⟨ok_ior C (show decode cX1_plan 95 = .ok (.ior, 1) by decide +kernel) rfl, ?_⟩
  refine List.forall_mem_cons.mpr ⟨ok_putf C (wi_X1) tyX1 tyX1_ok nmX1 rfl (by decide) kw_109 (Or.inl rfl) (Or.inl ⟨rfl, rfl⟩) (show decode cX1_plan 96 = .ok (.putfield 45, 3) by decide +kernel) rfl, ?_⟩
  refine List.forall_mem_cons.mpr ⟨ok_aload_n C (show decode cX1_plan 99 = .ok (.aload_n 0, 1) by decide +kernel) rfl rfl, ?_⟩
  refine List.forall_mem_cons.mpr ⟨ok_dup C (show decode cX1_plan 100 = .ok (.dup, 1) by decide +kernel) rfl, ?_⟩
  refine List.forall_mem_cons.mpr ⟨ok_getf C (wi_X1) rfl (by decide) kw_111 (show decode cX1_plan 101 = .ok (.getfield 42, 3) by decide +kernel) rfl, ?_⟩
  refine List.forall_mem_cons.mpr ⟨ok_iconst C (show decode cX1_plan 104 = .ok (.iconst 2, 1) by decide +kernel) (by decide) rfl, ?_⟩
  refine List.forall_mem_cons.mpr ⟨ok_iadd C (show decode cX1_plan 105 = .ok (.iadd, 1) by decide +kernel) rfl, ?_⟩
  refine List.forall_mem_cons.mpr ⟨ok_putf C (wi_X1) tyX1 tyX1_ok nmX1 rfl (by decide) kw_111 (Or.inl rfl) (Or.inl ⟨rfl, rfl⟩) (show decode cX1_plan 106 = .ok (.putfield 42, 3) by decide +kernel) rfl, ?_⟩
  refine List.forall_mem_cons.mpr ⟨ok_iinc C (show decode cX1_plan 109 = .ok (.iinc 6 1, 3) by decide +kernel) (by decide) (by decide) rfl, ?_⟩
  refine List.forall_mem_cons.mpr ⟨ok_goto C (show decode cX1_plan 112 = .ok (.goto (-67), 3) by decide +kernel) (tg := 45) (by decide) rfl, ?_⟩
  refine List.forall_mem_cons.mpr ⟨ok_iconst C (show decode cX1_plan 115 = .ok (.iconst 0, 1) by decide +kernel) (by decide) rfl, ?_⟩
  refine List.forall_mem_cons.mpr ⟨ok_istore C (show decode cX1_plan 116 = .ok (.istore 6, 2) by decide +kernel) (by decide) rfl, ?_⟩
  refine List.forall_mem_cons.mpr ⟨ok_iload C (show decode cX1_plan 118 = .ok (.iload 6, 2) by decide +kernel) rfl, ?_⟩
  refine List.forall_mem_cons.mpr ⟨ok_aload_n C (show decode cX1_plan 120 = .ok (.aload_n 1, 1) by decide +kernel) rfl rfl, ?_⟩
  refine List.forall_mem_cons.mpr ⟨ok_getf C (wi_X7) rfl (by decide) kw_248 (show decode cX1_plan 121 = .ok (.getfield 58, 3) by decide +kernel) rfl, ?_⟩
  refine List.forall_mem_cons.mpr ⟨ok_icmpge C (show decode cX1_plan 124 = .ok (.if_icmp .ge 84, 3) by decide +kernel) (tg := 208) (by decide) rfl rfl, ?_⟩
  refine List.forall_mem_cons.mpr ⟨ok_aload_n C (show decode cX1_plan 127 = .ok (.aload_n 2, 1) by decide +kernel) rfl rfl, ?_⟩
  refine List.forall_mem_cons.mpr ⟨ok_aload_n C (show decode cX1_plan 128 = .ok (.aload_n 1, 1) by decide +kernel) rfl rfl, ?_⟩
  refine List.forall_mem_cons.mpr ⟨ok_iload C (show decode cX1_plan 129 = .ok (.iload 6, 2) by decide +kernel) rfl, ?_⟩
  refine List.forall_mem_cons.mpr ⟨ok_iconst C (show decode cX1_plan 131 = .ok (.iconst 1, 1) by decide +kernel) (by decide) rfl, ?_⟩
  refine List.forall_mem_cons.mpr ⟨ok_iload_n C (show decode cX1_plan 132 = .ok (.iload_n 3, 1) by decide +kernel) rfl rfl, ?_⟩
  refine List.forall_mem_cons.mpr ⟨ok_isub C (show decode cX1_plan 133 = .ok (.isub, 1) by decide +kernel) rfl, ?_⟩
  refine List.forall_mem_cons.mpr ⟨ok_callSN C h_X10_slotOf ⟨rfl, rfl⟩ kw_532 (host := "LackFerry") (by decide +kernel) kw_531 kw_1 ds_X10_slotOf ⟨by decide, by decide⟩ (show decode cX1_plan 134 = .ok (.invokestatic 61, 3) by decide +kernel) rfl, ?_⟩
  refine List.forall_mem_cons.mpr ⟨ok_callV C h_X6_lackAt ⟨rfl, rfl⟩ rfl kw_605 kw_762 kw_603 kw_604 kw_6 rfl ds_X6_lackAt ⟨by decide, by decide⟩ (show decode cX1_plan 137 = .ok (.invokevirtual 64, 3) by decide +kernel) rfl, ?_⟩
  refine List.forall_mem_cons.mpr ⟨ok_istore C (show decode cX1_plan 140 = .ok (.istore 7, 2) by decide +kernel) (by decide) rfl, ?_⟩
  refine List.forall_mem_cons.mpr ⟨ok_aload_n C (show decode cX1_plan 142 = .ok (.aload_n 0, 1) by decide +kernel) rfl rfl, ?_⟩
  refine List.forall_mem_cons.mpr ⟨ok_getf C (wi_X1) rfl (by decide) kw_107 (show decode cX1_plan 143 = .ok (.getfield 15, 3) by decide +kernel) rfl, ?_⟩
  refine List.forall_mem_cons.mpr ⟨ok_iload C (show decode cX1_plan 146 = .ok (.iload 6, 2) by decide +kernel) rfl, ?_⟩
  refine List.forall_mem_cons.mpr ⟨ok_iload C (show decode cX1_plan 148 = .ok (.iload 4, 2) by decide +kernel) rfl, ?_⟩
  refine List.forall_mem_cons.mpr ⟨ok_aload_n C (show decode cX1_plan 150 = .ok (.aload_n 0, 1) by decide +kernel) rfl rfl, ?_⟩
  refine List.forall_mem_cons.mpr ⟨ok_getf C (wi_X1) rfl (by decide) kw_111 (show decode cX1_plan 151 = .ok (.getfield 42, 3) by decide +kernel) rfl, ?_⟩
  refine List.forall_mem_cons.mpr ⟨ok_isub C (show decode cX1_plan 154 = .ok (.isub, 1) by decide +kernel) rfl, ?_⟩
  refine List.forall_mem_cons.mpr ⟨ok_iastore C (show decode cX1_plan 155 = .ok (.iastore, 1) by decide +kernel) rfl, ?_⟩
  refine List.forall_mem_cons.mpr ⟨ok_aload_n C (show decode cX1_plan 156 = .ok (.aload_n 0, 1) by decide +kernel) rfl rfl, ?_⟩
  refine List.forall_mem_cons.mpr ⟨ok_getf C (wi_X1) rfl (by decide) kw_105 (show decode cX1_plan 157 = .ok (.getfield 9, 3) by decide +kernel) rfl, ?_⟩
  refine List.forall_mem_cons.mpr ⟨ok_iload C (show decode cX1_plan 160 = .ok (.iload 6, 2) by decide +kernel) rfl, ?_⟩
  refine List.forall_mem_cons.mpr ⟨ok_aload_n C (show decode cX1_plan 162 = .ok (.aload_n 2, 1) by decide +kernel) rfl rfl, ?_⟩
  refine List.forall_mem_cons.mpr ⟨ok_getf C (wi_X6) rfl (by decide) kw_143 (show decode cX1_plan 163 = .ok (.getfield 68, 3) by decide +kernel) rfl, ?_⟩
  refine List.forall_mem_cons.mpr ⟨ok_iload C (show decode cX1_plan 166 = .ok (.iload 6, 2) by decide +kernel) rfl, ?_⟩
  refine List.forall_mem_cons.mpr ⟨ok_iload_n C (show decode cX1_plan 168 = .ok (.iload_n 3, 1) by decide +kernel) rfl rfl, ?_⟩
  refine List.forall_mem_cons.mpr ⟨ok_callSN C h_X10_slotOf ⟨rfl, rfl⟩ kw_532 (host := "LackFerry") (by decide +kernel) kw_531 kw_1 ds_X10_slotOf ⟨by decide, by decide⟩ (show decode cX1_plan 169 = .ok (.invokestatic 61, 3) by decide +kernel) rfl, ?_⟩
  refine List.forall_mem_cons.mpr ⟨ok_iaload C (show decode cX1_plan 172 = .ok (.iaload, 1) by decide +kernel) rfl, ?_⟩
  refine List.forall_mem_cons.mpr ⟨ok_iload C (show decode cX1_plan 173 = .ok (.iload 7, 2) by decide +kernel) rfl, ?_⟩
  refine List.forall_mem_cons.mpr ⟨ok_aload_n C (show decode cX1_plan 175 = .ok (.aload_n 0, 1) by decide +kernel) rfl rfl, ?_⟩
  refine List.forall_mem_cons.mpr ⟨ok_getf C (wi_X1) rfl (by decide) kw_107 (show decode cX1_plan 176 = .ok (.getfield 15, 3) by decide +kernel) rfl, ?_⟩
  refine List.forall_mem_cons.mpr ⟨ok_iload C (show decode cX1_plan 179 = .ok (.iload 6, 2) by decide +kernel) rfl, ?_⟩
  refine List.forall_mem_cons.mpr ⟨ok_iaload C (show decode cX1_plan 181 = .ok (.iaload, 1) by decide +kernel) rfl, ?_⟩
  refine List.forall_mem_cons.mpr ⟨ok_callS C h_X1_amountMoved ⟨rfl, rfl⟩ kw_765 kw_763 kw_764 kw_4 ds_X1_amountMoved ⟨by decide, by decide⟩ (show decode cX1_plan 182 = .ok (.invokestatic 71, 3) by decide +kernel) rfl, ?_⟩
  refine List.forall_mem_cons.mpr ⟨ok_iastore C (show decode cX1_plan 185 = .ok (.iastore, 1) by decide +kernel) rfl, ?_⟩
  refine List.forall_mem_cons.mpr ⟨ok_aload_n C (show decode cX1_plan 186 = .ok (.aload_n 0, 1) by decide +kernel) rfl rfl, ?_⟩
  refine List.forall_mem_cons.mpr ⟨ok_dup C (show decode cX1_plan 187 = .ok (.dup, 1) by decide +kernel) rfl, ?_⟩
  refine List.forall_mem_cons.mpr ⟨ok_getf C (wi_X1) rfl (by decide) kw_111 (show decode cX1_plan 188 = .ok (.getfield 42, 3) by decide +kernel) rfl, ?_⟩
  refine List.forall_mem_cons.mpr ⟨ok_aload_n C (show decode cX1_plan 191 = .ok (.aload_n 0, 1) by decide +kernel) rfl rfl, ?_⟩
  refine List.forall_mem_cons.mpr ⟨ok_getf C (wi_X1) rfl (by decide) kw_105 (show decode cX1_plan 192 = .ok (.getfield 9, 3) by decide +kernel) rfl, ?_⟩
  refine List.forall_mem_cons.mpr ⟨ok_iload C (show decode cX1_plan 195 = .ok (.iload 6, 2) by decide +kernel) rfl, ?_⟩
  refine List.forall_mem_cons.mpr ⟨ok_iaload C (show decode cX1_plan 197 = .ok (.iaload, 1) by decide +kernel) rfl, ?_⟩
  refine List.forall_mem_cons.mpr ⟨ok_iadd C (show decode cX1_plan 198 = .ok (.iadd, 1) by decide +kernel) rfl, ?_⟩
  refine List.forall_mem_cons.mpr ⟨ok_putf C (wi_X1) tyX1 tyX1_ok nmX1 rfl (by decide) kw_111 (Or.inl rfl) (Or.inl ⟨rfl, rfl⟩) (show decode cX1_plan 199 = .ok (.putfield 42, 3) by decide +kernel) rfl, ?_⟩
  refine List.forall_mem_cons.mpr ⟨ok_iinc C (show decode cX1_plan 202 = .ok (.iinc 6 1, 3) by decide +kernel) (by decide) (by decide) rfl, ?_⟩
  refine List.forall_mem_cons.mpr ⟨ok_goto C (show decode cX1_plan 205 = .ok (.goto (-87), 3) by decide +kernel) (tg := 118) (by decide) rfl, ?_⟩
  refine List.forall_mem_cons.mpr ⟨ok_vret C rfl (show decode cX1_plan 208 = .ok (.return_, 1) by decide +kernel), ?_⟩
  exact fun _ h => absurd h List.not_mem_nil
def L_X1_carry (f_X6_ferryShore : List Value → ab_H → Option ab_O) (f_X10_slotOf : List Value → ab_H → Option ab_O) : List (Nat × ab_A) := [
  (0, ab_nx 1 (ab_aload 2)),
  (1, ab_nx 4 (ab_callV 1 6 f_X6_ferryShore 0 0 0 0)),
  (4, ab_nx 5 (ab_istore 3)),
  (5, ab_nx 6 (ab_lit (.int 0))),
  (6, ab_nx 8 (ab_istore 4)),
  (8, ab_nx 10 (ab_iload 4)),
  (10, ab_nx 11 (ab_aload 1)),
  (11, ab_nx 14 (ab_getf 7 9)),
  (14, ab_icmp 17 56 (fun x y => decide (y ≤ x))),
  (17, ab_nx 18 (ab_aload 0)),
  (18, ab_nx 21 (ab_getf 1 2)),
  (21, ab_nx 22 (ab_lit (.int 1))),
  (22, ab_nx 24 (ab_iload 4)),
  (24, ab_nx 25 (ab_bin (fun x y => x <<< (y &&& 31)))),
  (25, ab_nx 26 (ab_bin (fun x y => x &&& y))),
  (26, ab_if 29 50 (fun x => decide (x = 0))),
  (29, ab_nx 30 (ab_aload 2)),
  (30, ab_nx 33 (ab_getf 6 4)),
  (33, ab_nx 35 (ab_iload 4)),
  (35, ab_nx 36 (ab_lit (.int 1))),
  (36, ab_nx 37 (ab_iload 3)),
  (37, ab_nx 38 (ab_bin (fun x y => x - y))),
  (38, ab_nx 39 (ab_ast 1)),
  (39, ab_nx 40 (ab_aload 2)),
  (40, ab_nx 43 (ab_getf 6 5)),
  (43, ab_nx 45 (ab_iload 4)),
  (45, ab_nx 46 ab_dup2),
  (46, ab_nx 47 (ab_ald 1)),
  (47, ab_nx 48 (ab_lit (.int 1))),
  (48, ab_nx 49 (ab_bin (fun x y => x + y))),
  (49, ab_nx 50 (ab_ast 1)),
  (50, ab_nx 53 (ab_iinc 4 1)),
  (53, ab_goto 8),
  (56, ab_nx 57 (ab_lit (.int 0))),
  (57, ab_nx 59 (ab_istore 4)),
  (59, ab_nx 61 (ab_iload 4)),
  (61, ab_nx 62 (ab_aload 1)),
  (62, ab_nx 65 (ab_getf 7 8)),
  (65, ab_icmp 68 141 (fun x y => decide (y ≤ x))),
  (68, ab_nx 69 (ab_aload 2)),
  (69, ab_nx 72 (ab_getf 6 0)),
  (72, ab_nx 74 (ab_iload 4)),
  (74, ab_nx 75 (ab_iload 3)),
  (75, ab_nx 78 (ab_call 2 f_X10_slotOf 0 0 0 0)),
  (78, ab_nx 79 ab_dup2),
  (79, ab_nx 80 (ab_ald 1)),
  (80, ab_nx 81 (ab_aload 0)),
  (81, ab_nx 84 (ab_getf 1 0)),
  (84, ab_nx 86 (ab_iload 4)),
  (86, ab_nx 87 (ab_ald 1)),
  (87, ab_nx 88 (ab_bin (fun x y => x - y))),
  (88, ab_nx 89 (ab_ast 1)),
  (89, ab_nx 90 (ab_aload 2)),
  (90, ab_nx 93 (ab_getf 6 0)),
  (93, ab_nx 95 (ab_iload 4)),
  (95, ab_nx 96 (ab_lit (.int 1))),
  (96, ab_nx 97 (ab_iload 3)),
  (97, ab_nx 98 (ab_bin (fun x y => x - y))),
  (98, ab_nx 101 (ab_call 2 f_X10_slotOf 0 0 0 0)),
  (101, ab_nx 102 ab_dup2),
  (102, ab_nx 103 (ab_ald 1)),
  (103, ab_nx 104 (ab_aload 0)),
  (104, ab_nx 107 (ab_getf 1 0)),
  (107, ab_nx 109 (ab_iload 4)),
  (109, ab_nx 110 (ab_ald 1)),
  (110, ab_nx 111 (ab_bin (fun x y => x + y))),
  (111, ab_nx 112 (ab_ast 1)),
  (112, ab_nx 113 (ab_aload 2)),
  (113, ab_nx 116 (ab_getf 6 3)),
  (116, ab_nx 118 (ab_iload 4)),
  (118, ab_nx 119 (ab_lit (.int 1))),
  (119, ab_nx 120 (ab_iload 3)),
  (120, ab_nx 121 (ab_bin (fun x y => x - y))),
  (121, ab_nx 124 (ab_call 2 f_X10_slotOf 0 0 0 0)),
  (124, ab_nx 125 ab_dup2),
  (125, ab_nx 126 (ab_ald 1)),
  (126, ab_nx 127 (ab_aload 0)),
  (127, ab_nx 130 (ab_getf 1 0)),
  (130, ab_nx 132 (ab_iload 4)),
  (132, ab_nx 133 (ab_ald 1)),
  (133, ab_nx 134 (ab_bin (fun x y => x + y))),
  (134, ab_nx 135 (ab_ast 1)),
  (135, ab_nx 138 (ab_iinc 4 1)),
  (138, ab_goto 59),
  (141, ab_nx 142 (ab_aload 2)),
  (142, ab_nx 143 ab_dup),
  (143, ab_nx 146 (ab_getf 6 9)),
  (146, ab_nx 147 (ab_aload 0)),
  (147, ab_nx 150 (ab_getf 1 3)),
  (150, ab_nx 151 (ab_bin (fun x y => x + y))),
  (151, ab_nx 154 (ab_putf 6 9 0)),
  (154, ab_nx 155 (ab_aload 0)),
  (155, ab_nx 158 (ab_getf 1 3)),
  (158, ab_if 161 171 (fun x => !decide (x = 0))),
  (161, ab_nx 162 (ab_aload 2)),
  (162, ab_nx 163 ab_dup),
  (163, ab_nx 166 (ab_getf 6 8)),
  (166, ab_nx 167 (ab_lit (.int 1))),
  (167, ab_nx 168 (ab_bin (fun x y => x + y))),
  (168, ab_nx 171 (ab_putf 6 8 0)),
  (171, ab_vret 0 0)]
set_option maxRecDepth 100000 in
set_option maxHeartbeats 4000000 in
theorem M_X1_carry {l : Launch} {b : ab_B} {D : va_G} {cA : Nat → ClassId} {f_X6_ferryShore : List Value → ab_H → Option ab_O} (h_X6_ferryShore : ab_M l b D ab_cl cA (ab_E0 b) yX6_ferryShore (Cond.code yX6_ferryShore cX6_ferryShore 1 (some .int) :: ab_G) ({ frames := 1, cells := 0, slots := 0, locals := 100 } : Room) f_X6_ferryShore) {f_X10_slotOf : List Value → ab_H → Option ab_O} (h_X10_slotOf : ab_M l b D ab_cl cA (ab_E0 b) yX10_slotOf (Cond.code yX10_slotOf cX10_slotOf 2 (some .int) :: ab_G) ({ frames := 1, cells := 0, slots := 0, locals := 100 } : Room) f_X10_slotOf) : ab_M l b D ab_cl cA (ab_E0 b) yX1_carry (Cond.code yX1_carry cX1_carry 5 none :: ab_G) ({ frames := 2, cells := 0, slots := 0, locals := 200 } : Room) (ab_X (ab_T (L_X1_carry f_X6_ferryShore f_X10_slotOf)) 5) := by
  refine ab_meth (ret := none) (L_X1_carry f_X6_ferryShore f_X10_slotOf) (by decide) rfl fun p e R s m args below meth c o C => ?_
  unfold L_X1_carry
  refine List.forall_mem_cons.mpr ⟨ok_aload_n C (show decode cX1_carry 0 = .ok (.aload_n 2, 1) by decide +kernel) rfl rfl, ?_⟩
  refine List.forall_mem_cons.mpr ⟨ok_callV C h_X6_ferryShore ⟨rfl, rfl⟩ rfl kw_644 kw_756 kw_642 kw_643 kw_6 rfl ds_X6_ferryShore ⟨by decide, by decide⟩ (show decode cX1_carry 1 = .ok (.invokevirtual 27, 3) by decide +kernel) rfl, ?_⟩
  refine List.forall_mem_cons.mpr ⟨ok_istore_n C (show decode cX1_carry 4 = .ok (.istore_n 3, 1) by decide +kernel) rfl (by decide) rfl, ?_⟩
  refine List.forall_mem_cons.mpr ⟨ok_iconst C (show decode cX1_carry 5 = .ok (.iconst 0, 1) by decide +kernel) (by decide) rfl, ?_⟩
  refine List.forall_mem_cons.mpr ⟨ok_istore C (show decode cX1_carry 6 = .ok (.istore 4, 2) by decide +kernel) (by decide) rfl, ?_⟩
  refine List.forall_mem_cons.mpr ⟨ok_iload C (show decode cX1_carry 8 = .ok (.iload 4, 2) by decide +kernel) rfl, ?_⟩
  refine List.forall_mem_cons.mpr ⟨ok_aload_n C (show decode cX1_carry 10 = .ok (.aload_n 1, 1) by decide +kernel) rfl rfl, ?_⟩
  refine List.forall_mem_cons.mpr ⟨ok_getf C (wi_X7) rfl (by decide) kw_252 (show decode cX1_carry 11 = .ok (.getfield 52, 3) by decide +kernel) rfl, ?_⟩
  refine List.forall_mem_cons.mpr ⟨ok_icmpge C (show decode cX1_carry 14 = .ok (.if_icmp .ge 42, 3) by decide +kernel) (tg := 56) (by decide) rfl rfl, ?_⟩
  refine List.forall_mem_cons.mpr ⟨ok_aload_n C (show decode cX1_carry 17 = .ok (.aload_n 0, 1) by decide +kernel) rfl rfl, ?_⟩
  refine List.forall_mem_cons.mpr ⟨ok_getf C (wi_X1) rfl (by decide) kw_109 (show decode cX1_carry 18 = .ok (.getfield 45, 3) by decide +kernel) rfl, ?_⟩
  refine List.forall_mem_cons.mpr ⟨ok_iconst C (show decode cX1_carry 21 = .ok (.iconst 1, 1) by decide +kernel) (by decide) rfl, ?_⟩
  refine List.forall_mem_cons.mpr ⟨ok_iload C (show decode cX1_carry 22 = .ok (.iload 4, 2) by decide +kernel) rfl, ?_⟩
  refine List.forall_mem_cons.mpr ⟨ok_ishl C (show decode cX1_carry 24 = .ok (.ishl, 1) by decide +kernel) rfl, ?_⟩
  refine List.forall_mem_cons.mpr ⟨ok_iand C (show decode cX1_carry 25 = .ok (.iand, 1) by decide +kernel) rfl, ?_⟩
  refine List.forall_mem_cons.mpr ⟨ok_ifeq C (show decode cX1_carry 26 = .ok (.ifCond .eq 24, 3) by decide +kernel) (tg := 50) (by decide) rfl rfl, ?_⟩
  refine List.forall_mem_cons.mpr ⟨ok_aload_n C (show decode cX1_carry 29 = .ok (.aload_n 2, 1) by decide +kernel) rfl rfl, ?_⟩
  refine List.forall_mem_cons.mpr ⟨ok_getf C (wi_X6) rfl (by decide) kw_156 (show decode cX1_carry 30 = .ok (.getfield 55, 3) by decide +kernel) rfl, ?_⟩
  refine List.forall_mem_cons.mpr ⟨ok_iload C (show decode cX1_carry 33 = .ok (.iload 4, 2) by decide +kernel) rfl, ?_⟩
  refine List.forall_mem_cons.mpr ⟨ok_iconst C (show decode cX1_carry 35 = .ok (.iconst 1, 1) by decide +kernel) (by decide) rfl, ?_⟩
  refine List.forall_mem_cons.mpr ⟨ok_iload_n C (show decode cX1_carry 36 = .ok (.iload_n 3, 1) by decide +kernel) rfl rfl, ?_⟩
  refine List.forall_mem_cons.mpr ⟨ok_isub C (show decode cX1_carry 37 = .ok (.isub, 1) by decide +kernel) rfl, ?_⟩
  refine List.forall_mem_cons.mpr ⟨ok_iastore C (show decode cX1_carry 38 = .ok (.iastore, 1) by decide +kernel) rfl, ?_⟩
  refine List.forall_mem_cons.mpr ⟨ok_aload_n C (show decode cX1_carry 39 = .ok (.aload_n 2, 1) by decide +kernel) rfl rfl, ?_⟩
  refine List.forall_mem_cons.mpr ⟨ok_getf C (wi_X6) rfl (by decide) kw_159 (show decode cX1_carry 40 = .ok (.getfield 89, 3) by decide +kernel) rfl, ?_⟩
  refine List.forall_mem_cons.mpr ⟨ok_iload C (show decode cX1_carry 43 = .ok (.iload 4, 2) by decide +kernel) rfl, ?_⟩
  refine List.forall_mem_cons.mpr ⟨ok_dup2 C (show decode cX1_carry 45 = .ok (.dup2, 1) by decide +kernel) rfl, ?_⟩
  refine List.forall_mem_cons.mpr ⟨ok_iaload C (show decode cX1_carry 46 = .ok (.iaload, 1) by decide +kernel) rfl, ?_⟩
  refine List.forall_mem_cons.mpr ⟨ok_iconst C (show decode cX1_carry 47 = .ok (.iconst 1, 1) by decide +kernel) (by decide) rfl, ?_⟩
  refine List.forall_mem_cons.mpr ⟨ok_iadd C (show decode cX1_carry 48 = .ok (.iadd, 1) by decide +kernel) rfl, ?_⟩
  refine List.forall_mem_cons.mpr ⟨ok_iastore C (show decode cX1_carry 49 = .ok (.iastore, 1) by decide +kernel) rfl, ?_⟩
  refine List.forall_mem_cons.mpr ⟨ok_iinc C (show decode cX1_carry 50 = .ok (.iinc 4 1, 3) by decide +kernel) (by decide) (by decide) rfl, ?_⟩
  refine List.forall_mem_cons.mpr ⟨ok_goto C (show decode cX1_carry 53 = .ok (.goto (-45), 3) by decide +kernel) (tg := 8) (by decide) rfl, ?_⟩
  refine List.forall_mem_cons.mpr ⟨ok_iconst C (show decode cX1_carry 56 = .ok (.iconst 0, 1) by decide +kernel) (by decide) rfl, ?_⟩
  refine List.forall_mem_cons.mpr ⟨ok_istore C (show decode cX1_carry 57 = .ok (.istore 4, 2) by decide +kernel) (by decide) rfl, ?_⟩
  refine List.forall_mem_cons.mpr ⟨ok_iload C (show decode cX1_carry 59 = .ok (.iload 4, 2) by decide +kernel) rfl, ?_⟩
  refine List.forall_mem_cons.mpr ⟨ok_aload_n C (show decode cX1_carry 61 = .ok (.aload_n 1, 1) by decide +kernel) rfl rfl, ?_⟩
  refine List.forall_mem_cons.mpr ⟨ok_getf C (wi_X7) rfl (by decide) kw_248 (show decode cX1_carry 62 = .ok (.getfield 58, 3) by decide +kernel) rfl, ?_⟩
  refine List.forall_mem_cons.mpr ⟨ok_icmpge C (show decode cX1_carry 65 = .ok (.if_icmp .ge 76, 3) by decide +kernel) (tg := 141) (by decide) rfl rfl, ?_⟩
  refine List.forall_mem_cons.mpr ⟨ok_aload_n C (show decode cX1_carry 68 = .ok (.aload_n 2, 1) by decide +kernel) rfl rfl, ?_⟩
  refine List.forall_mem_cons.mpr ⟨ok_getf C (wi_X6) rfl (by decide) kw_143 (show decode cX1_carry 69 = .ok (.getfield 68, 3) by decide +kernel) rfl, ?_⟩
  refine List.forall_mem_cons.mpr ⟨ok_iload C (show decode cX1_carry 72 = .ok (.iload 4, 2) by decide +kernel) rfl, ?_⟩
  refine List.forall_mem_cons.mpr ⟨ok_iload_n C (show decode cX1_carry 74 = .ok (.iload_n 3, 1) by decide +kernel) rfl rfl, ?_⟩
  refine List.forall_mem_cons.mpr ⟨ok_callSN C h_X10_slotOf ⟨rfl, rfl⟩ kw_532 (host := "LackFerry") (by decide +kernel) kw_531 kw_1 ds_X10_slotOf ⟨by decide, by decide⟩ (show decode cX1_carry 75 = .ok (.invokestatic 61, 3) by decide +kernel) rfl, ?_⟩
  refine List.forall_mem_cons.mpr ⟨ok_dup2 C (show decode cX1_carry 78 = .ok (.dup2, 1) by decide +kernel) rfl, ?_⟩
  refine List.forall_mem_cons.mpr ⟨ok_iaload C (show decode cX1_carry 79 = .ok (.iaload, 1) by decide +kernel) rfl, ?_⟩
  refine List.forall_mem_cons.mpr ⟨ok_aload_n C (show decode cX1_carry 80 = .ok (.aload_n 0, 1) by decide +kernel) rfl rfl, ?_⟩
  refine List.forall_mem_cons.mpr ⟨ok_getf C (wi_X1) rfl (by decide) kw_105 (show decode cX1_carry 81 = .ok (.getfield 9, 3) by decide +kernel) rfl, ?_⟩
  refine List.forall_mem_cons.mpr ⟨ok_iload C (show decode cX1_carry 84 = .ok (.iload 4, 2) by decide +kernel) rfl, ?_⟩
  refine List.forall_mem_cons.mpr ⟨ok_iaload C (show decode cX1_carry 86 = .ok (.iaload, 1) by decide +kernel) rfl, ?_⟩
  refine List.forall_mem_cons.mpr ⟨ok_isub C (show decode cX1_carry 87 = .ok (.isub, 1) by decide +kernel) rfl, ?_⟩
  refine List.forall_mem_cons.mpr ⟨ok_iastore C (show decode cX1_carry 88 = .ok (.iastore, 1) by decide +kernel) rfl, ?_⟩
  refine List.forall_mem_cons.mpr ⟨ok_aload_n C (show decode cX1_carry 89 = .ok (.aload_n 2, 1) by decide +kernel) rfl rfl, ?_⟩
  refine List.forall_mem_cons.mpr ⟨ok_getf C (wi_X6) rfl (by decide) kw_143 (show decode cX1_carry 90 = .ok (.getfield 68, 3) by decide +kernel) rfl, ?_⟩
  refine List.forall_mem_cons.mpr ⟨ok_iload C (show decode cX1_carry 93 = .ok (.iload 4, 2) by decide +kernel) rfl, ?_⟩
  refine List.forall_mem_cons.mpr ⟨ok_iconst C (show decode cX1_carry 95 = .ok (.iconst 1, 1) by decide +kernel) (by decide) rfl, ?_⟩
  refine List.forall_mem_cons.mpr ⟨ok_iload_n C (show decode cX1_carry 96 = .ok (.iload_n 3, 1) by decide +kernel) rfl rfl, ?_⟩
  refine List.forall_mem_cons.mpr ⟨ok_isub C (show decode cX1_carry 97 = .ok (.isub, 1) by decide +kernel) rfl, ?_⟩
  refine List.forall_mem_cons.mpr ⟨ok_callSN C h_X10_slotOf ⟨rfl, rfl⟩ kw_532 (host := "LackFerry") (by decide +kernel) kw_531 kw_1 ds_X10_slotOf ⟨by decide, by decide⟩ (show decode cX1_carry 98 = .ok (.invokestatic 61, 3) by decide +kernel) rfl, ?_⟩
  refine List.forall_mem_cons.mpr ⟨ok_dup2 C (show decode cX1_carry 101 = .ok (.dup2, 1) by decide +kernel) rfl, ?_⟩
  refine List.forall_mem_cons.mpr ⟨ok_iaload C (show decode cX1_carry 102 = .ok (.iaload, 1) by decide +kernel) rfl, ?_⟩
  refine List.forall_mem_cons.mpr ⟨ok_aload_n C (show decode cX1_carry 103 = .ok (.aload_n 0, 1) by decide +kernel) rfl rfl, ?_⟩
  refine List.forall_mem_cons.mpr ⟨ok_getf C (wi_X1) rfl (by decide) kw_105 (show decode cX1_carry 104 = .ok (.getfield 9, 3) by decide +kernel) rfl, ?_⟩
  refine List.forall_mem_cons.mpr ⟨ok_iload C (show decode cX1_carry 107 = .ok (.iload 4, 2) by decide +kernel) rfl, ?_⟩
  refine List.forall_mem_cons.mpr ⟨ok_iaload C (show decode cX1_carry 109 = .ok (.iaload, 1) by decide +kernel) rfl, ?_⟩
  refine List.forall_mem_cons.mpr ⟨ok_iadd C (show decode cX1_carry 110 = .ok (.iadd, 1) by decide +kernel) rfl, ?_⟩
  refine List.forall_mem_cons.mpr ⟨ok_iastore C (show decode cX1_carry 111 = .ok (.iastore, 1) by decide +kernel) rfl, ?_⟩
  refine List.forall_mem_cons.mpr ⟨ok_aload_n C (show decode cX1_carry 112 = .ok (.aload_n 2, 1) by decide +kernel) rfl rfl, ?_⟩
  refine List.forall_mem_cons.mpr ⟨ok_getf C (wi_X6) rfl (by decide) kw_152 (show decode cX1_carry 113 = .ok (.getfield 92, 3) by decide +kernel) rfl, ?_⟩
  refine List.forall_mem_cons.mpr ⟨ok_iload C (show decode cX1_carry 116 = .ok (.iload 4, 2) by decide +kernel) rfl, ?_⟩
  refine List.forall_mem_cons.mpr ⟨ok_iconst C (show decode cX1_carry 118 = .ok (.iconst 1, 1) by decide +kernel) (by decide) rfl, ?_⟩
  refine List.forall_mem_cons.mpr ⟨ok_iload_n C (show decode cX1_carry 119 = .ok (.iload_n 3, 1) by decide +kernel) rfl rfl, ?_⟩
  refine List.forall_mem_cons.mpr ⟨ok_isub C (show decode cX1_carry 120 = .ok (.isub, 1) by decide +kernel) rfl, ?_⟩
  refine List.forall_mem_cons.mpr ⟨ok_callSN C h_X10_slotOf ⟨rfl, rfl⟩ kw_532 (host := "LackFerry") (by decide +kernel) kw_531 kw_1 ds_X10_slotOf ⟨by decide, by decide⟩ (show decode cX1_carry 121 = .ok (.invokestatic 61, 3) by decide +kernel) rfl, ?_⟩
  refine List.forall_mem_cons.mpr ⟨ok_dup2 C (show decode cX1_carry 124 = .ok (.dup2, 1) by decide +kernel) rfl, ?_⟩
  refine List.forall_mem_cons.mpr ⟨ok_iaload C (show decode cX1_carry 125 = .ok (.iaload, 1) by decide +kernel) rfl, ?_⟩
  refine List.forall_mem_cons.mpr ⟨ok_aload_n C (show decode cX1_carry 126 = .ok (.aload_n 0, 1) by decide +kernel) rfl rfl, ?_⟩
  refine List.forall_mem_cons.mpr ⟨ok_getf C (wi_X1) rfl (by decide) kw_105 (show decode cX1_carry 127 = .ok (.getfield 9, 3) by decide +kernel) rfl, ?_⟩
  refine List.forall_mem_cons.mpr ⟨ok_iload C (show decode cX1_carry 130 = .ok (.iload 4, 2) by decide +kernel) rfl, ?_⟩
  refine List.forall_mem_cons.mpr ⟨ok_iaload C (show decode cX1_carry 132 = .ok (.iaload, 1) by decide +kernel) rfl, ?_⟩
  refine List.forall_mem_cons.mpr ⟨ok_iadd C (show decode cX1_carry 133 = .ok (.iadd, 1) by decide +kernel) rfl, ?_⟩
  refine List.forall_mem_cons.mpr ⟨ok_iastore C (show decode cX1_carry 134 = .ok (.iastore, 1) by decide +kernel) rfl, ?_⟩
  refine List.forall_mem_cons.mpr ⟨ok_iinc C (show decode cX1_carry 135 = .ok (.iinc 4 1, 3) by decide +kernel) (by decide) (by decide) rfl, ?_⟩
  refine List.forall_mem_cons.mpr ⟨ok_goto C (show decode cX1_carry 138 = .ok (.goto (-79), 3) by decide +kernel) (tg := 59) (by decide) rfl, ?_⟩
  refine List.forall_mem_cons.mpr ⟨ok_aload_n C (show decode cX1_carry 141 = .ok (.aload_n 2, 1) by decide +kernel) rfl rfl, ?_⟩
  refine List.forall_mem_cons.mpr ⟨ok_dup C (show decode cX1_carry 142 = .ok (.dup, 1) by decide +kernel) rfl, ?_⟩
  refine List.forall_mem_cons.mpr ⟨ok_getf C (wi_X6) rfl (by decide) kw_169 (show decode cX1_carry 143 = .ok (.getfield 95, 3) by decide +kernel) rfl, ?_⟩
  refine List.forall_mem_cons.mpr ⟨ok_aload_n C (show decode cX1_carry 146 = .ok (.aload_n 0, 1) by decide +kernel) rfl rfl, ?_⟩
  refine List.forall_mem_cons.mpr ⟨ok_getf C (wi_X1) rfl (by decide) kw_111 (show decode cX1_carry 147 = .ok (.getfield 42, 3) by decide +kernel) rfl, ?_⟩
  refine List.forall_mem_cons.mpr ⟨ok_iadd C (show decode cX1_carry 150 = .ok (.iadd, 1) by decide +kernel) rfl, ?_⟩
  refine List.forall_mem_cons.mpr ⟨ok_putf C (wi_X6) tyX6 tyX6_ok nmX6 rfl (by decide) kw_169 (Or.inl rfl) (Or.inl ⟨rfl, rfl⟩) (show decode cX1_carry 151 = .ok (.putfield 95, 3) by decide +kernel) rfl, ?_⟩
  refine List.forall_mem_cons.mpr ⟨ok_aload_n C (show decode cX1_carry 154 = .ok (.aload_n 0, 1) by decide +kernel) rfl rfl, ?_⟩
  refine List.forall_mem_cons.mpr ⟨ok_getf C (wi_X1) rfl (by decide) kw_111 (show decode cX1_carry 155 = .ok (.getfield 42, 3) by decide +kernel) rfl, ?_⟩
  refine List.forall_mem_cons.mpr ⟨ok_ifne C (show decode cX1_carry 158 = .ok (.ifCond .ne 13, 3) by decide +kernel) (tg := 171) (by decide) rfl rfl, ?_⟩
  refine List.forall_mem_cons.mpr ⟨ok_aload_n C (show decode cX1_carry 161 = .ok (.aload_n 2, 1) by decide +kernel) rfl rfl, ?_⟩
  refine List.forall_mem_cons.mpr ⟨ok_dup C (show decode cX1_carry 162 = .ok (.dup, 1) by decide +kernel) rfl, ?_⟩
  refine List.forall_mem_cons.mpr ⟨ok_getf C (wi_X6) rfl (by decide) kw_166 (show decode cX1_carry 163 = .ok (.getfield 98, 3) by decide +kernel) rfl, ?_⟩
  refine List.forall_mem_cons.mpr ⟨ok_iconst C (show decode cX1_carry 166 = .ok (.iconst 1, 1) by decide +kernel) (by decide) rfl, ?_⟩
  refine List.forall_mem_cons.mpr ⟨ok_iadd C (show decode cX1_carry 167 = .ok (.iadd, 1) by decide +kernel) rfl, ?_⟩
  refine List.forall_mem_cons.mpr ⟨ok_putf C (wi_X6) tyX6 tyX6_ok nmX6 rfl (by decide) kw_166 (Or.inl rfl) (Or.inl ⟨rfl, rfl⟩) (show decode cX1_carry 168 = .ok (.putfield 98, 3) by decide +kernel) rfl, ?_⟩
  refine List.forall_mem_cons.mpr ⟨ok_vret C rfl (show decode cX1_carry 171 = .ok (.return_, 1) by decide +kernel), ?_⟩
  exact fun _ h => absurd h List.not_mem_nil
def L_X7_leftAfter : List (Nat × ab_A) := [
  (0, ab_nx 3 (ab_lit (.int 999))),
  (3, ab_nx 4 (ab_iload 2)),
  (4, ab_nx 5 (ab_aload 0)),
  (5, ab_nx 8 (ab_getf 7 3)),
  (8, ab_nx 10 (ab_lit (.int 36))),
  (10, ab_nx 11 (ab_iload 1)),
  (11, ab_nx 12 (ab_bin (fun x y => x + y))),
  (12, ab_nx 13 (ab_ald 1)),
  (13, ab_nx 14 (ab_bin (fun x y => x + y))),
  (14, ab_nx 17 (ab_mm ab_min 0 0)),
  (17, ab_nx 18 (ab_istore 3)),
  (18, ab_nx 19 (ab_iload 3)),
  (19, ab_nx 20 (ab_aload 0)),
  (20, ab_nx 23 (ab_getf 7 3)),
  (23, ab_nx 25 (ab_lit (.int 24))),
  (25, ab_nx 26 (ab_iload 1)),
  (26, ab_nx 27 (ab_bin (fun x y => x + y))),
  (27, ab_nx 28 (ab_ald 1)),
  (28, ab_nx 29 (ab_bin (fun x y => x - y))),
  (29, ab_ret 0 0)]
set_option maxRecDepth 100000 in
set_option maxHeartbeats 4000000 in
theorem M_X7_leftAfter {l : Launch} {b : ab_B} {D : va_G} {cA : Nat → ClassId} : ab_M l b D ab_cl cA (ab_E0 b) yX7_leftAfter (Cond.code yX7_leftAfter cX7_leftAfter 4 (some .int) :: ab_G) ({ frames := 2, cells := 0, slots := 0, locals := 200 } : Room) (ab_X (ab_T L_X7_leftAfter) 4) := by
  refine ab_meth (ret := (some .int)) L_X7_leftAfter (by decide) rfl fun p e R s m args below meth c o C => ?_
  unfold L_X7_leftAfter
  refine List.forall_mem_cons.mpr ⟨ok_sipush C (show decode cX7_leftAfter 0 = .ok (.sipush 999, 3) by decide +kernel) (by decide) rfl, ?_⟩
  refine List.forall_mem_cons.mpr ⟨ok_iload_n C (show decode cX7_leftAfter 3 = .ok (.iload_n 2, 1) by decide +kernel) rfl rfl, ?_⟩
  refine List.forall_mem_cons.mpr ⟨ok_aload_n C (show decode cX7_leftAfter 4 = .ok (.aload_n 0, 1) by decide +kernel) rfl rfl, ?_⟩
  refine List.forall_mem_cons.mpr ⟨ok_getf C (wi_X7) rfl (by decide) kw_238 (show decode cX7_leftAfter 5 = .ok (.getfield 22, 3) by decide +kernel) rfl, ?_⟩
  refine List.forall_mem_cons.mpr ⟨ok_bipush C (show decode cX7_leftAfter 8 = .ok (.bipush 36, 2) by decide +kernel) (by decide) rfl, ?_⟩
  refine List.forall_mem_cons.mpr ⟨ok_iload_n C (show decode cX7_leftAfter 10 = .ok (.iload_n 1, 1) by decide +kernel) rfl rfl, ?_⟩
  refine List.forall_mem_cons.mpr ⟨ok_iadd C (show decode cX7_leftAfter 11 = .ok (.iadd, 1) by decide +kernel) rfl, ?_⟩
  refine List.forall_mem_cons.mpr ⟨ok_iaload C (show decode cX7_leftAfter 12 = .ok (.iaload, 1) by decide +kernel) rfl, ?_⟩
  refine List.forall_mem_cons.mpr ⟨ok_iadd C (show decode cX7_leftAfter 13 = .ok (.iadd, 1) by decide +kernel) rfl, ?_⟩
  refine List.forall_mem_cons.mpr ⟨ok_mmin C kw_780 kw_486 kw_16 kw_487 ⟨by decide, by decide⟩ (show decode cX7_leftAfter 14 = .ok (.invokestatic 38, 3) by decide +kernel) rfl, ?_⟩
  refine List.forall_mem_cons.mpr ⟨ok_istore_n C (show decode cX7_leftAfter 17 = .ok (.istore_n 3, 1) by decide +kernel) rfl (by decide) rfl, ?_⟩
  refine List.forall_mem_cons.mpr ⟨ok_iload_n C (show decode cX7_leftAfter 18 = .ok (.iload_n 3, 1) by decide +kernel) rfl rfl, ?_⟩
  refine List.forall_mem_cons.mpr ⟨ok_aload_n C (show decode cX7_leftAfter 19 = .ok (.aload_n 0, 1) by decide +kernel) rfl rfl, ?_⟩
  refine List.forall_mem_cons.mpr ⟨ok_getf C (wi_X7) rfl (by decide) kw_238 (show decode cX7_leftAfter 20 = .ok (.getfield 22, 3) by decide +kernel) rfl, ?_⟩
  refine List.forall_mem_cons.mpr ⟨ok_bipush C (show decode cX7_leftAfter 23 = .ok (.bipush 24, 2) by decide +kernel) (by decide) rfl, ?_⟩
  refine List.forall_mem_cons.mpr ⟨ok_iload_n C (show decode cX7_leftAfter 25 = .ok (.iload_n 1, 1) by decide +kernel) rfl rfl, ?_⟩
  refine List.forall_mem_cons.mpr ⟨ok_iadd C (show decode cX7_leftAfter 26 = .ok (.iadd, 1) by decide +kernel) rfl, ?_⟩
  refine List.forall_mem_cons.mpr ⟨ok_iaload C (show decode cX7_leftAfter 27 = .ok (.iaload, 1) by decide +kernel) rfl, ?_⟩
  refine List.forall_mem_cons.mpr ⟨ok_isub C (show decode cX7_leftAfter 28 = .ok (.isub, 1) by decide +kernel) rfl, ?_⟩
  refine List.forall_mem_cons.mpr ⟨ok_ret C rfl (show decode cX7_leftAfter 29 = .ok (.ireturn, 1) by decide +kernel), ?_⟩
  exact fun _ h => absurd h List.not_mem_nil
def L_X6_makeAndEat (f_X7_leftAfter : List Value → ab_H → Option ab_O) : List (Nat × ab_A) := [
  (0, ab_nx 1 (ab_lit (.int 0))),
  (1, ab_nx 2 (ab_istore 2)),
  (2, ab_nx 3 (ab_iload 2)),
  (3, ab_nx 4 (ab_lit (.int 2))),
  (4, ab_nx 5 (ab_aload 1)),
  (5, ab_nx 8 (ab_getf 7 8)),
  (8, ab_nx 9 (ab_bin (fun x y => x * y))),
  (9, ab_icmp 12 55 (fun x y => decide (y ≤ x))),
  (12, ab_nx 13 (ab_aload 1)),
  (13, ab_nx 14 (ab_iload 2)),
  (14, ab_nx 15 (ab_aload 0)),
  (15, ab_nx 18 (ab_getf 6 0)),
  (18, ab_nx 19 (ab_iload 2)),
  (19, ab_nx 20 (ab_ald 1)),
  (20, ab_nx 23 (ab_callV 3 7 f_X7_leftAfter 0 0 0 0)),
  (23, ab_nx 24 (ab_istore 3)),
  (24, ab_nx 25 (ab_iload 3)),
  (25, ab_if 28 38 (fun x => decide (0 ≤ x))),
  (28, ab_nx 29 (ab_aload 0)),
  (29, ab_nx 32 (ab_getf 6 2)),
  (32, ab_nx 33 (ab_iload 2)),
  (33, ab_nx 34 ab_dup2),
  (34, ab_nx 35 (ab_ald 1)),
  (35, ab_nx 36 (ab_iload 3)),
  (36, ab_nx 37 (ab_bin (fun x y => x - y))),
  (37, ab_nx 38 (ab_ast 1)),
  (38, ab_nx 39 (ab_aload 0)),
  (39, ab_nx 42 (ab_getf 6 0)),
  (42, ab_nx 43 (ab_iload 2)),
  (43, ab_nx 44 (ab_lit (.int 0))),
  (44, ab_nx 45 (ab_iload 3)),
  (45, ab_nx 48 (ab_mm ab_max 0 0)),
  (48, ab_nx 49 (ab_ast 1)),
  (49, ab_nx 52 (ab_iinc 2 1)),
  (52, ab_goto 2),
  (55, ab_vret 0 0)]
set_option maxRecDepth 100000 in
set_option maxHeartbeats 4000000 in
theorem M_X6_makeAndEat {l : Launch} {b : ab_B} {D : va_G} {cA : Nat → ClassId} {f_X7_leftAfter : List Value → ab_H → Option ab_O} (h_X7_leftAfter : ab_M l b D ab_cl cA (ab_E0 b) yX7_leftAfter (Cond.code yX7_leftAfter cX7_leftAfter 4 (some .int) :: ab_G) ({ frames := 2, cells := 0, slots := 0, locals := 200 } : Room) f_X7_leftAfter) : ab_M l b D ab_cl cA (ab_E0 b) yX6_makeAndEat (Cond.code yX6_makeAndEat cX6_makeAndEat 4 none :: ab_G) ({ frames := 3, cells := 0, slots := 0, locals := 300 } : Room) (ab_X (ab_T (L_X6_makeAndEat f_X7_leftAfter)) 4) := by
  refine ab_meth (ret := none) (L_X6_makeAndEat f_X7_leftAfter) (by decide) rfl fun p e R s m args below meth c o C => ?_
  unfold L_X6_makeAndEat
  refine List.forall_mem_cons.mpr ⟨ok_iconst C (show decode cX6_makeAndEat 0 = .ok (.iconst 0, 1) by decide +kernel) (by decide) rfl, ?_⟩
  refine List.forall_mem_cons.mpr ⟨ok_istore_n C (show decode cX6_makeAndEat 1 = .ok (.istore_n 2, 1) by decide +kernel) rfl (by decide) rfl, ?_⟩
  refine List.forall_mem_cons.mpr ⟨ok_iload_n C (show decode cX6_makeAndEat 2 = .ok (.iload_n 2, 1) by decide +kernel) rfl rfl, ?_⟩
  refine List.forall_mem_cons.mpr ⟨ok_iconst C (show decode cX6_makeAndEat 3 = .ok (.iconst 2, 1) by decide +kernel) (by decide) rfl, ?_⟩
  refine List.forall_mem_cons.mpr ⟨ok_aload_n C (show decode cX6_makeAndEat 4 = .ok (.aload_n 1, 1) by decide +kernel) rfl rfl, ?_⟩
  refine List.forall_mem_cons.mpr ⟨ok_getf C (wi_X7) rfl (by decide) kw_251 (show decode cX6_makeAndEat 5 = .ok (.getfield 97, 3) by decide +kernel) rfl, ?_⟩
  refine List.forall_mem_cons.mpr ⟨ok_imul C (show decode cX6_makeAndEat 8 = .ok (.imul, 1) by decide +kernel) rfl, ?_⟩
  refine List.forall_mem_cons.mpr ⟨ok_icmpge C (show decode cX6_makeAndEat 9 = .ok (.if_icmp .ge 46, 3) by decide +kernel) (tg := 55) (by decide) rfl rfl, ?_⟩
  refine List.forall_mem_cons.mpr ⟨ok_aload_n C (show decode cX6_makeAndEat 12 = .ok (.aload_n 1, 1) by decide +kernel) rfl rfl, ?_⟩
  refine List.forall_mem_cons.mpr ⟨ok_iload_n C (show decode cX6_makeAndEat 13 = .ok (.iload_n 2, 1) by decide +kernel) rfl rfl, ?_⟩
  refine List.forall_mem_cons.mpr ⟨ok_aload_n C (show decode cX6_makeAndEat 14 = .ok (.aload_n 0, 1) by decide +kernel) rfl rfl, ?_⟩
  refine List.forall_mem_cons.mpr ⟨ok_getf C (wi_X6) rfl (by decide) kw_142 (show decode cX6_makeAndEat 15 = .ok (.getfield 9, 3) by decide +kernel) rfl, ?_⟩
  refine List.forall_mem_cons.mpr ⟨ok_iload_n C (show decode cX6_makeAndEat 18 = .ok (.iload_n 2, 1) by decide +kernel) rfl rfl, ?_⟩
  refine List.forall_mem_cons.mpr ⟨ok_iaload C (show decode cX6_makeAndEat 19 = .ok (.iaload, 1) by decide +kernel) rfl, ?_⟩
  refine List.forall_mem_cons.mpr ⟨ok_callV C h_X7_leftAfter ⟨rfl, rfl⟩ rfl kw_779 kw_776 kw_777 kw_778 kw_9 rfl ds_X7_leftAfter ⟨by decide, by decide⟩ (show decode cX6_makeAndEat 20 = .ok (.invokevirtual 100, 3) by decide +kernel) rfl, ?_⟩
  refine List.forall_mem_cons.mpr ⟨ok_istore_n C (show decode cX6_makeAndEat 23 = .ok (.istore_n 3, 1) by decide +kernel) rfl (by decide) rfl, ?_⟩
  refine List.forall_mem_cons.mpr ⟨ok_iload_n C (show decode cX6_makeAndEat 24 = .ok (.iload_n 3, 1) by decide +kernel) rfl rfl, ?_⟩
  refine List.forall_mem_cons.mpr ⟨ok_ifge C (show decode cX6_makeAndEat 25 = .ok (.ifCond .ge 13, 3) by decide +kernel) (tg := 38) (by decide) rfl rfl, ?_⟩
  refine List.forall_mem_cons.mpr ⟨ok_aload_n C (show decode cX6_makeAndEat 28 = .ok (.aload_n 0, 1) by decide +kernel) rfl rfl, ?_⟩
  refine List.forall_mem_cons.mpr ⟨ok_getf C (wi_X6) rfl (by decide) kw_149 (show decode cX6_makeAndEat 29 = .ok (.getfield 18, 3) by decide +kernel) rfl, ?_⟩
  refine List.forall_mem_cons.mpr ⟨ok_iload_n C (show decode cX6_makeAndEat 32 = .ok (.iload_n 2, 1) by decide +kernel) rfl rfl, ?_⟩
  refine List.forall_mem_cons.mpr ⟨ok_dup2 C (show decode cX6_makeAndEat 33 = .ok (.dup2, 1) by decide +kernel) rfl, ?_⟩
  refine List.forall_mem_cons.mpr ⟨ok_iaload C (show decode cX6_makeAndEat 34 = .ok (.iaload, 1) by decide +kernel) rfl, ?_⟩
  refine List.forall_mem_cons.mpr ⟨ok_iload_n C (show decode cX6_makeAndEat 35 = .ok (.iload_n 3, 1) by decide +kernel) rfl rfl, ?_⟩
  refine List.forall_mem_cons.mpr ⟨ok_isub C (show decode cX6_makeAndEat 36 = .ok (.isub, 1) by decide +kernel) rfl, ?_⟩
  refine List.forall_mem_cons.mpr ⟨ok_iastore C (show decode cX6_makeAndEat 37 = .ok (.iastore, 1) by decide +kernel) rfl, ?_⟩
  refine List.forall_mem_cons.mpr ⟨ok_aload_n C (show decode cX6_makeAndEat 38 = .ok (.aload_n 0, 1) by decide +kernel) rfl rfl, ?_⟩
  refine List.forall_mem_cons.mpr ⟨ok_getf C (wi_X6) rfl (by decide) kw_142 (show decode cX6_makeAndEat 39 = .ok (.getfield 9, 3) by decide +kernel) rfl, ?_⟩
  refine List.forall_mem_cons.mpr ⟨ok_iload_n C (show decode cX6_makeAndEat 42 = .ok (.iload_n 2, 1) by decide +kernel) rfl rfl, ?_⟩
  refine List.forall_mem_cons.mpr ⟨ok_iconst C (show decode cX6_makeAndEat 43 = .ok (.iconst 0, 1) by decide +kernel) (by decide) rfl, ?_⟩
  refine List.forall_mem_cons.mpr ⟨ok_iload_n C (show decode cX6_makeAndEat 44 = .ok (.iload_n 3, 1) by decide +kernel) rfl rfl, ?_⟩
  refine List.forall_mem_cons.mpr ⟨ok_mmax C kw_606 kw_607 kw_16 kw_608 ⟨by decide, by decide⟩ (show decode cX6_makeAndEat 45 = .ok (.invokestatic 58, 3) by decide +kernel) rfl, ?_⟩
  refine List.forall_mem_cons.mpr ⟨ok_iastore C (show decode cX6_makeAndEat 48 = .ok (.iastore, 1) by decide +kernel) rfl, ?_⟩
  refine List.forall_mem_cons.mpr ⟨ok_iinc C (show decode cX6_makeAndEat 49 = .ok (.iinc 2 1, 3) by decide +kernel) (by decide) (by decide) rfl, ?_⟩
  refine List.forall_mem_cons.mpr ⟨ok_goto C (show decode cX6_makeAndEat 52 = .ok (.goto (-50), 3) by decide +kernel) (tg := 2) (by decide) rfl, ?_⟩
  refine List.forall_mem_cons.mpr ⟨ok_vret C rfl (show decode cX6_makeAndEat 55 = .ok (.return_, 1) by decide +kernel), ?_⟩
  exact fun _ h => absurd h List.not_mem_nil
