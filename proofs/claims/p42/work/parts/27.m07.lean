def L_X8_isSign : List (Nat × ab_A) := [
  (0, ab_nx 1 (ab_iload 0)),
  (1, ab_nx 3 (ab_lit (.int 59))),
  (3, ab_icmp 6 42 (fun x y => decide (x = y))),
  (6, ab_nx 7 (ab_iload 0)),
  (7, ab_nx 9 (ab_lit (.int 60))),
  (9, ab_icmp 12 42 (fun x y => decide (x = y))),
  (12, ab_nx 13 (ab_iload 0)),
  (13, ab_nx 15 (ab_lit (.int 61))),
  (15, ab_icmp 18 42 (fun x y => decide (x = y))),
  (18, ab_nx 19 (ab_iload 0)),
  (19, ab_nx 21 (ab_lit (.int 62))),
  (21, ab_icmp 24 42 (fun x y => decide (x = y))),
  (24, ab_nx 25 (ab_iload 0)),
  (25, ab_nx 27 (ab_lit (.int 40))),
  (27, ab_icmp 30 42 (fun x y => decide (x = y))),
  (30, ab_nx 31 (ab_iload 0)),
  (31, ab_nx 33 (ab_lit (.int 41))),
  (33, ab_icmp 36 42 (fun x y => decide (x = y))),
  (36, ab_nx 37 (ab_iload 0)),
  (37, ab_nx 39 (ab_lit (.int 46))),
  (39, ab_icmp 42 46 (fun x y => !decide (x = y))),
  (42, ab_nx 43 (ab_lit (.int 1))),
  (43, ab_goto 47),
  (46, ab_nx 47 (ab_lit (.int 0))),
  (47, ab_zret 0 0)]
set_option maxRecDepth 100000 in
set_option maxHeartbeats 4000000 in
theorem M_X8_isSign {l : Launch} {b : ab_B} {D : va_G} {cA : Nat → ClassId} : ab_M l b D ab_cl cA (ab_E0 b) yX8_isSign (Cond.code yX8_isSign cX8_isSign 1 (some .boolean) :: ab_G) ({ frames := 1, cells := 0, slots := 0, locals := 100 } : Room) (ab_X (ab_T L_X8_isSign) 1) := by
  refine ab_meth (ret := (some .boolean)) L_X8_isSign (by decide) rfl fun p e R s m args below meth c o C => ?_
  unfold L_X8_isSign
  refine List.forall_mem_cons.mpr ⟨ok_iload_n C (show decode cX8_isSign 0 = .ok (.iload_n 0, 1) by decide +kernel) rfl rfl, ?_⟩
  refine List.forall_mem_cons.mpr ⟨ok_bipush C (show decode cX8_isSign 1 = .ok (.bipush 59, 2) by decide +kernel) (by decide) rfl, ?_⟩
  refine List.forall_mem_cons.mpr ⟨ok_icmpeq C (show decode cX8_isSign 3 = .ok (.if_icmp .eq 39, 3) by decide +kernel) (tg := 42) (by decide) rfl rfl, ?_⟩
  refine List.forall_mem_cons.mpr ⟨ok_iload_n C (show decode cX8_isSign 6 = .ok (.iload_n 0, 1) by decide +kernel) rfl rfl, ?_⟩
  refine List.forall_mem_cons.mpr ⟨ok_bipush C (show decode cX8_isSign 7 = .ok (.bipush 60, 2) by decide +kernel) (by decide) rfl, ?_⟩
  refine List.forall_mem_cons.mpr ⟨ok_icmpeq C (show decode cX8_isSign 9 = .ok (.if_icmp .eq 33, 3) by decide +kernel) (tg := 42) (by decide) rfl rfl, ?_⟩
  refine List.forall_mem_cons.mpr ⟨ok_iload_n C (show decode cX8_isSign 12 = .ok (.iload_n 0, 1) by decide +kernel) rfl rfl, ?_⟩
  refine List.forall_mem_cons.mpr ⟨ok_bipush C (show decode cX8_isSign 13 = .ok (.bipush 61, 2) by decide +kernel) (by decide) rfl, ?_⟩
  refine List.forall_mem_cons.mpr ⟨ok_icmpeq C (show decode cX8_isSign 15 = .ok (.if_icmp .eq 27, 3) by decide +kernel) (tg := 42) (by decide) rfl rfl, ?_⟩
  refine List.forall_mem_cons.mpr ⟨ok_iload_n C (show decode cX8_isSign 18 = .ok (.iload_n 0, 1) by decide +kernel) rfl rfl, ?_⟩
  refine List.forall_mem_cons.mpr ⟨ok_bipush C (show decode cX8_isSign 19 = .ok (.bipush 62, 2) by decide +kernel) (by decide) rfl, ?_⟩
  refine List.forall_mem_cons.mpr ⟨ok_icmpeq C (show decode cX8_isSign 21 = .ok (.if_icmp .eq 21, 3) by decide +kernel) (tg := 42) (by decide) rfl rfl, ?_⟩
  refine List.forall_mem_cons.mpr ⟨ok_iload_n C (show decode cX8_isSign 24 = .ok (.iload_n 0, 1) by decide +kernel) rfl rfl, ?_⟩
  refine List.forall_mem_cons.mpr ⟨ok_bipush C (show decode cX8_isSign 25 = .ok (.bipush 40, 2) by decide +kernel) (by decide) rfl, ?_⟩
  refine List.forall_mem_cons.mpr ⟨ok_icmpeq C (show decode cX8_isSign 27 = .ok (.if_icmp .eq 15, 3) by decide +kernel) (tg := 42) (by decide) rfl rfl, ?_⟩
  refine List.forall_mem_cons.mpr ⟨ok_iload_n C (show decode cX8_isSign 30 = .ok (.iload_n 0, 1) by decide +kernel) rfl rfl, ?_⟩
  refine List.forall_mem_cons.mpr ⟨ok_bipush C (show decode cX8_isSign 31 = .ok (.bipush 41, 2) by decide +kernel) (by decide) rfl, ?_⟩
  refine List.forall_mem_cons.mpr ⟨ok_icmpeq C (show decode cX8_isSign 33 = .ok (.if_icmp .eq 9, 3) by decide +kernel) (tg := 42) (by decide) rfl rfl, ?_⟩
  refine List.forall_mem_cons.mpr ⟨ok_iload_n C (show decode cX8_isSign 36 = .ok (.iload_n 0, 1) by decide +kernel) rfl rfl, ?_⟩
  refine List.forall_mem_cons.mpr ⟨ok_bipush C (show decode cX8_isSign 37 = .ok (.bipush 46, 2) by decide +kernel) (by decide) rfl, ?_⟩
  refine List.forall_mem_cons.mpr ⟨ok_icmpne C (show decode cX8_isSign 39 = .ok (.if_icmp .ne 7, 3) by decide +kernel) (tg := 46) (by decide) rfl rfl, ?_⟩
  refine List.forall_mem_cons.mpr ⟨ok_iconst C (show decode cX8_isSign 42 = .ok (.iconst 1, 1) by decide +kernel) (by decide) rfl, ?_⟩
  refine List.forall_mem_cons.mpr ⟨ok_goto C (show decode cX8_isSign 43 = .ok (.goto 4, 3) by decide +kernel) (tg := 47) (by decide) rfl, ?_⟩
  refine List.forall_mem_cons.mpr ⟨ok_iconst C (show decode cX8_isSign 46 = .ok (.iconst 0, 1) by decide +kernel) (by decide) rfl, ?_⟩
  refine List.forall_mem_cons.mpr ⟨ok_zret C rfl (show decode cX8_isSign 47 = .ok (.ireturn, 1) by decide +kernel), ?_⟩
  exact fun _ h => absurd h List.not_mem_nil
def L_X8_cutToken (f_X8_valueAt : List Value → ab_H → Option ab_O) (f_X8_isLetter : List Value → ab_H → Option ab_O) (f_X8_isDigit : List Value → ab_H → Option ab_O) (f_X8_cutRun : List Value → ab_H → Option ab_O) (f_X8_isSign : List Value → ab_H → Option ab_O) (f_X9_add : List Value → ab_H → Option ab_O) : List (Nat × ab_A) := [
  (0, ab_nx 1 (ab_aload 0)),
  (1, ab_nx 2 (ab_aload 0)),
  (2, ab_nx 5 (ab_getf 8 2)),
  (5, ab_nx 8 (ab_callV 2 8 f_X8_valueAt 0 0 0 0)),
  (8, ab_nx 9 (ab_istore 2)),
  (9, ab_nx 10 (ab_iload 2)),
  (10, ab_nx 13 (ab_call 1 f_X8_isLetter 0 0 0 0)),
  (13, ab_if 16 23 (fun x => !decide (x = 0))),
  (16, ab_nx 17 (ab_iload 2)),
  (17, ab_nx 20 (ab_call 1 f_X8_isDigit 0 0 0 0)),
  (20, ab_if 23 29 (fun x => decide (x = 0))),
  (23, ab_nx 24 (ab_aload 0)),
  (24, ab_nx 25 (ab_aload 1)),
  (25, ab_nx 28 (ab_callV 2 8 f_X8_cutRun 0 0 0 0)),
  (28, ab_ret 0 0),
  (29, ab_nx 30 (ab_iload 2)),
  (30, ab_nx 33 (ab_call 1 f_X8_isSign 0 0 0 0)),
  (33, ab_if 36 40 (fun x => decide (x = 0))),
  (36, ab_nx 37 (ab_iload 2)),
  (37, ab_goto 41),
  (40, ab_nx 41 (ab_lit (.int 1))),
  (41, ab_nx 42 (ab_istore 3)),
  (42, ab_nx 43 (ab_aload 1)),
  (43, ab_nx 44 (ab_iload 3)),
  (44, ab_nx 45 (ab_aload 0)),
  (45, ab_nx 48 (ab_getf 8 2)),
  (48, ab_nx 49 (ab_lit (.long 0))),
  (49, ab_nx 52 (ab_callV 4 9 f_X9_add 0 0 0 0)),
  (52, ab_nx 53 (ab_aload 0)),
  (53, ab_nx 54 ab_dup),
  (54, ab_nx 57 (ab_getf 8 2)),
  (57, ab_nx 58 (ab_lit (.int 1))),
  (58, ab_nx 59 (ab_bin (fun x y => x + y))),
  (59, ab_nx 62 (ab_putf 8 2 0)),
  (62, ab_nx 63 (ab_iload 3)),
  (63, ab_ret 0 0)]
set_option maxRecDepth 100000 in
set_option maxHeartbeats 4000000 in
theorem M_X8_cutToken {l : Launch} {b : ab_B} {D : va_G} {cA : Nat → ClassId} {f_X8_valueAt : List Value → ab_H → Option ab_O} (h_X8_valueAt : ab_M l b D ab_cl cA (ab_E0 b) yX8_valueAt (Cond.code yX8_valueAt cX8_valueAt 2 (some .int) :: ab_G) ({ frames := 1, cells := 0, slots := 0, locals := 100 } : Room) f_X8_valueAt) {f_X8_isLetter : List Value → ab_H → Option ab_O} (h_X8_isLetter : ab_M l b D ab_cl cA (ab_E0 b) yX8_isLetter (Cond.code yX8_isLetter cX8_isLetter 1 (some .boolean) :: ab_G) ({ frames := 1, cells := 0, slots := 0, locals := 100 } : Room) f_X8_isLetter) {f_X8_isDigit : List Value → ab_H → Option ab_O} (h_X8_isDigit : ab_M l b D ab_cl cA (ab_E0 b) yX8_isDigit (Cond.code yX8_isDigit cX8_isDigit 1 (some .boolean) :: ab_G) ({ frames := 1, cells := 0, slots := 0, locals := 100 } : Room) f_X8_isDigit) {f_X8_cutRun : List Value → ab_H → Option ab_O} (h_X8_cutRun : ab_M l b D ab_cl cA (ab_E0 b) yX8_cutRun (Cond.code yX8_cutRun cX8_cutRun 9 (some .int) :: ab_G) ({ frames := 7, cells := 0, slots := 0, locals := 700 } : Room) f_X8_cutRun) {f_X8_isSign : List Value → ab_H → Option ab_O} (h_X8_isSign : ab_M l b D ab_cl cA (ab_E0 b) yX8_isSign (Cond.code yX8_isSign cX8_isSign 1 (some .boolean) :: ab_G) ({ frames := 1, cells := 0, slots := 0, locals := 100 } : Room) f_X8_isSign) {f_X9_add : List Value → ab_H → Option ab_O} (h_X9_add : ab_M l b D ab_cl cA (ab_E0 b) yX9_add (Cond.code yX9_add cX9_add 5 none :: ab_G) ({ frames := 1, cells := 0, slots := 0, locals := 100 } : Room) f_X9_add) : ab_M l b D ab_cl cA (ab_E0 b) yX8_cutToken (Cond.code yX8_cutToken cX8_cutToken 4 (some .int) :: ab_G) ({ frames := 8, cells := 0, slots := 0, locals := 800 } : Room) (ab_X (ab_T (L_X8_cutToken f_X8_valueAt f_X8_isLetter f_X8_isDigit f_X8_cutRun f_X8_isSign f_X9_add)) 4) := by
  refine ab_meth (ret := (some .int)) (L_X8_cutToken f_X8_valueAt f_X8_isLetter f_X8_isDigit f_X8_cutRun f_X8_isSign f_X9_add) (by decide) rfl fun p e R s m args below meth c o C => ?_
  unfold L_X8_cutToken
  refine List.forall_mem_cons.mpr ⟨ok_aload_n C (show decode cX8_cutToken 0 = .ok (.aload_n 0, 1) by decide +kernel) rfl rfl, ?_⟩
  refine List.forall_mem_cons.mpr ⟨ok_aload_n C (show decode cX8_cutToken 1 = .ok (.aload_n 0, 1) by decide +kernel) rfl rfl, ?_⟩
  refine List.forall_mem_cons.mpr ⟨ok_getf C (wi_X8) rfl (by decide) kw_41 (show decode cX8_cutToken 2 = .ok (.getfield 24, 3) by decide +kernel) rfl, ?_⟩
  refine List.forall_mem_cons.mpr ⟨ok_callV C h_X8_valueAt ⟨rfl, rfl⟩ rfl kw_404 kw_401 kw_402 kw_403 kw_2 rfl ds_X8_valueAt ⟨by decide, by decide⟩ (show decode cX8_cutToken 5 = .ok (.invokevirtual 44, 3) by decide +kernel) rfl, ?_⟩
  refine List.forall_mem_cons.mpr ⟨ok_istore_n C (show decode cX8_cutToken 8 = .ok (.istore_n 2, 1) by decide +kernel) rfl (by decide) rfl, ?_⟩
  refine List.forall_mem_cons.mpr ⟨ok_iload_n C (show decode cX8_cutToken 9 = .ok (.iload_n 2, 1) by decide +kernel) rfl rfl, ?_⟩
  refine List.forall_mem_cons.mpr ⟨ok_callS C h_X8_isLetter ⟨rfl, rfl⟩ kw_411 kw_409 kw_410 kw_2 ds_X8_isLetter ⟨by decide, by decide⟩ (show decode cX8_cutToken 10 = .ok (.invokestatic 48, 3) by decide +kernel) rfl, ?_⟩
  refine List.forall_mem_cons.mpr ⟨ok_ifne C (show decode cX8_cutToken 13 = .ok (.ifCond .ne 10, 3) by decide +kernel) (tg := 23) (by decide) rfl rfl, ?_⟩
  refine List.forall_mem_cons.mpr ⟨ok_iload_n C (show decode cX8_cutToken 16 = .ok (.iload_n 2, 1) by decide +kernel) rfl rfl, ?_⟩
  refine List.forall_mem_cons.mpr ⟨ok_callS C h_X8_isDigit ⟨rfl, rfl⟩ kw_414 kw_412 kw_413 kw_2 ds_X8_isDigit ⟨by decide, by decide⟩ (show decode cX8_cutToken 17 = .ok (.invokestatic 52, 3) by decide +kernel) rfl, ?_⟩
  refine List.forall_mem_cons.mpr ⟨ok_ifeq C (show decode cX8_cutToken 20 = .ok (.ifCond .eq 9, 3) by decide +kernel) (tg := 29) (by decide) rfl rfl, ?_⟩
  refine List.forall_mem_cons.mpr ⟨ok_aload_n C (show decode cX8_cutToken 23 = .ok (.aload_n 0, 1) by decide +kernel) rfl rfl, ?_⟩
  refine List.forall_mem_cons.mpr ⟨ok_aload_n C (show decode cX8_cutToken 24 = .ok (.aload_n 1, 1) by decide +kernel) rfl rfl, ?_⟩
  refine List.forall_mem_cons.mpr ⟨ok_callV C h_X8_cutRun ⟨rfl, rfl⟩ rfl kw_418 kw_415 kw_417 kp_2 kw_2 rfl ds_X8_cutRun ⟨by decide, by decide⟩ (show decode cX8_cutToken 25 = .ok (.invokevirtual 55, 3) by decide +kernel) rfl, ?_⟩
  refine List.forall_mem_cons.mpr ⟨ok_ret C rfl (show decode cX8_cutToken 28 = .ok (.ireturn, 1) by decide +kernel), ?_⟩
  refine List.forall_mem_cons.mpr ⟨ok_iload_n C (show decode cX8_cutToken 29 = .ok (.iload_n 2, 1) by decide +kernel) rfl rfl, ?_⟩
  refine List.forall_mem_cons.mpr ⟨ok_callS C h_X8_isSign ⟨rfl, rfl⟩ kw_484 kw_482 kw_483 kw_2 ds_X8_isSign ⟨by decide, by decide⟩ (show decode cX8_cutToken 30 = .ok (.invokestatic 58, 3) by decide +kernel) rfl, ?_⟩
  refine List.forall_mem_cons.mpr ⟨ok_ifeq C (show decode cX8_cutToken 33 = .ok (.ifCond .eq 7, 3) by decide +kernel) (tg := 40) (by decide) rfl rfl, ?_⟩
  refine List.forall_mem_cons.mpr ⟨ok_iload_n C (show decode cX8_cutToken 36 = .ok (.iload_n 2, 1) by decide +kernel) rfl rfl, ?_⟩
  refine List.forall_mem_cons.mpr ⟨ok_goto C (show decode cX8_cutToken 37 = .ok (.goto 4, 3) by decide +kernel) (tg := 41) (by decide) rfl, ?_⟩
  refine List.forall_mem_cons.mpr ⟨ok_iconst C (show decode cX8_cutToken 40 = .ok (.iconst 1, 1) by decide +kernel) (by decide) rfl, ?_⟩
  refine List.forall_mem_cons.mpr ⟨ok_istore_n C (show decode cX8_cutToken 41 = .ok (.istore_n 3, 1) by decide +kernel) rfl (by decide) rfl, ?_⟩
  refine List.forall_mem_cons.mpr ⟨ok_aload_n C (show decode cX8_cutToken 42 = .ok (.aload_n 1, 1) by decide +kernel) rfl rfl, ?_⟩
  refine List.forall_mem_cons.mpr ⟨ok_iload_n C (show decode cX8_cutToken 43 = .ok (.iload_n 3, 1) by decide +kernel) rfl rfl, ?_⟩
  refine List.forall_mem_cons.mpr ⟨ok_aload_n C (show decode cX8_cutToken 44 = .ok (.aload_n 0, 1) by decide +kernel) rfl rfl, ?_⟩
  refine List.forall_mem_cons.mpr ⟨ok_getf C (wi_X8) rfl (by decide) kw_41 (show decode cX8_cutToken 45 = .ok (.getfield 24, 3) by decide +kernel) rfl, ?_⟩
  refine List.forall_mem_cons.mpr ⟨ok_lconst C (show decode cX8_cutToken 48 = .ok (.lconst 0, 1) by decide +kernel) (by decide) rfl, ?_⟩
  refine List.forall_mem_cons.mpr ⟨ok_callV C h_X9_add ⟨rfl, rfl⟩ rfl kw_481 kw_478 kw_479 kw_480 kw_3 rfl ds_X9_add ⟨by decide, by decide⟩ (show decode cX8_cutToken 49 = .ok (.invokevirtual 40, 3) by decide +kernel) rfl, ?_⟩
  refine List.forall_mem_cons.mpr ⟨ok_aload_n C (show decode cX8_cutToken 52 = .ok (.aload_n 0, 1) by decide +kernel) rfl rfl, ?_⟩
  refine List.forall_mem_cons.mpr ⟨ok_dup C (show decode cX8_cutToken 53 = .ok (.dup, 1) by decide +kernel) rfl, ?_⟩
  refine List.forall_mem_cons.mpr ⟨ok_getf C (wi_X8) rfl (by decide) kw_41 (show decode cX8_cutToken 54 = .ok (.getfield 24, 3) by decide +kernel) rfl, ?_⟩
  refine List.forall_mem_cons.mpr ⟨ok_iconst C (show decode cX8_cutToken 57 = .ok (.iconst 1, 1) by decide +kernel) (by decide) rfl, ?_⟩
  refine List.forall_mem_cons.mpr ⟨ok_iadd C (show decode cX8_cutToken 58 = .ok (.iadd, 1) by decide +kernel) rfl, ?_⟩
  refine List.forall_mem_cons.mpr ⟨ok_putf C (wi_X8) tyX8 tyX8_ok nmX8 rfl (by decide) kw_41 (Or.inl rfl) (Or.inl ⟨rfl, rfl⟩) (show decode cX8_cutToken 59 = .ok (.putfield 24, 3) by decide +kernel) rfl, ?_⟩
  refine List.forall_mem_cons.mpr ⟨ok_iload_n C (show decode cX8_cutToken 62 = .ok (.iload_n 3, 1) by decide +kernel) rfl rfl, ?_⟩
  refine List.forall_mem_cons.mpr ⟨ok_ret C rfl (show decode cX8_cutToken 63 = .ok (.ireturn, 1) by decide +kernel), ?_⟩
  exact fun _ h => absurd h List.not_mem_nil
def L_X8_moveInto (f_X9_clear : List Value → ab_H → Option ab_O) (f_X8_skipBlanks : List Value → ab_H → Option ab_O) (f_X8_cutToken : List Value → ab_H → Option ab_O) (f_X9_add : List Value → ab_H → Option ab_O) : List (Nat × ab_A) := [
  (0, ab_nx 1 (ab_aload 1)),
  (1, ab_nx 4 (ab_callV 1 9 f_X9_clear 0 0 0 0)),
  (4, ab_nx 5 (ab_aload 0)),
  (5, ab_nx 6 (ab_lit (.int 0))),
  (6, ab_nx 9 (ab_putf 8 2 0)),
  (9, ab_nx 10 (ab_lit (.int 1))),
  (10, ab_nx 11 (ab_istore 3)),
  (11, ab_nx 12 (ab_lit (.int 0))),
  (12, ab_nx 14 (ab_istore 4)),
  (14, ab_nx 16 (ab_iload 4)),
  (16, ab_nx 17 (ab_iload 2)),
  (17, ab_icmp 20 99 (fun x y => decide (y < x))),
  (20, ab_nx 21 (ab_iload 3)),
  (21, ab_if 24 99 (fun x => decide (x = 0))),
  (24, ab_nx 25 (ab_aload 0)),
  (25, ab_nx 28 (ab_callV 1 8 f_X8_skipBlanks 0 0 0 0)),
  (28, ab_nx 29 (ab_aload 0)),
  (29, ab_nx 32 (ab_getf 8 2)),
  (32, ab_nx 33 (ab_aload 0)),
  (33, ab_nx 36 (ab_getf 8 1)),
  (36, ab_icmp 39 65 (fun x y => decide (y ≤ x))),
  (39, ab_nx 40 (ab_aload 0)),
  (40, ab_nx 43 (ab_getf 8 2)),
  (43, ab_nx 44 (ab_iload 2)),
  (44, ab_icmp 47 65 (fun x y => decide (y ≤ x))),
  (47, ab_nx 48 (ab_aload 0)),
  (48, ab_nx 49 (ab_aload 1)),
  (49, ab_nx 52 (ab_callV 2 8 f_X8_cutToken 0 0 0 0)),
  (52, ab_nx 53 (ab_lit (.int 1))),
  (53, ab_icmp 56 60 (fun x y => decide (x = y))),
  (56, ab_nx 57 (ab_lit (.int 1))),
  (57, ab_goto 61),
  (60, ab_nx 61 (ab_lit (.int 0))),
  (61, ab_nx 62 (ab_istore 3)),
  (62, ab_goto 93),
  (65, ab_nx 66 (ab_aload 1)),
  (66, ab_nx 67 (ab_aload 0)),
  (67, ab_nx 70 (ab_getf 8 1)),
  (70, ab_nx 71 (ab_iload 2)),
  (71, ab_icmp 74 78 (fun x y => decide (x ≤ y))),
  (74, ab_nx 75 (ab_lit (.int 1))),
  (75, ab_goto 79),
  (78, ab_nx 79 (ab_lit (.int 0))),
  (79, ab_nx 80 (ab_aload 0)),
  (80, ab_nx 83 (ab_getf 8 1)),
  (83, ab_nx 84 (ab_iload 2)),
  (84, ab_nx 87 (ab_mm ab_min 0 0)),
  (87, ab_nx 88 (ab_lit (.long 0))),
  (88, ab_nx 91 (ab_callV 4 9 f_X9_add 0 0 0 0)),
  (91, ab_nx 92 (ab_lit (.int 0))),
  (92, ab_nx 93 (ab_istore 3)),
  (93, ab_nx 96 (ab_iinc 4 1)),
  (96, ab_goto 14),
  (99, ab_nx 100 (ab_aload 0)),
  (100, ab_nx 101 (ab_lit (.int 0))),
  (101, ab_nx 104 (ab_putf 8 1 0)),
  (104, ab_vret 0 0)]
set_option maxRecDepth 100000 in
set_option maxHeartbeats 4000000 in
theorem M_X8_moveInto {l : Launch} {b : ab_B} {D : va_G} {cA : Nat → ClassId} {f_X9_clear : List Value → ab_H → Option ab_O} (h_X9_clear : ab_M l b D ab_cl cA (ab_E0 b) yX9_clear (Cond.code yX9_clear cX9_clear 1 none :: ab_G) ({ frames := 1, cells := 0, slots := 0, locals := 100 } : Room) f_X9_clear) {f_X8_skipBlanks : List Value → ab_H → Option ab_O} (h_X8_skipBlanks : ab_M l b D ab_cl cA (ab_E0 b) yX8_skipBlanks (Cond.code yX8_skipBlanks cX8_skipBlanks 1 none :: ab_G) ({ frames := 2, cells := 0, slots := 0, locals := 200 } : Room) f_X8_skipBlanks) {f_X8_cutToken : List Value → ab_H → Option ab_O} (h_X8_cutToken : ab_M l b D ab_cl cA (ab_E0 b) yX8_cutToken (Cond.code yX8_cutToken cX8_cutToken 4 (some .int) :: ab_G) ({ frames := 8, cells := 0, slots := 0, locals := 800 } : Room) f_X8_cutToken) {f_X9_add : List Value → ab_H → Option ab_O} (h_X9_add : ab_M l b D ab_cl cA (ab_E0 b) yX9_add (Cond.code yX9_add cX9_add 5 none :: ab_G) ({ frames := 1, cells := 0, slots := 0, locals := 100 } : Room) f_X9_add) : ab_M l b D ab_cl cA (ab_E0 b) yX8_moveInto (Cond.code yX8_moveInto cX8_moveInto 5 none :: ab_G) ({ frames := 9, cells := 0, slots := 0, locals := 900 } : Room) (ab_X (ab_T (L_X8_moveInto f_X9_clear f_X8_skipBlanks f_X8_cutToken f_X9_add)) 5) := by
  refine ab_meth (ret := none) (L_X8_moveInto f_X9_clear f_X8_skipBlanks f_X8_cutToken f_X9_add) (by decide) rfl fun p e R s m args below meth c o C => ?_
  unfold L_X8_moveInto
  refine List.forall_mem_cons.mpr ⟨ok_aload_n C (show decode cX8_moveInto 0 = .ok (.aload_n 1, 1) by decide +kernel) rfl rfl, ?_⟩
  refine List.forall_mem_cons.mpr ⟨ok_callV C h_X9_clear ⟨rfl, rfl⟩ rfl kw_396 kw_393 kw_394 kw_395 kw_3 rfl ds_X9_clear ⟨by decide, by decide⟩ (show decode cX8_moveInto 1 = .ok (.invokevirtual 19, 3) by decide +kernel) rfl, ?_⟩
  refine List.forall_mem_cons.mpr ⟨ok_aload_n C (show decode cX8_moveInto 4 = .ok (.aload_n 0, 1) by decide +kernel) rfl rfl, ?_⟩
  refine List.forall_mem_cons.mpr ⟨ok_iconst C (show decode cX8_moveInto 5 = .ok (.iconst 0, 1) by decide +kernel) (by decide) rfl, ?_⟩
  refine List.forall_mem_cons.mpr ⟨ok_putf C (wi_X8) tyX8 tyX8_ok nmX8 rfl (by decide) kw_41 (Or.inl rfl) (Or.inl ⟨rfl, rfl⟩) (show decode cX8_moveInto 6 = .ok (.putfield 24, 3) by decide +kernel) rfl, ?_⟩
  refine List.forall_mem_cons.mpr ⟨ok_iconst C (show decode cX8_moveInto 9 = .ok (.iconst 1, 1) by decide +kernel) (by decide) rfl, ?_⟩
  refine List.forall_mem_cons.mpr ⟨ok_istore_n C (show decode cX8_moveInto 10 = .ok (.istore_n 3, 1) by decide +kernel) rfl (by decide) rfl, ?_⟩
  refine List.forall_mem_cons.mpr ⟨ok_iconst C (show decode cX8_moveInto 11 = .ok (.iconst 0, 1) by decide +kernel) (by decide) rfl, ?_⟩
  refine List.forall_mem_cons.mpr ⟨ok_istore C (show decode cX8_moveInto 12 = .ok (.istore 4, 2) by decide +kernel) (by decide) rfl, ?_⟩
  refine List.forall_mem_cons.mpr ⟨ok_iload C (show decode cX8_moveInto 14 = .ok (.iload 4, 2) by decide +kernel) rfl, ?_⟩
  refine List.forall_mem_cons.mpr ⟨ok_iload_n C (show decode cX8_moveInto 16 = .ok (.iload_n 2, 1) by decide +kernel) rfl rfl, ?_⟩
  refine List.forall_mem_cons.mpr ⟨ok_icmpgt C (show decode cX8_moveInto 17 = .ok (.if_icmp .gt 82, 3) by decide +kernel) (tg := 99) (by decide) rfl rfl, ?_⟩
  refine List.forall_mem_cons.mpr ⟨ok_iload_n C (show decode cX8_moveInto 20 = .ok (.iload_n 3, 1) by decide +kernel) rfl rfl, ?_⟩
  refine List.forall_mem_cons.mpr ⟨ok_ifeq C (show decode cX8_moveInto 21 = .ok (.ifCond .eq 78, 3) by decide +kernel) (tg := 99) (by decide) rfl rfl, ?_⟩
  refine List.forall_mem_cons.mpr ⟨ok_aload_n C (show decode cX8_moveInto 24 = .ok (.aload_n 0, 1) by decide +kernel) rfl rfl, ?_⟩
  refine List.forall_mem_cons.mpr ⟨ok_callV C h_X8_skipBlanks ⟨rfl, rfl⟩ rfl kw_400 kw_397 kw_399 kp_0 kw_2 rfl ds_X8_skipBlanks ⟨by decide, by decide⟩ (show decode cX8_moveInto 25 = .ok (.invokevirtual 27, 3) by decide +kernel) rfl, ?_⟩
  refine List.forall_mem_cons.mpr ⟨ok_aload_n C (show decode cX8_moveInto 28 = .ok (.aload_n 0, 1) by decide +kernel) rfl rfl, ?_⟩
  refine List.forall_mem_cons.mpr ⟨ok_getf C (wi_X8) rfl (by decide) kw_41 (show decode cX8_moveInto 29 = .ok (.getfield 24, 3) by decide +kernel) rfl, ?_⟩
  refine List.forall_mem_cons.mpr ⟨ok_aload_n C (show decode cX8_moveInto 32 = .ok (.aload_n 0, 1) by decide +kernel) rfl rfl, ?_⟩
  refine List.forall_mem_cons.mpr ⟨ok_getf C (wi_X8) rfl (by decide) kw_40 (show decode cX8_moveInto 33 = .ok (.getfield 15, 3) by decide +kernel) rfl, ?_⟩
  refine List.forall_mem_cons.mpr ⟨ok_icmpge C (show decode cX8_moveInto 36 = .ok (.if_icmp .ge 29, 3) by decide +kernel) (tg := 65) (by decide) rfl rfl, ?_⟩
  refine List.forall_mem_cons.mpr ⟨ok_aload_n C (show decode cX8_moveInto 39 = .ok (.aload_n 0, 1) by decide +kernel) rfl rfl, ?_⟩
  refine List.forall_mem_cons.mpr ⟨ok_getf C (wi_X8) rfl (by decide) kw_41 (show decode cX8_moveInto 40 = .ok (.getfield 24, 3) by decide +kernel) rfl, ?_⟩
  refine List.forall_mem_cons.mpr ⟨ok_iload_n C (show decode cX8_moveInto 43 = .ok (.iload_n 2, 1) by decide +kernel) rfl rfl, ?_⟩
  refine List.forall_mem_cons.mpr ⟨ok_icmpge C (show decode cX8_moveInto 44 = .ok (.if_icmp .ge 21, 3) by decide +kernel) (tg := 65) (by decide) rfl rfl, ?_⟩
  refine List.forall_mem_cons.mpr ⟨ok_aload_n C (show decode cX8_moveInto 47 = .ok (.aload_n 0, 1) by decide +kernel) rfl rfl, ?_⟩
  refine List.forall_mem_cons.mpr ⟨ok_aload_n C (show decode cX8_moveInto 48 = .ok (.aload_n 1, 1) by decide +kernel) rfl rfl, ?_⟩
  refine List.forall_mem_cons.mpr ⟨ok_callV C h_X8_cutToken ⟨rfl, rfl⟩ rfl kw_408 kw_405 kw_407 kp_1 kw_2 rfl ds_X8_cutToken ⟨by decide, by decide⟩ (show decode cX8_moveInto 49 = .ok (.invokevirtual 30, 3) by decide +kernel) rfl, ?_⟩
  refine List.forall_mem_cons.mpr ⟨ok_iconst C (show decode cX8_moveInto 52 = .ok (.iconst 1, 1) by decide +kernel) (by decide) rfl, ?_⟩
  refine List.forall_mem_cons.mpr ⟨ok_icmpeq C (show decode cX8_moveInto 53 = .ok (.if_icmp .eq 7, 3) by decide +kernel) (tg := 60) (by decide) rfl rfl, ?_⟩
  refine List.forall_mem_cons.mpr ⟨ok_iconst C (show decode cX8_moveInto 56 = .ok (.iconst 1, 1) by decide +kernel) (by decide) rfl, ?_⟩
  refine List.forall_mem_cons.mpr ⟨ok_goto C (show decode cX8_moveInto 57 = .ok (.goto 4, 3) by decide +kernel) (tg := 61) (by decide) rfl, ?_⟩
  refine List.forall_mem_cons.mpr ⟨ok_iconst C (show decode cX8_moveInto 60 = .ok (.iconst 0, 1) by decide +kernel) (by decide) rfl, ?_⟩
  refine List.forall_mem_cons.mpr ⟨ok_istore_n C (show decode cX8_moveInto 61 = .ok (.istore_n 3, 1) by decide +kernel) rfl (by decide) rfl, ?_⟩
  refine List.forall_mem_cons.mpr ⟨ok_goto C (show decode cX8_moveInto 62 = .ok (.goto 31, 3) by decide +kernel) (tg := 93) (by decide) rfl, ?_⟩
  refine List.forall_mem_cons.mpr ⟨ok_aload_n C (show decode cX8_moveInto 65 = .ok (.aload_n 1, 1) by decide +kernel) rfl rfl, ?_⟩
  refine List.forall_mem_cons.mpr ⟨ok_aload_n C (show decode cX8_moveInto 66 = .ok (.aload_n 0, 1) by decide +kernel) rfl rfl, ?_⟩
  refine List.forall_mem_cons.mpr ⟨ok_getf C (wi_X8) rfl (by decide) kw_40 (show decode cX8_moveInto 67 = .ok (.getfield 15, 3) by decide +kernel) rfl, ?_⟩
  refine List.forall_mem_cons.mpr ⟨ok_iload_n C (show decode cX8_moveInto 70 = .ok (.iload_n 2, 1) by decide +kernel) rfl rfl, ?_⟩
  refine List.forall_mem_cons.mpr ⟨ok_icmple C (show decode cX8_moveInto 71 = .ok (.if_icmp .le 7, 3) by decide +kernel) (tg := 78) (by decide) rfl rfl, ?_⟩
  refine List.forall_mem_cons.mpr ⟨ok_iconst C (show decode cX8_moveInto 74 = .ok (.iconst 1, 1) by decide +kernel) (by decide) rfl, ?_⟩
  refine List.forall_mem_cons.mpr ⟨ok_goto C (show decode cX8_moveInto 75 = .ok (.goto 4, 3) by decide +kernel) (tg := 79) (by decide) rfl, ?_⟩
  refine List.forall_mem_cons.mpr ⟨ok_iconst C (show decode cX8_moveInto 78 = .ok (.iconst 0, 1) by decide +kernel) (by decide) rfl, ?_⟩
  refine List.forall_mem_cons.mpr ⟨ok_aload_n C (show decode cX8_moveInto 79 = .ok (.aload_n 0, 1) by decide +kernel) rfl rfl, ?_⟩
  refine List.forall_mem_cons.mpr ⟨ok_getf C (wi_X8) rfl (by decide) kw_40 (show decode cX8_moveInto 80 = .ok (.getfield 15, 3) by decide +kernel) rfl, ?_⟩
  refine List.forall_mem_cons.mpr ⟨ok_iload_n C (show decode cX8_moveInto 83 = .ok (.iload_n 2, 1) by decide +kernel) rfl rfl, ?_⟩
  refine List.forall_mem_cons.mpr ⟨ok_mmin C kw_485 kw_486 kw_16 kw_487 ⟨by decide, by decide⟩ (show decode cX8_moveInto 84 = .ok (.invokestatic 34, 3) by decide +kernel) rfl, ?_⟩
  refine List.forall_mem_cons.mpr ⟨ok_lconst C (show decode cX8_moveInto 87 = .ok (.lconst 0, 1) by decide +kernel) (by decide) rfl, ?_⟩
  refine List.forall_mem_cons.mpr ⟨ok_callV C h_X9_add ⟨rfl, rfl⟩ rfl kw_481 kw_478 kw_479 kw_480 kw_3 rfl ds_X9_add ⟨by decide, by decide⟩ (show decode cX8_moveInto 88 = .ok (.invokevirtual 40, 3) by decide +kernel) rfl, ?_⟩
  refine List.forall_mem_cons.mpr ⟨ok_iconst C (show decode cX8_moveInto 91 = .ok (.iconst 0, 1) by decide +kernel) (by decide) rfl, ?_⟩
  refine List.forall_mem_cons.mpr ⟨ok_istore_n C (show decode cX8_moveInto 92 = .ok (.istore_n 3, 1) by decide +kernel) rfl (by decide) rfl, ?_⟩
  refine List.forall_mem_cons.mpr ⟨ok_iinc C (show decode cX8_moveInto 93 = .ok (.iinc 4 1, 3) by decide +kernel) (by decide) (by decide) rfl, ?_⟩
  refine List.forall_mem_cons.mpr ⟨ok_goto C (show decode cX8_moveInto 96 = .ok (.goto (-82), 3) by decide +kernel) (tg := 14) (by decide) rfl, ?_⟩
  refine List.forall_mem_cons.mpr ⟨ok_aload_n C (show decode cX8_moveInto 99 = .ok (.aload_n 0, 1) by decide +kernel) rfl rfl, ?_⟩
  refine List.forall_mem_cons.mpr ⟨ok_iconst C (show decode cX8_moveInto 100 = .ok (.iconst 0, 1) by decide +kernel) (by decide) rfl, ?_⟩
  refine List.forall_mem_cons.mpr ⟨ok_putf C (wi_X8) tyX8 tyX8_ok nmX8 rfl (by decide) kw_40 (Or.inl rfl) (Or.inl ⟨rfl, rfl⟩) (show decode cX8_moveInto 101 = .ok (.putfield 15, 3) by decide +kernel) rfl, ?_⟩
  refine List.forall_mem_cons.mpr ⟨ok_vret C rfl (show decode cX8_moveInto 104 = .ok (.return_, 1) by decide +kernel), ?_⟩
  exact fun _ h => absurd h List.not_mem_nil
def L_X9_init : List (Nat × ab_A) := [
  (0, ab_nx 1 (ab_aload 0)),
  (1, ab_nx 4 ab_obj),
  (4, ab_nx 5 (ab_aload 0)),
  (5, ab_nx 8 (ab_lit (.int 901))),
  (8, ab_nx 10 (ab_newa 1 (fun n => (n, .inl (fun _ => 0))) 3 2703)),
  (10, ab_nx 13 (ab_putf 9 0 2)),
  (13, ab_nx 14 (ab_aload 0)),
  (14, ab_nx 17 (ab_lit (.int 901))),
  (17, ab_nx 19 (ab_newa 1 (fun n => (n, .inl (fun _ => 0))) 3 2703)),
  (19, ab_nx 22 (ab_putf 9 1 2)),
  (22, ab_nx 23 (ab_aload 0)),
  (23, ab_nx 26 (ab_lit (.int 901))),
  (26, ab_nx 28 (ab_newa 2 (fun n => (n, .inr (.inl (fun _ => 0)))) 3 2703)),
  (28, ab_nx 31 (ab_putf 9 2 2)),
  (31, ab_vret 3 2703)]
set_option maxRecDepth 100000 in
set_option maxHeartbeats 4000000 in
theorem M_X9_init {l : Launch} {b : ab_B} {D : va_G} {cA : Nat → ClassId} : ab_M l b D ab_cl cA (ab_E0 b) yX9_init (Cond.code yX9_init cX9_init 1 none :: ab_G) ({ frames := 2, cells := 3, slots := 2703, locals := 200 } : Room) (ab_X (ab_T L_X9_init) 1) := by
  refine ab_meth (ret := none) L_X9_init (by decide) rfl fun p e R s m args below meth c o C => ?_
  unfold L_X9_init
  refine List.forall_mem_cons.mpr ⟨ok_aload_n C (show decode cX9_init 0 = .ok (.aload_n 0, 1) by decide +kernel) rfl rfl, ?_⟩
  refine List.forall_mem_cons.mpr ⟨ok_obj C kw_55 kw_30 kw_31 ⟨by decide, by decide⟩ (show decode cX9_init 1 = .ok (.invokespecial 3, 3) by decide +kernel) rfl, ?_⟩
  refine List.forall_mem_cons.mpr ⟨ok_aload_n C (show decode cX9_init 4 = .ok (.aload_n 0, 1) by decide +kernel) rfl rfl, ?_⟩
  refine List.forall_mem_cons.mpr ⟨ok_sipush C (show decode cX9_init 5 = .ok (.sipush 901, 3) by decide +kernel) (by decide) rfl, ?_⟩
  refine List.forall_mem_cons.mpr ⟨ok_newa_int C kw_97 (show decode cX9_init 8 = .ok (.newarray .int, 2) by decide +kernel) rfl, ?_⟩
  refine List.forall_mem_cons.mpr ⟨ok_putf C (wi_X9) tyX9 tyX9_ok nmX9 rfl (by decide) kw_56 (Or.inr ⟨rfl, cx_name C, rfl⟩) (Or.inr (Or.inr (Or.inl ⟨rfl, Or.inr ⟨_, rfl⟩⟩))) (show decode cX9_init 10 = .ok (.putfield 9, 3) by decide +kernel) rfl, ?_⟩
  refine List.forall_mem_cons.mpr ⟨ok_aload_n C (show decode cX9_init 13 = .ok (.aload_n 0, 1) by decide +kernel) rfl rfl, ?_⟩
  refine List.forall_mem_cons.mpr ⟨ok_sipush C (show decode cX9_init 14 = .ok (.sipush 901, 3) by decide +kernel) (by decide) rfl, ?_⟩
  refine List.forall_mem_cons.mpr ⟨ok_newa_int C kw_97 (show decode cX9_init 17 = .ok (.newarray .int, 2) by decide +kernel) rfl, ?_⟩
  refine List.forall_mem_cons.mpr ⟨ok_putf C (wi_X9) tyX9 tyX9_ok nmX9 rfl (by decide) kw_57 (Or.inr ⟨rfl, cx_name C, rfl⟩) (Or.inr (Or.inr (Or.inl ⟨rfl, Or.inr ⟨_, rfl⟩⟩))) (show decode cX9_init 19 = .ok (.putfield 15, 3) by decide +kernel) rfl, ?_⟩
  refine List.forall_mem_cons.mpr ⟨ok_aload_n C (show decode cX9_init 22 = .ok (.aload_n 0, 1) by decide +kernel) rfl rfl, ?_⟩
  refine List.forall_mem_cons.mpr ⟨ok_sipush C (show decode cX9_init 23 = .ok (.sipush 901, 3) by decide +kernel) (by decide) rfl, ?_⟩
  refine List.forall_mem_cons.mpr ⟨ok_newa_long C kw_98 (show decode cX9_init 26 = .ok (.newarray .long, 2) by decide +kernel) rfl, ?_⟩
  refine List.forall_mem_cons.mpr ⟨ok_putf C (wi_X9) tyX9 tyX9_ok nmX9 rfl (by decide) kw_58 (Or.inr ⟨rfl, cx_name C, rfl⟩) (Or.inr (Or.inr (Or.inl ⟨rfl, Or.inr ⟨_, rfl⟩⟩))) (show decode cX9_init 28 = .ok (.putfield 18, 3) by decide +kernel) rfl, ?_⟩
  refine List.forall_mem_cons.mpr ⟨ok_vret C rfl (show decode cX9_init 31 = .ok (.return_, 1) by decide +kernel), ?_⟩
  exact fun _ h => absurd h List.not_mem_nil
def L_X10_init (f_X8_init : List Value → ab_H → Option ab_O) (f_X9_init : List Value → ab_H → Option ab_O) (f_X1_init : List Value → ab_H → Option ab_O) (f_X2_init : List Value → ab_H → Option ab_O) (f_X6_init : List Value → ab_H → Option ab_O) (f_X4_init : List Value → ab_H → Option ab_O) (f_X0_init : List Value → ab_H → Option ab_O) (f_X7_init : List Value → ab_H → Option ab_O) (f_X5_init : List Value → ab_H → Option ab_O) : List (Nat × ab_A) := [
  (0, ab_nx 1 (ab_aload 0)),
  (1, ab_nx 4 ab_obj),
  (4, ab_nx 5 (ab_aload 0)),
  (5, ab_nx 8 (ab_new 8 3 [.null, .int 0, .int 0] 68 4837)),
  (8, ab_nx 9 ab_dup),
  (9, ab_nx 12 (ab_call 1 f_X8_init 1 940 68 4837)),
  (12, ab_nx 15 (ab_putf 10 0 2)),
  (15, ab_nx 16 (ab_aload 0)),
  (16, ab_nx 19 (ab_new 9 10 [.null, .null, .null, .int 0, .int 0, .int 0, .int 0, .int 0, .long 0, .int 0] 68 4837)),
  (19, ab_nx 20 ab_dup),
  (20, ab_nx 23 (ab_call 1 f_X9_init 3 2703 68 4837)),
  (23, ab_nx 26 (ab_putf 10 1 2)),
  (26, ab_nx 27 (ab_aload 0)),
  (27, ab_nx 30 (ab_new 1 4 [.null, .null, .int 0, .int 0] 68 4837)),
  (30, ab_nx 31 ab_dup),
  (31, ab_nx 34 (ab_call 1 f_X1_init 2 12 68 4837)),
  (34, ab_nx 37 (ab_putf 10 2 2)),
  (37, ab_nx 38 (ab_aload 0)),
  (38, ab_nx 41 (ab_new 2 2 [.null, .int 0] 68 4837)),
  (41, ab_nx 42 ab_dup),
  (42, ab_nx 45 (ab_call 1 f_X2_init 1 8 68 4837)),
  (45, ab_nx 48 (ab_putf 10 3 2)),
  (48, ab_nx 49 (ab_aload 0)),
  (49, ab_nx 52 (ab_new 6 10 [.null, .null, .null, .null, .null, .null, .null, .int 0, .int 0, .int 0] 68 4837)),
  (52, ab_nx 53 ab_dup),
  (53, ab_nx 56 (ab_call 1 f_X6_init 7 128 68 4837)),
  (56, ab_nx 59 (ab_putf 10 4 2)),
  (59, ab_nx 60 (ab_aload 0)),
  (60, ab_nx 63 (ab_new 6 10 [.null, .null, .null, .null, .null, .null, .null, .int 0, .int 0, .int 0] 68 4837)),
  (63, ab_nx 64 ab_dup),
  (64, ab_nx 67 (ab_call 1 f_X6_init 7 128 68 4837)),
  (67, ab_nx 70 (ab_putf 10 5 2)),
  (70, ab_nx 71 (ab_aload 0)),
  (71, ab_nx 74 (ab_new 6 10 [.null, .null, .null, .null, .null, .null, .null, .int 0, .int 0, .int 0] 68 4837)),
  (74, ab_nx 75 ab_dup),
  (75, ab_nx 78 (ab_call 1 f_X6_init 7 128 68 4837)),
  (78, ab_nx 81 (ab_putf 10 6 2)),
  (81, ab_nx 82 (ab_aload 0)),
  (82, ab_nx 85 (ab_new 4 4 [.null, .null, .null, .int 0] 68 4837)),
  (85, ab_nx 86 ab_dup),
  (86, ab_nx 89 (ab_call 1 f_X4_init 3 120 68 4837)),
  (89, ab_nx 92 (ab_putf 10 7 2)),
  (92, ab_nx 93 (ab_aload 0)),
  (93, ab_nx 96 (ab_new 0 1 [.int 0] 68 4837)),
  (96, ab_nx 97 ab_dup),
  (97, ab_nx 100 (ab_call 1 f_X0_init 0 0 68 4837)),
  (100, ab_nx 103 (ab_putf 10 8 2)),
  (103, ab_nx 104 (ab_aload 0)),
  (104, ab_nx 105 (ab_lit (.int 2))),
  (105, ab_nx 108 (ab_newa 4 (fun n => (n, .inr (.inr (.inr (.inr (fun _ => none)))))) 68 4837)),
  (108, ab_nx 111 (ab_putf 10 9 2)),
  (111, ab_nx 112 (ab_aload 0)),
  (112, ab_nx 114 (ab_lit (.int 12))),
  (114, ab_nx 116 (ab_newa 1 (fun n => (n, .inl (fun _ => 0))) 68 4837)),
  (116, ab_nx 119 (ab_putf 10 10 2)),
  (119, ab_nx 120 (ab_aload 0)),
  (120, ab_nx 122 (ab_lit (.int 60))),
  (122, ab_nx 124 (ab_newa 1 (fun n => (n, .inl (fun _ => 0))) 68 4837)),
  (124, ab_nx 127 (ab_putf 10 11 2)),
  (127, ab_nx 128 (ab_aload 0)),
  (128, ab_nx 129 (ab_lit (.int 4))),
  (129, ab_nx 131 (ab_newa 1 (fun n => (n, .inl (fun _ => 0))) 68 4837)),
  (131, ab_nx 132 ab_dup),
  (132, ab_nx 133 (ab_lit (.int 0))),
  (133, ab_nx 134 (ab_lit (.int (-1)))),
  (134, ab_nx 135 (ab_ast 1)),
  (135, ab_nx 136 ab_dup),
  (136, ab_nx 137 (ab_lit (.int 1))),
  (137, ab_nx 138 (ab_lit (.int (-1)))),
  (138, ab_nx 139 (ab_ast 1)),
  (139, ab_nx 140 ab_dup),
  (140, ab_nx 141 (ab_lit (.int 2))),
  (141, ab_nx 142 (ab_lit (.int (-1)))),
  (142, ab_nx 143 (ab_ast 1)),
  (143, ab_nx 144 ab_dup),
  (144, ab_nx 145 (ab_lit (.int 3))),
  (145, ab_nx 146 (ab_lit (.int (-1)))),
  (146, ab_nx 147 (ab_ast 1)),
  (147, ab_nx 150 (ab_putf 10 12 2)),
  (150, ab_nx 151 (ab_aload 0)),
  (151, ab_nx 154 (ab_new 7 13 [.null, .null, .null, .null, .null, .null, .null, .int 0, .int 0, .int 0, .int 0, .int 0, .long 0] 68 4837)),
  (154, ab_nx 155 ab_dup),
  (155, ab_nx 158 (ab_call 1 f_X7_init 7 130 68 4837)),
  (158, ab_nx 161 (ab_putf 10 13 2)),
  (161, ab_nx 162 (ab_aload 0)),
  (162, ab_nx 165 (ab_new 7 13 [.null, .null, .null, .null, .null, .null, .null, .int 0, .int 0, .int 0, .int 0, .int 0, .long 0] 68 4837)),
  (165, ab_nx 166 ab_dup),
  (166, ab_nx 169 (ab_call 1 f_X7_init 7 130 68 4837)),
  (169, ab_nx 172 (ab_putf 10 14 2)),
  (172, ab_nx 173 (ab_aload 0)),
  (173, ab_nx 176 (ab_new 5 6 [.null, .null, .null, .int 0, .int 0, .int 0] 68 4837)),
  (176, ab_nx 177 ab_dup),
  (177, ab_nx 180 (ab_call 1 f_X5_init 3 120 68 4837)),
  (180, ab_nx 183 (ab_putf 10 15 2)),
  (183, ab_nx 184 (ab_aload 0)),
  (184, ab_nx 187 (ab_new 5 6 [.null, .null, .null, .int 0, .int 0, .int 0] 68 4837)),
  (187, ab_nx 188 ab_dup),
  (188, ab_nx 191 (ab_call 1 f_X5_init 3 120 68 4837)),
  (191, ab_nx 194 (ab_putf 10 16 2)),
  (194, ab_vret 68 4837)]
set_option maxRecDepth 100000 in
set_option maxHeartbeats 4000000 in
theorem M_X10_init {l : Launch} {b : ab_B} {D : va_G} {cA : Nat → ClassId} {f_X8_init : List Value → ab_H → Option ab_O} (h_X8_init : ab_M l b D ab_cl cA (ab_E0 b) yX8_init (Cond.code yX8_init cX8_init 1 none :: ab_G) ({ frames := 2, cells := 1, slots := 940, locals := 200 } : Room) f_X8_init) (i_X8_init : ∀ v hp o2, f_X8_init [v] hp = some o2 → ∃ a, v = .ref a) {f_X9_init : List Value → ab_H → Option ab_O} (h_X9_init : ab_M l b D ab_cl cA (ab_E0 b) yX9_init (Cond.code yX9_init cX9_init 1 none :: ab_G) ({ frames := 2, cells := 3, slots := 2703, locals := 200 } : Room) f_X9_init) (i_X9_init : ∀ v hp o2, f_X9_init [v] hp = some o2 → ∃ a, v = .ref a) {f_X1_init : List Value → ab_H → Option ab_O} (h_X1_init : ab_M l b D ab_cl cA (ab_E0 b) yX1_init (Cond.code yX1_init cX1_init 1 none :: ab_G) ({ frames := 2, cells := 2, slots := 12, locals := 200 } : Room) f_X1_init) (i_X1_init : ∀ v hp o2, f_X1_init [v] hp = some o2 → ∃ a, v = .ref a) {f_X2_init : List Value → ab_H → Option ab_O} (h_X2_init : ab_M l b D ab_cl cA (ab_E0 b) yX2_init (Cond.code yX2_init cX2_init 1 none :: ab_G) ({ frames := 2, cells := 1, slots := 8, locals := 200 } : Room) f_X2_init) (i_X2_init : ∀ v hp o2, f_X2_init [v] hp = some o2 → ∃ a, v = .ref a) {f_X6_init : List Value → ab_H → Option ab_O} (h_X6_init : ab_M l b D ab_cl cA (ab_E0 b) yX6_init (Cond.code yX6_init cX6_init 1 none :: ab_G) ({ frames := 2, cells := 7, slots := 128, locals := 200 } : Room) f_X6_init) (i_X6_init : ∀ v hp o2, f_X6_init [v] hp = some o2 → ∃ a, v = .ref a) {f_X4_init : List Value → ab_H → Option ab_O} (h_X4_init : ab_M l b D ab_cl cA (ab_E0 b) yX4_init (Cond.code yX4_init cX4_init 1 none :: ab_G) ({ frames := 2, cells := 3, slots := 120, locals := 200 } : Room) f_X4_init) (i_X4_init : ∀ v hp o2, f_X4_init [v] hp = some o2 → ∃ a, v = .ref a) {f_X0_init : List Value → ab_H → Option ab_O} (h_X0_init : ab_M l b D ab_cl cA (ab_E0 b) yX0_init (Cond.code yX0_init cX0_init 1 none :: ab_G) ({ frames := 2, cells := 0, slots := 0, locals := 200 } : Room) f_X0_init) (i_X0_init : ∀ v hp o2, f_X0_init [v] hp = some o2 → ∃ a, v = .ref a) {f_X7_init : List Value → ab_H → Option ab_O} (h_X7_init : ab_M l b D ab_cl cA (ab_E0 b) yX7_init (Cond.code yX7_init cX7_init 1 none :: ab_G) ({ frames := 2, cells := 7, slots := 130, locals := 200 } : Room) f_X7_init) (i_X7_init : ∀ v hp o2, f_X7_init [v] hp = some o2 → ∃ a, v = .ref a) {f_X5_init : List Value → ab_H → Option ab_O} (h_X5_init : ab_M l b D ab_cl cA (ab_E0 b) yX5_init (Cond.code yX5_init cX5_init 1 none :: ab_G) ({ frames := 2, cells := 3, slots := 120, locals := 200 } : Room) f_X5_init) (i_X5_init : ∀ v hp o2, f_X5_init [v] hp = some o2 → ∃ a, v = .ref a) : ab_M l b D ab_cl cA (ab_E0 b) yX10_init (Cond.code yX10_init cX10_init 1 none :: ab_G) ({ frames := 3, cells := 68, slots := 4837, locals := 300 } : Room) (ab_X (ab_T (L_X10_init f_X8_init f_X9_init f_X1_init f_X2_init f_X6_init f_X4_init f_X0_init f_X7_init f_X5_init)) 1) := by
  refine ab_meth (ret := none) (L_X10_init f_X8_init f_X9_init f_X1_init f_X2_init f_X6_init f_X4_init f_X0_init f_X7_init f_X5_init) (by decide) rfl fun p e R s m args below meth c o C => ?_
  unfold L_X10_init
  refine List.forall_mem_cons.mpr ⟨ok_aload_n C (show decode cX10_init 0 = .ok (.aload_n 0, 1) by decide +kernel) rfl rfl, ?_⟩
  refine List.forall_mem_cons.mpr ⟨ok_obj C kw_29 kw_30 kw_31 ⟨by decide, by decide⟩ (show decode cX10_init 1 = .ok (.invokespecial 3, 3) by decide +kernel) rfl, ?_⟩
  refine List.forall_mem_cons.mpr ⟨ok_aload_n C (show decode cX10_init 4 = .ok (.aload_n 0, 1) by decide +kernel) rfl rfl, ?_⟩
  refine List.forall_mem_cons.mpr ⟨ok_new C (wi_X8) tyX8 tyX8_ok rfl kw_32 kw_33 kw_2 (df_X8 _) (show decode cX10_init 5 = .ok (.new 9, 3) by decide +kernel) rfl, ?_⟩
  refine List.forall_mem_cons.mpr ⟨ok_dup C (show decode cX10_init 8 = .ok (.dup, 1) by decide +kernel) rfl, ?_⟩
  refine List.forall_mem_cons.mpr ⟨ok_callIN C h_X8_init ⟨rfl, rfl⟩ i_X8_init kw_36 (host := "LackFerry") (by decide +kernel) kw_35 kw_2 rfl ds_X8_init ⟨by decide, by decide⟩ (show decode cX10_init 9 = .ok (.invokespecial 11, 3) by decide +kernel) rfl, ?_⟩
  refine List.forall_mem_cons.mpr ⟨ok_putf C (wi_X10) tyX10 tyX10_ok nmX10 rfl (by decide) kw_315 (Or.inr ⟨rfl, cx_name C, rfl⟩) (Or.inr (Or.inr (Or.inl ⟨rfl, Or.inl ⟨_, rfl⟩⟩))) (show decode cX10_init 12 = .ok (.putfield 12, 3) by decide +kernel) rfl, ?_⟩
  refine List.forall_mem_cons.mpr ⟨ok_aload_n C (show decode cX10_init 15 = .ok (.aload_n 0, 1) by decide +kernel) rfl rfl, ?_⟩
  refine List.forall_mem_cons.mpr ⟨ok_new C (wi_X9) tyX9 tyX9_ok rfl kw_50 kw_51 kw_3 (df_X9 _) (show decode cX10_init 16 = .ok (.new 16, 3) by decide +kernel) rfl, ?_⟩
  refine List.forall_mem_cons.mpr ⟨ok_dup C (show decode cX10_init 19 = .ok (.dup, 1) by decide +kernel) rfl, ?_⟩
  refine List.forall_mem_cons.mpr ⟨ok_callIN C h_X9_init ⟨rfl, rfl⟩ i_X9_init kw_54 (host := "LackFerry") (by decide +kernel) kw_53 kw_3 rfl ds_X9_init ⟨by decide, by decide⟩ (show decode cX10_init 20 = .ok (.invokespecial 18, 3) by decide +kernel) rfl, ?_⟩
  refine List.forall_mem_cons.mpr ⟨ok_putf C (wi_X10) tyX10 tyX10_ok nmX10 rfl (by decide) kw_316 (Or.inr ⟨rfl, cx_name C, rfl⟩) (Or.inr (Or.inr (Or.inl ⟨rfl, Or.inl ⟨_, rfl⟩⟩))) (show decode cX10_init 23 = .ok (.putfield 19, 3) by decide +kernel) rfl, ?_⟩
  refine List.forall_mem_cons.mpr ⟨ok_aload_n C (show decode cX10_init 26 = .ok (.aload_n 0, 1) by decide +kernel) rfl rfl, ?_⟩
  refine List.forall_mem_cons.mpr ⟨ok_new C (wi_X1) tyX1 tyX1_ok rfl kw_99 kw_100 kw_4 (df_X1 _) (show decode cX10_init 27 = .ok (.new 23, 3) by decide +kernel) rfl, ?_⟩
  refine List.forall_mem_cons.mpr ⟨ok_dup C (show decode cX10_init 30 = .ok (.dup, 1) by decide +kernel) rfl, ?_⟩
  refine List.forall_mem_cons.mpr ⟨ok_callIN C h_X1_init ⟨rfl, rfl⟩ i_X1_init kw_103 (host := "LackFerry") (by decide +kernel) kw_102 kw_4 rfl ds_X1_init ⟨by decide, by decide⟩ (show decode cX10_init 31 = .ok (.invokespecial 25, 3) by decide +kernel) rfl, ?_⟩
  refine List.forall_mem_cons.mpr ⟨ok_putf C (wi_X10) tyX10 tyX10_ok nmX10 rfl (by decide) kw_317 (Or.inr ⟨rfl, cx_name C, rfl⟩) (Or.inr (Or.inr (Or.inl ⟨rfl, Or.inl ⟨_, rfl⟩⟩))) (show decode cX10_init 34 = .ok (.putfield 26, 3) by decide +kernel) rfl, ?_⟩
  refine List.forall_mem_cons.mpr ⟨ok_aload_n C (show decode cX10_init 37 = .ok (.aload_n 0, 1) by decide +kernel) rfl rfl, ?_⟩
  refine List.forall_mem_cons.mpr ⟨ok_new C (wi_X2) tyX2 tyX2_ok rfl kw_121 kw_122 kw_5 (df_X2 _) (show decode cX10_init 38 = .ok (.new 30, 3) by decide +kernel) rfl, ?_⟩
  refine List.forall_mem_cons.mpr ⟨ok_dup C (show decode cX10_init 41 = .ok (.dup, 1) by decide +kernel) rfl, ?_⟩
  refine List.forall_mem_cons.mpr ⟨ok_callIN C h_X2_init ⟨rfl, rfl⟩ i_X2_init kw_125 (host := "LackFerry") (by decide +kernel) kw_124 kw_5 rfl ds_X2_init ⟨by decide, by decide⟩ (show decode cX10_init 42 = .ok (.invokespecial 32, 3) by decide +kernel) rfl, ?_⟩
  refine List.forall_mem_cons.mpr ⟨ok_putf C (wi_X10) tyX10 tyX10_ok nmX10 rfl (by decide) kw_318 (Or.inr ⟨rfl, cx_name C, rfl⟩) (Or.inr (Or.inr (Or.inl ⟨rfl, Or.inl ⟨_, rfl⟩⟩))) (show decode cX10_init 45 = .ok (.putfield 33, 3) by decide +kernel) rfl, ?_⟩
  refine List.forall_mem_cons.mpr ⟨ok_aload_n C (show decode cX10_init 48 = .ok (.aload_n 0, 1) by decide +kernel) rfl rfl, ?_⟩
  refine List.forall_mem_cons.mpr ⟨ok_new C (wi_X6) tyX6 tyX6_ok rfl kw_136 kw_137 kw_6 (df_X6 _) (show decode cX10_init 49 = .ok (.new 37, 3) by decide +kernel) rfl, ?_⟩
  refine List.forall_mem_cons.mpr ⟨ok_dup C (show decode cX10_init 52 = .ok (.dup, 1) by decide +kernel) rfl, ?_⟩
  refine List.forall_mem_cons.mpr ⟨ok_callIN C h_X6_init ⟨rfl, rfl⟩ i_X6_init kw_140 (host := "LackFerry") (by decide +kernel) kw_139 kw_6 rfl ds_X6_init ⟨by decide, by decide⟩ (show decode cX10_init 53 = .ok (.invokespecial 39, 3) by decide +kernel) rfl, ?_⟩
  refine List.forall_mem_cons.mpr ⟨ok_putf C (wi_X10) tyX10 tyX10_ok nmX10 rfl (by decide) kw_319 (Or.inr ⟨rfl, cx_name C, rfl⟩) (Or.inr (Or.inr (Or.inl ⟨rfl, Or.inl ⟨_, rfl⟩⟩))) (show decode cX10_init 56 = .ok (.putfield 40, 3) by decide +kernel) rfl, ?_⟩
  refine List.forall_mem_cons.mpr ⟨ok_aload_n C (show decode cX10_init 59 = .ok (.aload_n 0, 1) by decide +kernel) rfl rfl, ?_⟩
  refine List.forall_mem_cons.mpr ⟨ok_new C (wi_X6) tyX6 tyX6_ok rfl kw_136 kw_137 kw_6 (df_X6 _) (show decode cX10_init 60 = .ok (.new 37, 3) by decide +kernel) rfl, ?_⟩
  refine List.forall_mem_cons.mpr ⟨ok_dup C (show decode cX10_init 63 = .ok (.dup, 1) by decide +kernel) rfl, ?_⟩
  refine List.forall_mem_cons.mpr ⟨ok_callIN C h_X6_init ⟨rfl, rfl⟩ i_X6_init kw_140 (host := "LackFerry") (by decide +kernel) kw_139 kw_6 rfl ds_X6_init ⟨by decide, by decide⟩ (show decode cX10_init 64 = .ok (.invokespecial 39, 3) by decide +kernel) rfl, ?_⟩
  refine List.forall_mem_cons.mpr ⟨ok_putf C (wi_X10) tyX10 tyX10_ok nmX10 rfl (by decide) kw_320 (Or.inr ⟨rfl, cx_name C, rfl⟩) (Or.inr (Or.inr (Or.inl ⟨rfl, Or.inl ⟨_, rfl⟩⟩))) (show decode cX10_init 67 = .ok (.putfield 44, 3) by decide +kernel) rfl, ?_⟩
  refine List.forall_mem_cons.mpr ⟨ok_aload_n C (show decode cX10_init 70 = .ok (.aload_n 0, 1) by decide +kernel) rfl rfl, ?_⟩
  refine List.forall_mem_cons.mpr ⟨ok_new C (wi_X6) tyX6 tyX6_ok rfl kw_136 kw_137 kw_6 (df_X6 _) (show decode cX10_init 71 = .ok (.new 37, 3) by decide +kernel) rfl, ?_⟩
  refine List.forall_mem_cons.mpr ⟨ok_dup C (show decode cX10_init 74 = .ok (.dup, 1) by decide +kernel) rfl, ?_⟩
  refine List.forall_mem_cons.mpr ⟨ok_callIN C h_X6_init ⟨rfl, rfl⟩ i_X6_init kw_140 (host := "LackFerry") (by decide +kernel) kw_139 kw_6 rfl ds_X6_init ⟨by decide, by decide⟩ (show decode cX10_init 75 = .ok (.invokespecial 39, 3) by decide +kernel) rfl, ?_⟩
  refine List.forall_mem_cons.mpr ⟨ok_putf C (wi_X10) tyX10 tyX10_ok nmX10 rfl (by decide) kw_321 (Or.inr ⟨rfl, cx_name C, rfl⟩) (Or.inr (Or.inr (Or.inl ⟨rfl, Or.inl ⟨_, rfl⟩⟩))) (show decode cX10_init 78 = .ok (.putfield 47, 3) by decide +kernel) rfl, ?_⟩
  refine List.forall_mem_cons.mpr ⟨ok_aload_n C (show decode cX10_init 81 = .ok (.aload_n 0, 1) by decide +kernel) rfl rfl, ?_⟩
  refine List.forall_mem_cons.mpr ⟨ok_new C (wi_X4) tyX4 tyX4_ok rfl kw_192 kw_193 kw_7 (df_X4 _) (show decode cX10_init 82 = .ok (.new 50, 3) by decide +kernel) rfl, ?_⟩
  refine List.forall_mem_cons.mpr ⟨ok_dup C (show decode cX10_init 85 = .ok (.dup, 1) by decide +kernel) rfl, ?_⟩
  refine List.forall_mem_cons.mpr ⟨ok_callIN C h_X4_init ⟨rfl, rfl⟩ i_X4_init kw_196 (host := "LackFerry") (by decide +kernel) kw_195 kw_7 rfl ds_X4_init ⟨by decide, by decide⟩ (show decode cX10_init 86 = .ok (.invokespecial 52, 3) by decide +kernel) rfl, ?_⟩
  refine List.forall_mem_cons.mpr ⟨ok_putf C (wi_X10) tyX10 tyX10_ok nmX10 rfl (by decide) kw_322 (Or.inr ⟨rfl, cx_name C, rfl⟩) (Or.inr (Or.inr (Or.inl ⟨rfl, Or.inl ⟨_, rfl⟩⟩))) (show decode cX10_init 89 = .ok (.putfield 53, 3) by decide +kernel) rfl, ?_⟩
  refine List.forall_mem_cons.mpr ⟨ok_aload_n C (show decode cX10_init 92 = .ok (.aload_n 0, 1) by decide +kernel) rfl rfl, ?_⟩
  refine List.forall_mem_cons.mpr ⟨ok_new C (wi_X0) tyX0 tyX0_ok rfl kw_215 kw_216 kw_8 (df_X0 _) (show decode cX10_init 93 = .ok (.new 57, 3) by decide +kernel) rfl, ?_⟩
  refine List.forall_mem_cons.mpr ⟨ok_dup C (show decode cX10_init 96 = .ok (.dup, 1) by decide +kernel) rfl, ?_⟩
  refine List.forall_mem_cons.mpr ⟨ok_callIN C h_X0_init ⟨rfl, rfl⟩ i_X0_init kw_219 (host := "LackFerry") (by decide +kernel) kw_218 kw_8 rfl ds_X0_init ⟨by decide, by decide⟩ (show decode cX10_init 97 = .ok (.invokespecial 59, 3) by decide +kernel) rfl, ?_⟩
  refine List.forall_mem_cons.mpr ⟨ok_putf C (wi_X10) tyX10 tyX10_ok nmX10 rfl (by decide) kw_323 (Or.inr ⟨rfl, cx_name C, rfl⟩) (Or.inr (Or.inr (Or.inl ⟨rfl, Or.inl ⟨_, rfl⟩⟩))) (show decode cX10_init 100 = .ok (.putfield 60, 3) by decide +kernel) rfl, ?_⟩
  refine List.forall_mem_cons.mpr ⟨ok_aload_n C (show decode cX10_init 103 = .ok (.aload_n 0, 1) by decide +kernel) rfl rfl, ?_⟩
  refine List.forall_mem_cons.mpr ⟨ok_iconst C (show decode cX10_init 104 = .ok (.iconst 2, 1) by decide +kernel) (by decide) rfl, ?_⟩
  refine List.forall_mem_cons.mpr ⟨ok_anew C (t0 := 4) rfl (cx_E C).2.1 kw_226 (show decode cX10_init 105 = .ok (.anewarray 64, 3) by decide +kernel) rfl, ?_⟩
  refine List.forall_mem_cons.mpr ⟨ok_putf C (wi_X10) tyX10 tyX10_ok nmX10 rfl (by decide) kw_324 (Or.inr ⟨rfl, cx_name C, rfl⟩) (Or.inr (Or.inr (Or.inl ⟨rfl, Or.inr ⟨_, rfl⟩⟩))) (show decode cX10_init 108 = .ok (.putfield 66, 3) by decide +kernel) rfl, ?_⟩
  refine List.forall_mem_cons.mpr ⟨ok_aload_n C (show decode cX10_init 111 = .ok (.aload_n 0, 1) by decide +kernel) rfl rfl, ?_⟩
  refine List.forall_mem_cons.mpr ⟨ok_bipush C (show decode cX10_init 112 = .ok (.bipush 12, 2) by decide +kernel) (by decide) rfl, ?_⟩
  refine List.forall_mem_cons.mpr ⟨ok_newa_int C kw_97 (show decode cX10_init 114 = .ok (.newarray .int, 2) by decide +kernel) rfl, ?_⟩
  refine List.forall_mem_cons.mpr ⟨ok_putf C (wi_X10) tyX10 tyX10_ok nmX10 rfl (by decide) kw_325 (Or.inr ⟨rfl, cx_name C, rfl⟩) (Or.inr (Or.inr (Or.inl ⟨rfl, Or.inr ⟨_, rfl⟩⟩))) (show decode cX10_init 116 = .ok (.putfield 70, 3) by decide +kernel) rfl, ?_⟩
  refine List.forall_mem_cons.mpr ⟨ok_aload_n C (show decode cX10_init 119 = .ok (.aload_n 0, 1) by decide +kernel) rfl rfl, ?_⟩
  refine List.forall_mem_cons.mpr ⟨ok_bipush C (show decode cX10_init 120 = .ok (.bipush 60, 2) by decide +kernel) (by decide) rfl, ?_⟩
  refine List.forall_mem_cons.mpr ⟨ok_newa_int C kw_97 (show decode cX10_init 122 = .ok (.newarray .int, 2) by decide +kernel) rfl, ?_⟩
  refine List.forall_mem_cons.mpr ⟨ok_putf C (wi_X10) tyX10 tyX10_ok nmX10 rfl (by decide) kw_326 (Or.inr ⟨rfl, cx_name C, rfl⟩) (Or.inr (Or.inr (Or.inl ⟨rfl, Or.inr ⟨_, rfl⟩⟩))) (show decode cX10_init 124 = .ok (.putfield 74, 3) by decide +kernel) rfl, ?_⟩
  refine List.forall_mem_cons.mpr ⟨ok_aload_n C (show decode cX10_init 127 = .ok (.aload_n 0, 1) by decide +kernel) rfl rfl, ?_⟩
  refine List.forall_mem_cons.mpr ⟨ok_iconst C (show decode cX10_init 128 = .ok (.iconst 4, 1) by decide +kernel) (by decide) rfl, ?_⟩
  refine List.forall_mem_cons.mpr ⟨ok_newa_int C kw_97 (show decode cX10_init 129 = .ok (.newarray .int, 2) by decide +kernel) rfl, ?_⟩
  refine List.forall_mem_cons.mpr ⟨ok_dup C (show decode cX10_init 131 = .ok (.dup, 1) by decide +kernel) rfl, ?_⟩
  refine List.forall_mem_cons.mpr ⟨ok_iconst C (show decode cX10_init 132 = .ok (.iconst 0, 1) by decide +kernel) (by decide) rfl, ?_⟩
  refine List.forall_mem_cons.mpr ⟨ok_iconst C (show decode cX10_init 133 = .ok (.iconst (-1), 1) by decide +kernel) (by decide) rfl, ?_⟩
  refine List.forall_mem_cons.mpr ⟨ok_iastore C (show decode cX10_init 134 = .ok (.iastore, 1) by decide +kernel) rfl, ?_⟩
  refine List.forall_mem_cons.mpr ⟨ok_dup C (show decode cX10_init 135 = .ok (.dup, 1) by decide +kernel) rfl, ?_⟩
  refine List.forall_mem_cons.mpr ⟨ok_iconst C (show decode cX10_init 136 = .ok (.iconst 1, 1) by decide +kernel) (by decide) rfl, ?_⟩
  refine List.forall_mem_cons.mpr ⟨ok_iconst C (show decode cX10_init 137 = .ok (.iconst (-1), 1) by decide +kernel) (by decide) rfl, ?_⟩
  refine List.forall_mem_cons.mpr ⟨ok_iastore C (show decode cX10_init 138 = .ok (.iastore, 1) by decide +kernel) rfl, ?_⟩
  refine List.forall_mem_cons.mpr ⟨ok_dup C (show decode cX10_init 139 = .ok (.dup, 1) by decide +kernel) rfl, ?_⟩
  refine List.forall_mem_cons.mpr ⟨ok_iconst C (show decode cX10_init 140 = .ok (.iconst 2, 1) by decide +kernel) (by decide) rfl, ?_⟩
  refine List.forall_mem_cons.mpr ⟨ok_iconst C (show decode cX10_init 141 = .ok (.iconst (-1), 1) by decide +kernel) (by decide) rfl, ?_⟩
  refine List.forall_mem_cons.mpr ⟨ok_iastore C (show decode cX10_init 142 = .ok (.iastore, 1) by decide +kernel) rfl, ?_⟩
  refine List.forall_mem_cons.mpr ⟨ok_dup C (show decode cX10_init 143 = .ok (.dup, 1) by decide +kernel) rfl, ?_⟩
  refine List.forall_mem_cons.mpr ⟨ok_iconst C (show decode cX10_init 144 = .ok (.iconst 3, 1) by decide +kernel) (by decide) rfl, ?_⟩
  refine List.forall_mem_cons.mpr ⟨ok_iconst C (show decode cX10_init 145 = .ok (.iconst (-1), 1) by decide +kernel) (by decide) rfl, ?_⟩
  refine List.forall_mem_cons.mpr ⟨ok_iastore C (show decode cX10_init 146 = .ok (.iastore, 1) by decide +kernel) rfl, ?_⟩
  refine List.forall_mem_cons.mpr ⟨ok_putf C (wi_X10) tyX10 tyX10_ok nmX10 rfl (by decide) kw_327 (Or.inr ⟨rfl, cx_name C, rfl⟩) (Or.inr (Or.inr (Or.inl ⟨rfl, Or.inr ⟨_, rfl⟩⟩))) (show decode cX10_init 147 = .ok (.putfield 77, 3) by decide +kernel) rfl, ?_⟩
  refine List.forall_mem_cons.mpr ⟨ok_aload_n C (show decode cX10_init 150 = .ok (.aload_n 0, 1) by decide +kernel) rfl rfl, ?_⟩
  refine List.forall_mem_cons.mpr ⟨ok_new C (wi_X7) tyX7 tyX7_ok rfl kw_228 kw_229 kw_9 (df_X7 _) (show decode cX10_init 151 = .ok (.new 80, 3) by decide +kernel) rfl, ?_⟩
  refine List.forall_mem_cons.mpr ⟨ok_dup C (show decode cX10_init 154 = .ok (.dup, 1) by decide +kernel) rfl, ?_⟩
  refine List.forall_mem_cons.mpr ⟨ok_callIN C h_X7_init ⟨rfl, rfl⟩ i_X7_init kw_232 (host := "LackFerry") (by decide +kernel) kw_231 kw_9 rfl ds_X7_init ⟨by decide, by decide⟩ (show decode cX10_init 155 = .ok (.invokespecial 82, 3) by decide +kernel) rfl, ?_⟩
  refine List.forall_mem_cons.mpr ⟨ok_putf C (wi_X10) tyX10 tyX10_ok nmX10 rfl (by decide) kw_328 (Or.inl rfl) (Or.inr (Or.inr (Or.inl ⟨rfl, Or.inl ⟨_, rfl⟩⟩))) (show decode cX10_init 158 = .ok (.putfield 83, 3) by decide +kernel) rfl, ?_⟩
  refine List.forall_mem_cons.mpr ⟨ok_aload_n C (show decode cX10_init 161 = .ok (.aload_n 0, 1) by decide +kernel) rfl rfl, ?_⟩
  refine List.forall_mem_cons.mpr ⟨ok_new C (wi_X7) tyX7 tyX7_ok rfl kw_228 kw_229 kw_9 (df_X7 _) (show decode cX10_init 162 = .ok (.new 80, 3) by decide +kernel) rfl, ?_⟩
  refine List.forall_mem_cons.mpr ⟨ok_dup C (show decode cX10_init 165 = .ok (.dup, 1) by decide +kernel) rfl, ?_⟩
  refine List.forall_mem_cons.mpr ⟨ok_callIN C h_X7_init ⟨rfl, rfl⟩ i_X7_init kw_232 (host := "LackFerry") (by decide +kernel) kw_231 kw_9 rfl ds_X7_init ⟨by decide, by decide⟩ (show decode cX10_init 166 = .ok (.invokespecial 82, 3) by decide +kernel) rfl, ?_⟩
  refine List.forall_mem_cons.mpr ⟨ok_putf C (wi_X10) tyX10 tyX10_ok nmX10 rfl (by decide) kw_329 (Or.inl rfl) (Or.inr (Or.inr (Or.inl ⟨rfl, Or.inl ⟨_, rfl⟩⟩))) (show decode cX10_init 169 = .ok (.putfield 87, 3) by decide +kernel) rfl, ?_⟩
  refine List.forall_mem_cons.mpr ⟨ok_aload_n C (show decode cX10_init 172 = .ok (.aload_n 0, 1) by decide +kernel) rfl rfl, ?_⟩
  refine List.forall_mem_cons.mpr ⟨ok_new C (wi_X5) tyX5 tyX5_ok rfl kw_288 kw_289 kw_10 (df_X5 _) (show decode cX10_init 173 = .ok (.new 90, 3) by decide +kernel) rfl, ?_⟩
  refine List.forall_mem_cons.mpr ⟨ok_dup C (show decode cX10_init 176 = .ok (.dup, 1) by decide +kernel) rfl, ?_⟩
  refine List.forall_mem_cons.mpr ⟨ok_callIN C h_X5_init ⟨rfl, rfl⟩ i_X5_init kw_292 (host := "LackFerry") (by decide +kernel) kw_291 kw_10 rfl ds_X5_init ⟨by decide, by decide⟩ (show decode cX10_init 177 = .ok (.invokespecial 92, 3) by decide +kernel) rfl, ?_⟩
  refine List.forall_mem_cons.mpr ⟨ok_putf C (wi_X10) tyX10 tyX10_ok nmX10 rfl (by decide) kw_330 (Or.inl rfl) (Or.inr (Or.inr (Or.inl ⟨rfl, Or.inl ⟨_, rfl⟩⟩))) (show decode cX10_init 180 = .ok (.putfield 93, 3) by decide +kernel) rfl, ?_⟩
  refine List.forall_mem_cons.mpr ⟨ok_aload_n C (show decode cX10_init 183 = .ok (.aload_n 0, 1) by decide +kernel) rfl rfl, ?_⟩
  refine List.forall_mem_cons.mpr ⟨ok_new C (wi_X5) tyX5 tyX5_ok rfl kw_288 kw_289 kw_10 (df_X5 _) (show decode cX10_init 184 = .ok (.new 90, 3) by decide +kernel) rfl, ?_⟩
  refine List.forall_mem_cons.mpr ⟨ok_dup C (show decode cX10_init 187 = .ok (.dup, 1) by decide +kernel) rfl, ?_⟩
  refine List.forall_mem_cons.mpr ⟨ok_callIN C h_X5_init ⟨rfl, rfl⟩ i_X5_init kw_292 (host := "LackFerry") (by decide +kernel) kw_291 kw_10 rfl ds_X5_init ⟨by decide, by decide⟩ (show decode cX10_init 188 = .ok (.invokespecial 92, 3) by decide +kernel) rfl, ?_⟩
  refine List.forall_mem_cons.mpr ⟨ok_putf C (wi_X10) tyX10 tyX10_ok nmX10 rfl (by decide) kw_331 (Or.inl rfl) (Or.inr (Or.inr (Or.inl ⟨rfl, Or.inl ⟨_, rfl⟩⟩))) (show decode cX10_init 191 = .ok (.putfield 97, 3) by decide +kernel) rfl, ?_⟩
  refine List.forall_mem_cons.mpr ⟨ok_vret C rfl (show decode cX10_init 194 = .ok (.return_, 1) by decide +kernel), ?_⟩
  exact fun _ h => absurd h List.not_mem_nil
def L_X10_feed (f_X8_put : List Value → ab_H → Option ab_O) : List (Nat × ab_A) := [
  (0, ab_nx 1 (ab_aload 0)),
  (1, ab_nx 4 (ab_getf 10 0)),
  (4, ab_nx 7 (ab_getf 8 1)),
  (7, ab_nx 9 (ab_lit (.int 20))),
  (9, ab_nx 10 (ab_bin (fun x y => x + y))),
  (10, ab_nx 13 (ab_lit (.int 940))),
  (13, ab_icmp 16 18 (fun x y => decide (x ≤ y))),
  (16, ab_nx 17 (ab_lit (.int (-1)))),
  (17, ab_ret 0 0),
  (18, ab_nx 19 (ab_aload 0)),
  (19, ab_nx 22 (ab_getf 10 0)),
  (22, ab_nx 23 (ab_iload 1)),
  (23, ab_nx 26 (ab_callV 2 8 f_X8_put 0 0 0 0)),
  (26, ab_nx 27 (ab_aload 0)),
  (27, ab_nx 30 (ab_getf 10 0)),
  (30, ab_nx 31 (ab_iload 2)),
  (31, ab_nx 34 (ab_callV 2 8 f_X8_put 0 0 0 0)),
  (34, ab_nx 35 (ab_aload 0)),
  (35, ab_nx 38 (ab_getf 10 0)),
  (38, ab_nx 39 (ab_iload 3)),
  (39, ab_nx 42 (ab_callV 2 8 f_X8_put 0 0 0 0)),
  (42, ab_nx 43 (ab_aload 0)),
  (43, ab_nx 46 (ab_getf 10 0)),
  (46, ab_nx 48 (ab_iload 4)),
  (48, ab_nx 51 (ab_callV 2 8 f_X8_put 0 0 0 0)),
  (51, ab_nx 52 (ab_aload 0)),
  (52, ab_nx 55 (ab_getf 10 0)),
  (55, ab_nx 57 (ab_iload 5)),
  (57, ab_nx 60 (ab_callV 2 8 f_X8_put 0 0 0 0)),
  (60, ab_nx 61 (ab_aload 0)),
  (61, ab_nx 64 (ab_getf 10 0)),
  (64, ab_nx 67 (ab_getf 8 1)),
  (67, ab_ret 0 0)]
set_option maxRecDepth 100000 in
set_option maxHeartbeats 4000000 in
theorem M_X10_feed {l : Launch} {b : ab_B} {D : va_G} {cA : Nat → ClassId} {f_X8_put : List Value → ab_H → Option ab_O} (h_X8_put : ab_M l b D ab_cl cA (ab_E0 b) yX8_put (Cond.code yX8_put cX8_put 3 none :: ab_G) ({ frames := 1, cells := 0, slots := 0, locals := 100 } : Room) f_X8_put) : ab_M l b D ab_cl cA (ab_E0 b) yX10_feed (Cond.code yX10_feed cX10_feed 6 (some .int) :: ab_G) ({ frames := 2, cells := 0, slots := 0, locals := 200 } : Room) (ab_X (ab_T (L_X10_feed f_X8_put)) 6) := by
  refine ab_meth (ret := (some .int)) (L_X10_feed f_X8_put) (by decide) rfl fun p e R s m args below meth c o C => ?_
  unfold L_X10_feed
  refine List.forall_mem_cons.mpr ⟨ok_aload_n C (show decode cX10_feed 0 = .ok (.aload_n 0, 1) by decide +kernel) rfl rfl, ?_⟩
  refine List.forall_mem_cons.mpr ⟨ok_getf C (wi_X10) rfl (by decide) kw_315 (show decode cX10_feed 1 = .ok (.getfield 12, 3) by decide +kernel) rfl, ?_⟩
  refine List.forall_mem_cons.mpr ⟨ok_getf C (wi_X8) rfl (by decide) kw_39 (show decode cX10_feed 4 = .ok (.getfield 100, 3) by decide +kernel) rfl, ?_⟩
  refine List.forall_mem_cons.mpr ⟨ok_bipush C (show decode cX10_feed 7 = .ok (.bipush 20, 2) by decide +kernel) (by decide) rfl, ?_⟩
  refine List.forall_mem_cons.mpr ⟨ok_iadd C (show decode cX10_feed 9 = .ok (.iadd, 1) by decide +kernel) rfl, ?_⟩
  refine List.forall_mem_cons.mpr ⟨ok_sipush C (show decode cX10_feed 10 = .ok (.sipush 940, 3) by decide +kernel) (by decide) rfl, ?_⟩
  refine List.forall_mem_cons.mpr ⟨ok_icmple C (show decode cX10_feed 13 = .ok (.if_icmp .le 5, 3) by decide +kernel) (tg := 18) (by decide) rfl rfl, ?_⟩
  refine List.forall_mem_cons.mpr ⟨ok_iconst C (show decode cX10_feed 16 = .ok (.iconst (-1), 1) by decide +kernel) (by decide) rfl, ?_⟩
  refine List.forall_mem_cons.mpr ⟨ok_ret C rfl (show decode cX10_feed 17 = .ok (.ireturn, 1) by decide +kernel), ?_⟩
  refine List.forall_mem_cons.mpr ⟨ok_aload_n C (show decode cX10_feed 18 = .ok (.aload_n 0, 1) by decide +kernel) rfl rfl, ?_⟩
  refine List.forall_mem_cons.mpr ⟨ok_getf C (wi_X10) rfl (by decide) kw_315 (show decode cX10_feed 19 = .ok (.getfield 12, 3) by decide +kernel) rfl, ?_⟩
  refine List.forall_mem_cons.mpr ⟨ok_iload_n C (show decode cX10_feed 22 = .ok (.iload_n 1, 1) by decide +kernel) rfl rfl, ?_⟩
  refine List.forall_mem_cons.mpr ⟨ok_callV C h_X8_put ⟨rfl, rfl⟩ rfl kw_380 kw_377 kw_378 kw_379 kw_2 rfl ds_X8_put ⟨by decide, by decide⟩ (show decode cX10_feed 23 = .ok (.invokevirtual 104, 3) by decide +kernel) rfl, ?_⟩
  refine List.forall_mem_cons.mpr ⟨ok_aload_n C (show decode cX10_feed 26 = .ok (.aload_n 0, 1) by decide +kernel) rfl rfl, ?_⟩
  refine List.forall_mem_cons.mpr ⟨ok_getf C (wi_X10) rfl (by decide) kw_315 (show decode cX10_feed 27 = .ok (.getfield 12, 3) by decide +kernel) rfl, ?_⟩
  refine List.forall_mem_cons.mpr ⟨ok_iload_n C (show decode cX10_feed 30 = .ok (.iload_n 2, 1) by decide +kernel) rfl rfl, ?_⟩
  refine List.forall_mem_cons.mpr ⟨ok_callV C h_X8_put ⟨rfl, rfl⟩ rfl kw_380 kw_377 kw_378 kw_379 kw_2 rfl ds_X8_put ⟨by decide, by decide⟩ (show decode cX10_feed 31 = .ok (.invokevirtual 104, 3) by decide +kernel) rfl, ?_⟩
  refine List.forall_mem_cons.mpr ⟨ok_aload_n C (show decode cX10_feed 34 = .ok (.aload_n 0, 1) by decide +kernel) rfl rfl, ?_⟩
  refine List.forall_mem_cons.mpr ⟨ok_getf C (wi_X10) rfl (by decide) kw_315 (show decode cX10_feed 35 = .ok (.getfield 12, 3) by decide +kernel) rfl, ?_⟩
  refine List.forall_mem_cons.mpr ⟨ok_iload_n C (show decode cX10_feed 38 = .ok (.iload_n 3, 1) by decide +kernel) rfl rfl, ?_⟩
  refine List.forall_mem_cons.mpr ⟨ok_callV C h_X8_put ⟨rfl, rfl⟩ rfl kw_380 kw_377 kw_378 kw_379 kw_2 rfl ds_X8_put ⟨by decide, by decide⟩ (show decode cX10_feed 39 = .ok (.invokevirtual 104, 3) by decide +kernel) rfl, ?_⟩
  refine List.forall_mem_cons.mpr ⟨ok_aload_n C (show decode cX10_feed 42 = .ok (.aload_n 0, 1) by decide +kernel) rfl rfl, ?_⟩
  refine List.forall_mem_cons.mpr ⟨ok_getf C (wi_X10) rfl (by decide) kw_315 (show decode cX10_feed 43 = .ok (.getfield 12, 3) by decide +kernel) rfl, ?_⟩
  refine List.forall_mem_cons.mpr ⟨ok_iload C (show decode cX10_feed 46 = .ok (.iload 4, 2) by decide +kernel) rfl, ?_⟩
  refine List.forall_mem_cons.mpr ⟨ok_callV C h_X8_put ⟨rfl, rfl⟩ rfl kw_380 kw_377 kw_378 kw_379 kw_2 rfl ds_X8_put ⟨by decide, by decide⟩ (show decode cX10_feed 48 = .ok (.invokevirtual 104, 3) by decide +kernel) rfl, ?_⟩
  refine List.forall_mem_cons.mpr ⟨ok_aload_n C (show decode cX10_feed 51 = .ok (.aload_n 0, 1) by decide +kernel) rfl rfl, ?_⟩
  refine List.forall_mem_cons.mpr ⟨ok_getf C (wi_X10) rfl (by decide) kw_315 (show decode cX10_feed 52 = .ok (.getfield 12, 3) by decide +kernel) rfl, ?_⟩
  refine List.forall_mem_cons.mpr ⟨ok_iload C (show decode cX10_feed 55 = .ok (.iload 5, 2) by decide +kernel) rfl, ?_⟩
  refine List.forall_mem_cons.mpr ⟨ok_callV C h_X8_put ⟨rfl, rfl⟩ rfl kw_380 kw_377 kw_378 kw_379 kw_2 rfl ds_X8_put ⟨by decide, by decide⟩ (show decode cX10_feed 57 = .ok (.invokevirtual 104, 3) by decide +kernel) rfl, ?_⟩
  refine List.forall_mem_cons.mpr ⟨ok_aload_n C (show decode cX10_feed 60 = .ok (.aload_n 0, 1) by decide +kernel) rfl rfl, ?_⟩
  refine List.forall_mem_cons.mpr ⟨ok_getf C (wi_X10) rfl (by decide) kw_315 (show decode cX10_feed 61 = .ok (.getfield 12, 3) by decide +kernel) rfl, ?_⟩
  refine List.forall_mem_cons.mpr ⟨ok_getf C (wi_X8) rfl (by decide) kw_39 (show decode cX10_feed 64 = .ok (.getfield 100, 3) by decide +kernel) rfl, ?_⟩
  refine List.forall_mem_cons.mpr ⟨ok_ret C rfl (show decode cX10_feed 67 = .ok (.ireturn, 1) by decide +kernel), ?_⟩
  exact fun _ h => absurd h List.not_mem_nil
def L_X10_end : List (Nat × ab_A) := [
  (0, ab_nx 1 (ab_iload 1)),
  (1, ab_if 4 15 (fun x => decide (x < 0))),
  (4, ab_nx 5 (ab_iload 1)),
  (5, ab_nx 6 (ab_aload 0)),
  (6, ab_nx 9 (ab_getf 10 0)),
  (9, ab_nx 12 (ab_getf 8 1)),
  (12, ab_icmp 15 17 (fun x y => decide (x ≤ y))),
  (15, ab_nx 16 (ab_lit (.int 0))),
  (16, ab_zret 0 0),
  (17, ab_nx 18 (ab_aload 0)),
  (18, ab_nx 21 (ab_getf 10 0)),
  (21, ab_nx 22 (ab_iload 1)),
  (22, ab_nx 25 (ab_putf 8 1 0)),
  (25, ab_nx 26 (ab_lit (.int 1))),
  (26, ab_zret 0 0)]
set_option maxRecDepth 100000 in
set_option maxHeartbeats 4000000 in
theorem M_X10_end {l : Launch} {b : ab_B} {D : va_G} {cA : Nat → ClassId} : ab_M l b D ab_cl cA (ab_E0 b) yX10_end (Cond.code yX10_end cX10_end 2 (some .boolean) :: ab_G) ({ frames := 1, cells := 0, slots := 0, locals := 100 } : Room) (ab_X (ab_T L_X10_end) 2) := by
  refine ab_meth (ret := (some .boolean)) L_X10_end (by decide) rfl fun p e R s m args below meth c o C => ?_
  unfold L_X10_end
  refine List.forall_mem_cons.mpr ⟨ok_iload_n C (show decode cX10_end 0 = .ok (.iload_n 1, 1) by decide +kernel) rfl rfl, ?_⟩
  refine List.forall_mem_cons.mpr ⟨ok_iflt C (show decode cX10_end 1 = .ok (.ifCond .lt 14, 3) by decide +kernel) (tg := 15) (by decide) rfl rfl, ?_⟩
  refine List.forall_mem_cons.mpr ⟨ok_iload_n C (show decode cX10_end 4 = .ok (.iload_n 1, 1) by decide +kernel) rfl rfl, ?_⟩
  refine List.forall_mem_cons.mpr ⟨ok_aload_n C (show decode cX10_end 5 = .ok (.aload_n 0, 1) by decide +kernel) rfl rfl, ?_⟩
  refine List.forall_mem_cons.mpr ⟨ok_getf C (wi_X10) rfl (by decide) kw_315 (show decode cX10_end 6 = .ok (.getfield 12, 3) by decide +kernel) rfl, ?_⟩
  refine List.forall_mem_cons.mpr ⟨ok_getf C (wi_X8) rfl (by decide) kw_39 (show decode cX10_end 9 = .ok (.getfield 100, 3) by decide +kernel) rfl, ?_⟩
  refine List.forall_mem_cons.mpr ⟨ok_icmple C (show decode cX10_end 12 = .ok (.if_icmp .le 5, 3) by decide +kernel) (tg := 17) (by decide) rfl rfl, ?_⟩
  refine List.forall_mem_cons.mpr ⟨ok_iconst C (show decode cX10_end 15 = .ok (.iconst 0, 1) by decide +kernel) (by decide) rfl, ?_⟩
  refine List.forall_mem_cons.mpr ⟨ok_zret C rfl (show decode cX10_end 16 = .ok (.ireturn, 1) by decide +kernel), ?_⟩
  refine List.forall_mem_cons.mpr ⟨ok_aload_n C (show decode cX10_end 17 = .ok (.aload_n 0, 1) by decide +kernel) rfl rfl, ?_⟩
  refine List.forall_mem_cons.mpr ⟨ok_getf C (wi_X10) rfl (by decide) kw_315 (show decode cX10_end 18 = .ok (.getfield 12, 3) by decide +kernel) rfl, ?_⟩
  refine List.forall_mem_cons.mpr ⟨ok_iload_n C (show decode cX10_end 21 = .ok (.iload_n 1, 1) by decide +kernel) rfl rfl, ?_⟩
  refine List.forall_mem_cons.mpr ⟨ok_putf C (wi_X8) tyX8 tyX8_ok nmX8 rfl (by decide) kw_39 (Or.inl rfl) (Or.inl ⟨rfl, rfl⟩) (show decode cX10_end 22 = .ok (.putfield 100, 3) by decide +kernel) rfl, ?_⟩
  refine List.forall_mem_cons.mpr ⟨ok_iconst C (show decode cX10_end 25 = .ok (.iconst 1, 1) by decide +kernel) (by decide) rfl, ?_⟩
  refine List.forall_mem_cons.mpr ⟨ok_zret C rfl (show decode cX10_end 26 = .ok (.ireturn, 1) by decide +kernel), ?_⟩
  exact fun _ h => absurd h List.not_mem_nil
def L_X10_strait (f_X8_moveInto : List Value → ab_H → Option ab_O) (f_X7_readText : List Value → ab_H → Option ab_O) (f_X6_beginAs : List Value → ab_H → Option ab_O) (f_X2_forget : List Value → ab_H → Option ab_O) : List (Nat × ab_A) := [
  (0, ab_nx 1 (ab_aload 0)),
  (1, ab_nx 4 (ab_getf 10 0)),
  (4, ab_nx 5 (ab_aload 0)),
  (5, ab_nx 8 (ab_getf 10 1)),
  (8, ab_nx 11 (ab_lit (.int 900))),
  (11, ab_nx 14 (ab_callV 3 8 f_X8_moveInto 0 0 0 0)),
  (14, ab_nx 15 (ab_aload 0)),
  (15, ab_nx 18 (ab_getf 10 14)),
  (18, ab_nx 19 (ab_aload 0)),
  (19, ab_nx 22 (ab_getf 10 1)),
  (22, ab_nx 25 (ab_callV 2 7 f_X7_readText 0 0 0 0)),
  (25, ab_nx 26 (ab_istore 1)),
  (26, ab_nx 27 (ab_aload 0)),
  (27, ab_nx 28 (ab_aload 0)),
  (28, ab_nx 31 (ab_getf 10 1)),
  (31, ab_nx 34 (ab_getf 9 9)),
  (34, ab_nx 37 (ab_putf 10 18 0)),
  (37, ab_nx 38 (ab_aload 0)),
  (38, ab_nx 41 (ab_getf 10 18)),
  (41, ab_if 44 54 (fun x => decide (x = 0))),
  (44, ab_nx 45 (ab_lit (.int (-1)))),
  (45, ab_nx 46 (ab_aload 0)),
  (46, ab_nx 49 (ab_getf 10 1)),
  (49, ab_nx 52 (ab_getf 9 6)),
  (52, ab_nx 53 (ab_bin (fun x y => x - y))),
  (53, ab_ret 0 0),
  (54, ab_nx 55 (ab_aload 0)),
  (55, ab_nx 58 (ab_getf 10 13)),
  (58, ab_nx 59 (ab_astore 2)),
  (59, ab_nx 60 (ab_aload 0)),
  (60, ab_nx 61 (ab_aload 0)),
  (61, ab_nx 64 (ab_getf 10 14)),
  (64, ab_nx 67 (ab_putf 10 13 2)),
  (67, ab_nx 68 (ab_aload 0)),
  (68, ab_nx 69 (ab_aload 2)),
  (69, ab_nx 72 (ab_putf 10 14 2)),
  (72, ab_nx 73 (ab_aload 0)),
  (73, ab_nx 76 (ab_getf 10 4)),
  (76, ab_nx 77 (ab_aload 0)),
  (77, ab_nx 80 (ab_getf 10 13)),
  (80, ab_nx 83 (ab_callV 2 6 f_X6_beginAs 0 0 0 0)),
  (83, ab_nx 84 (ab_aload 0)),
  (84, ab_nx 87 (ab_getf 10 15)),
  (87, ab_nx 88 (ab_lit (.int 0))),
  (88, ab_nx 91 (ab_putf 5 5 3)),
  (91, ab_nx 92 (ab_aload 0)),
  (92, ab_nx 95 (ab_getf 10 3)),
  (95, ab_nx 98 (ab_callV 1 2 f_X2_forget 0 0 0 0)),
  (98, ab_nx 99 (ab_iload 1)),
  (99, ab_ret 0 0)]
set_option maxRecDepth 100000 in
set_option maxHeartbeats 4000000 in
theorem M_X10_strait {l : Launch} {b : ab_B} {D : va_G} {cA : Nat → ClassId} {f_X8_moveInto : List Value → ab_H → Option ab_O} (h_X8_moveInto : ab_M l b D ab_cl cA (ab_E0 b) yX8_moveInto (Cond.code yX8_moveInto cX8_moveInto 5 none :: ab_G) ({ frames := 9, cells := 0, slots := 0, locals := 900 } : Room) f_X8_moveInto) {f_X7_readText : List Value → ab_H → Option ab_O} (h_X7_readText : ab_M l b D ab_cl cA (ab_E0 b) yX7_readText (Cond.code yX7_readText cX7_readText 3 (some .int) :: ab_G) ({ frames := 6, cells := 0, slots := 0, locals := 600 } : Room) f_X7_readText) {f_X6_beginAs : List Value → ab_H → Option ab_O} (h_X6_beginAs : ab_M l b D ab_cl cA (ab_E0 b) yX6_beginAs (Cond.code yX6_beginAs cX6_beginAs 3 none :: ab_G) ({ frames := 2, cells := 0, slots := 0, locals := 200 } : Room) f_X6_beginAs) {f_X2_forget : List Value → ab_H → Option ab_O} (h_X2_forget : ab_M l b D ab_cl cA (ab_E0 b) yX2_forget (Cond.code yX2_forget cX2_forget 1 none :: ab_G) ({ frames := 1, cells := 0, slots := 0, locals := 100 } : Room) f_X2_forget) : ab_M l b D ab_cl cA (ab_E0 b) yX10_strait (Cond.code yX10_strait cX10_strait 3 (some .int) :: ab_G) ({ frames := 10, cells := 0, slots := 0, locals := 1000 } : Room) (ab_X (ab_T (L_X10_strait f_X8_moveInto f_X7_readText f_X6_beginAs f_X2_forget)) 3) := by
  refine ab_meth (ret := (some .int)) (L_X10_strait f_X8_moveInto f_X7_readText f_X6_beginAs f_X2_forget) (by decide) rfl fun p e R s m args below meth c o C => ?_
  unfold L_X10_strait
  refine List.forall_mem_cons.mpr ⟨ok_aload_n C (show decode cX10_strait 0 = .ok (.aload_n 0, 1) by decide +kernel) rfl rfl, ?_⟩
  refine List.forall_mem_cons.mpr ⟨ok_getf C (wi_X10) rfl (by decide) kw_315 (show decode cX10_strait 1 = .ok (.getfield 12, 3) by decide +kernel) rfl, ?_⟩
  refine List.forall_mem_cons.mpr ⟨ok_aload_n C (show decode cX10_strait 4 = .ok (.aload_n 0, 1) by decide +kernel) rfl rfl, ?_⟩
  refine List.forall_mem_cons.mpr ⟨ok_getf C (wi_X10) rfl (by decide) kw_316 (show decode cX10_strait 5 = .ok (.getfield 19, 3) by decide +kernel) rfl, ?_⟩
  refine List.forall_mem_cons.mpr ⟨ok_sipush C (show decode cX10_strait 8 = .ok (.sipush 900, 3) by decide +kernel) (by decide) rfl, ?_⟩
  refine List.forall_mem_cons.mpr ⟨ok_callV C h_X8_moveInto ⟨rfl, rfl⟩ rfl kw_392 kw_389 kw_390 kw_391 kw_2 rfl ds_X8_moveInto ⟨by decide, by decide⟩ (show decode cX10_strait 11 = .ok (.invokevirtual 108, 3) by decide +kernel) rfl, ?_⟩
  refine List.forall_mem_cons.mpr ⟨ok_aload_n C (show decode cX10_strait 14 = .ok (.aload_n 0, 1) by decide +kernel) rfl rfl, ?_⟩
  refine List.forall_mem_cons.mpr ⟨ok_getf C (wi_X10) rfl (by decide) kw_329 (show decode cX10_strait 15 = .ok (.getfield 87, 3) by decide +kernel) rfl, ?_⟩
  refine List.forall_mem_cons.mpr ⟨ok_aload_n C (show decode cX10_strait 18 = .ok (.aload_n 0, 1) by decide +kernel) rfl rfl, ?_⟩
  refine List.forall_mem_cons.mpr ⟨ok_getf C (wi_X10) rfl (by decide) kw_316 (show decode cX10_strait 19 = .ok (.getfield 19, 3) by decide +kernel) rfl, ?_⟩
  refine List.forall_mem_cons.mpr ⟨ok_callV C h_X7_readText ⟨rfl, rfl⟩ rfl kw_491 kw_488 kw_489 kw_490 kw_9 rfl ds_X7_readText ⟨by decide, by decide⟩ (show decode cX10_strait 22 = .ok (.invokevirtual 112, 3) by decide +kernel) rfl, ?_⟩
  refine List.forall_mem_cons.mpr ⟨ok_istore_n C (show decode cX10_strait 25 = .ok (.istore_n 1, 1) by decide +kernel) rfl (by decide) rfl, ?_⟩
  refine List.forall_mem_cons.mpr ⟨ok_aload_n C (show decode cX10_strait 26 = .ok (.aload_n 0, 1) by decide +kernel) rfl rfl, ?_⟩
  refine List.forall_mem_cons.mpr ⟨ok_aload_n C (show decode cX10_strait 27 = .ok (.aload_n 0, 1) by decide +kernel) rfl rfl, ?_⟩
  refine List.forall_mem_cons.mpr ⟨ok_getf C (wi_X10) rfl (by decide) kw_316 (show decode cX10_strait 28 = .ok (.getfield 19, 3) by decide +kernel) rfl, ?_⟩
  refine List.forall_mem_cons.mpr ⟨ok_getf C (wi_X9) rfl (by decide) kw_75 (show decode cX10_strait 31 = .ok (.getfield 116, 3) by decide +kernel) rfl, ?_⟩
  refine List.forall_mem_cons.mpr ⟨ok_putf C (wi_X10) tyX10 tyX10_ok nmX10 rfl (by decide) kw_333 (Or.inl rfl) (Or.inl ⟨rfl, rfl⟩) (show decode cX10_strait 34 = .ok (.putfield 119, 3) by decide +kernel) rfl, ?_⟩
  refine List.forall_mem_cons.mpr ⟨ok_aload_n C (show decode cX10_strait 37 = .ok (.aload_n 0, 1) by decide +kernel) rfl rfl, ?_⟩
  refine List.forall_mem_cons.mpr ⟨ok_getf C (wi_X10) rfl (by decide) kw_333 (show decode cX10_strait 38 = .ok (.getfield 119, 3) by decide +kernel) rfl, ?_⟩
  refine List.forall_mem_cons.mpr ⟨ok_ifeq C (show decode cX10_strait 41 = .ok (.ifCond .eq 13, 3) by decide +kernel) (tg := 54) (by decide) rfl rfl, ?_⟩
  refine List.forall_mem_cons.mpr ⟨ok_iconst C (show decode cX10_strait 44 = .ok (.iconst (-1), 1) by decide +kernel) (by decide) rfl, ?_⟩
  refine List.forall_mem_cons.mpr ⟨ok_aload_n C (show decode cX10_strait 45 = .ok (.aload_n 0, 1) by decide +kernel) rfl rfl, ?_⟩
  refine List.forall_mem_cons.mpr ⟨ok_getf C (wi_X10) rfl (by decide) kw_316 (show decode cX10_strait 46 = .ok (.getfield 19, 3) by decide +kernel) rfl, ?_⟩
  refine List.forall_mem_cons.mpr ⟨ok_getf C (wi_X9) rfl (by decide) kw_65 (show decode cX10_strait 49 = .ok (.getfield 122, 3) by decide +kernel) rfl, ?_⟩
  refine List.forall_mem_cons.mpr ⟨ok_isub C (show decode cX10_strait 52 = .ok (.isub, 1) by decide +kernel) rfl, ?_⟩
  refine List.forall_mem_cons.mpr ⟨ok_ret C rfl (show decode cX10_strait 53 = .ok (.ireturn, 1) by decide +kernel), ?_⟩
  refine List.forall_mem_cons.mpr ⟨ok_aload_n C (show decode cX10_strait 54 = .ok (.aload_n 0, 1) by decide +kernel) rfl rfl, ?_⟩
  refine List.forall_mem_cons.mpr ⟨ok_getf C (wi_X10) rfl (by decide) kw_328 (show decode cX10_strait 55 = .ok (.getfield 83, 3) by decide +kernel) rfl, ?_⟩
  refine List.forall_mem_cons.mpr ⟨ok_astore_n C (show decode cX10_strait 58 = .ok (.astore_n 2, 1) by decide +kernel) rfl (by decide) rfl, ?_⟩
  refine List.forall_mem_cons.mpr ⟨ok_aload_n C (show decode cX10_strait 59 = .ok (.aload_n 0, 1) by decide +kernel) rfl rfl, ?_⟩
  refine List.forall_mem_cons.mpr ⟨ok_aload_n C (show decode cX10_strait 60 = .ok (.aload_n 0, 1) by decide +kernel) rfl rfl, ?_⟩
  refine List.forall_mem_cons.mpr ⟨ok_getf C (wi_X10) rfl (by decide) kw_329 (show decode cX10_strait 61 = .ok (.getfield 87, 3) by decide +kernel) rfl, ?_⟩
  refine List.forall_mem_cons.mpr ⟨ok_putf C (wi_X10) tyX10 tyX10_ok nmX10 rfl (by decide) kw_328 (Or.inl rfl) (Or.inr (Or.inr (Or.inl ⟨rfl, Or.inl ⟨_, rfl⟩⟩))) (show decode cX10_strait 64 = .ok (.putfield 83, 3) by decide +kernel) rfl, ?_⟩
  refine List.forall_mem_cons.mpr ⟨ok_aload_n C (show decode cX10_strait 67 = .ok (.aload_n 0, 1) by decide +kernel) rfl rfl, ?_⟩
  refine List.forall_mem_cons.mpr ⟨ok_aload_n C (show decode cX10_strait 68 = .ok (.aload_n 2, 1) by decide +kernel) rfl rfl, ?_⟩
  refine List.forall_mem_cons.mpr ⟨ok_putf C (wi_X10) tyX10 tyX10_ok nmX10 rfl (by decide) kw_329 (Or.inl rfl) (Or.inr (Or.inr (Or.inl ⟨rfl, Or.inl ⟨_, rfl⟩⟩))) (show decode cX10_strait 69 = .ok (.putfield 87, 3) by decide +kernel) rfl, ?_⟩
  refine List.forall_mem_cons.mpr ⟨ok_aload_n C (show decode cX10_strait 72 = .ok (.aload_n 0, 1) by decide +kernel) rfl rfl, ?_⟩
  refine List.forall_mem_cons.mpr ⟨ok_getf C (wi_X10) rfl (by decide) kw_319 (show decode cX10_strait 73 = .ok (.getfield 40, 3) by decide +kernel) rfl, ?_⟩
  refine List.forall_mem_cons.mpr ⟨ok_aload_n C (show decode cX10_strait 76 = .ok (.aload_n 0, 1) by decide +kernel) rfl rfl, ?_⟩
  refine List.forall_mem_cons.mpr ⟨ok_getf C (wi_X10) rfl (by decide) kw_328 (show decode cX10_strait 77 = .ok (.getfield 83, 3) by decide +kernel) rfl, ?_⟩
  refine List.forall_mem_cons.mpr ⟨ok_callV C h_X6_beginAs ⟨rfl, rfl⟩ rfl kw_572 kw_569 kw_570 kw_571 kw_6 rfl ds_X6_beginAs ⟨by decide, by decide⟩ (show decode cX10_strait 80 = .ok (.invokevirtual 125, 3) by decide +kernel) rfl, ?_⟩
  refine List.forall_mem_cons.mpr ⟨ok_aload_n C (show decode cX10_strait 83 = .ok (.aload_n 0, 1) by decide +kernel) rfl rfl, ?_⟩
  refine List.forall_mem_cons.mpr ⟨ok_getf C (wi_X10) rfl (by decide) kw_330 (show decode cX10_strait 84 = .ok (.getfield 93, 3) by decide +kernel) rfl, ?_⟩
  refine List.forall_mem_cons.mpr ⟨ok_iconst C (show decode cX10_strait 87 = .ok (.iconst 0, 1) by decide +kernel) (by decide) rfl, ?_⟩
  refine List.forall_mem_cons.mpr ⟨ok_putf C (wi_X5) tyX5 tyX5_ok nmX5 rfl (by decide) kw_301 (Or.inl rfl) (Or.inr (Or.inr (Or.inr ⟨rfl, rfl⟩))) (show decode cX10_strait 88 = .ok (.putfield 129, 3) by decide +kernel) rfl, ?_⟩
  refine List.forall_mem_cons.mpr ⟨ok_aload_n C (show decode cX10_strait 91 = .ok (.aload_n 0, 1) by decide +kernel) rfl rfl, ?_⟩
  refine List.forall_mem_cons.mpr ⟨ok_getf C (wi_X10) rfl (by decide) kw_318 (show decode cX10_strait 92 = .ok (.getfield 33, 3) by decide +kernel) rfl, ?_⟩
  refine List.forall_mem_cons.mpr ⟨ok_callV C h_X2_forget ⟨rfl, rfl⟩ rfl kw_580 kw_577 kw_578 kw_579 kw_5 rfl ds_X2_forget ⟨by decide, by decide⟩ (show decode cX10_strait 95 = .ok (.invokevirtual 133, 3) by decide +kernel) rfl, ?_⟩
  refine List.forall_mem_cons.mpr ⟨ok_iload_n C (show decode cX10_strait 98 = .ok (.iload_n 1, 1) by decide +kernel) rfl rfl, ?_⟩
  refine List.forall_mem_cons.mpr ⟨ok_ret C rfl (show decode cX10_strait 99 = .ok (.ireturn, 1) by decide +kernel), ?_⟩
  exact fun _ h => absurd h List.not_mem_nil
def L_X10_fault : List (Nat × ab_A) := [
  (0, ab_nx 1 (ab_aload 0)),
  (1, ab_nx 4 (ab_getf 10 18)),
  (4, ab_ret 0 0)]
set_option maxRecDepth 100000 in
set_option maxHeartbeats 4000000 in
theorem M_X10_fault {l : Launch} {b : ab_B} {D : va_G} {cA : Nat → ClassId} : ab_M l b D ab_cl cA (ab_E0 b) yX10_fault (Cond.code yX10_fault cX10_fault 1 (some .int) :: ab_G) ({ frames := 1, cells := 0, slots := 0, locals := 100 } : Room) (ab_X (ab_T L_X10_fault) 1) := by
  refine ab_meth (ret := (some .int)) L_X10_fault (by decide) rfl fun p e R s m args below meth c o C => ?_
  unfold L_X10_fault
  refine List.forall_mem_cons.mpr ⟨ok_aload_n C (show decode cX10_fault 0 = .ok (.aload_n 0, 1) by decide +kernel) rfl rfl, ?_⟩
  refine List.forall_mem_cons.mpr ⟨ok_getf C (wi_X10) rfl (by decide) kw_333 (show decode cX10_fault 1 = .ok (.getfield 119, 3) by decide +kernel) rfl, ?_⟩
  refine List.forall_mem_cons.mpr ⟨ok_ret C rfl (show decode cX10_fault 4 = .ok (.ireturn, 1) by decide +kernel), ?_⟩
  exact fun _ h => absurd h List.not_mem_nil
def L_X10_isGood : List (Nat × ab_A) := [
  (0, ab_nx 1 (ab_iload 1)),
  (1, ab_if 4 19 (fun x => decide (x < 0))),
  (4, ab_nx 5 (ab_iload 1)),
  (5, ab_nx 6 (ab_aload 0)),
  (6, ab_nx 9 (ab_getf 10 13)),
  (9, ab_nx 12 (ab_getf 7 8)),
  (12, ab_icmp 15 19 (fun x y => decide (y ≤ x))),
  (15, ab_nx 16 (ab_lit (.int 1))),
  (16, ab_goto 20),
  (19, ab_nx 20 (ab_lit (.int 0))),
  (20, ab_zret 0 0)]
set_option maxRecDepth 100000 in
set_option maxHeartbeats 4000000 in
theorem M_X10_isGood {l : Launch} {b : ab_B} {D : va_G} {cA : Nat → ClassId} : ab_M l b D ab_cl cA (ab_E0 b) yX10_isGood (Cond.code yX10_isGood cX10_isGood 2 (some .boolean) :: ab_G) ({ frames := 1, cells := 0, slots := 0, locals := 100 } : Room) (ab_X (ab_T L_X10_isGood) 2) := by
  refine ab_meth (ret := (some .boolean)) L_X10_isGood (by decide) rfl fun p e R s m args below meth c o C => ?_
  unfold L_X10_isGood
  refine List.forall_mem_cons.mpr ⟨ok_iload_n C (show decode cX10_isGood 0 = .ok (.iload_n 1, 1) by decide +kernel) rfl rfl, ?_⟩
  refine List.forall_mem_cons.mpr ⟨ok_iflt C (show decode cX10_isGood 1 = .ok (.ifCond .lt 18, 3) by decide +kernel) (tg := 19) (by decide) rfl rfl, ?_⟩
  refine List.forall_mem_cons.mpr ⟨ok_iload_n C (show decode cX10_isGood 4 = .ok (.iload_n 1, 1) by decide +kernel) rfl rfl, ?_⟩
  refine List.forall_mem_cons.mpr ⟨ok_aload_n C (show decode cX10_isGood 5 = .ok (.aload_n 0, 1) by decide +kernel) rfl rfl, ?_⟩
  refine List.forall_mem_cons.mpr ⟨ok_getf C (wi_X10) rfl (by decide) kw_328 (show decode cX10_isGood 6 = .ok (.getfield 83, 3) by decide +kernel) rfl, ?_⟩
  refine List.forall_mem_cons.mpr ⟨ok_getf C (wi_X7) rfl (by decide) kw_250 (show decode cX10_isGood 9 = .ok (.getfield 136, 3) by decide +kernel) rfl, ?_⟩
  refine List.forall_mem_cons.mpr ⟨ok_icmpge C (show decode cX10_isGood 12 = .ok (.if_icmp .ge 7, 3) by decide +kernel) (tg := 19) (by decide) rfl rfl, ?_⟩
  refine List.forall_mem_cons.mpr ⟨ok_iconst C (show decode cX10_isGood 15 = .ok (.iconst 1, 1) by decide +kernel) (by decide) rfl, ?_⟩
  refine List.forall_mem_cons.mpr ⟨ok_goto C (show decode cX10_isGood 16 = .ok (.goto 4, 3) by decide +kernel) (tg := 20) (by decide) rfl, ?_⟩
  refine List.forall_mem_cons.mpr ⟨ok_iconst C (show decode cX10_isGood 19 = .ok (.iconst 0, 1) by decide +kernel) (by decide) rfl, ?_⟩
  refine List.forall_mem_cons.mpr ⟨ok_zret C rfl (show decode cX10_isGood 20 = .ok (.ireturn, 1) by decide +kernel), ?_⟩
  exact fun _ h => absurd h List.not_mem_nil
def L_X10_isShore : List (Nat × ab_A) := [
  (0, ab_nx 1 (ab_iload 0)),
  (1, ab_if 4 9 (fun x => decide (x = 0))),
  (4, ab_nx 5 (ab_iload 0)),
  (5, ab_nx 6 (ab_lit (.int 1))),
  (6, ab_icmp 9 13 (fun x y => !decide (x = y))),
  (9, ab_nx 10 (ab_lit (.int 1))),
  (10, ab_goto 14),
  (13, ab_nx 14 (ab_lit (.int 0))),
  (14, ab_zret 0 0)]
set_option maxRecDepth 100000 in
set_option maxHeartbeats 4000000 in
theorem M_X10_isShore {l : Launch} {b : ab_B} {D : va_G} {cA : Nat → ClassId} : ab_M l b D ab_cl cA (ab_E0 b) yX10_isShore (Cond.code yX10_isShore cX10_isShore 1 (some .boolean) :: ab_G) ({ frames := 1, cells := 0, slots := 0, locals := 100 } : Room) (ab_X (ab_T L_X10_isShore) 1) := by
  refine ab_meth (ret := (some .boolean)) L_X10_isShore (by decide) rfl fun p e R s m args below meth c o C => ?_
  unfold L_X10_isShore
  refine List.forall_mem_cons.mpr ⟨ok_iload_n C (show decode cX10_isShore 0 = .ok (.iload_n 0, 1) by decide +kernel) rfl rfl, ?_⟩
  refine List.forall_mem_cons.mpr ⟨ok_ifeq C (show decode cX10_isShore 1 = .ok (.ifCond .eq 8, 3) by decide +kernel) (tg := 9) (by decide) rfl rfl, ?_⟩
  refine List.forall_mem_cons.mpr ⟨ok_iload_n C (show decode cX10_isShore 4 = .ok (.iload_n 0, 1) by decide +kernel) rfl rfl, ?_⟩
  refine List.forall_mem_cons.mpr ⟨ok_iconst C (show decode cX10_isShore 5 = .ok (.iconst 1, 1) by decide +kernel) (by decide) rfl, ?_⟩
  refine List.forall_mem_cons.mpr ⟨ok_icmpne C (show decode cX10_isShore 6 = .ok (.if_icmp .ne 7, 3) by decide +kernel) (tg := 13) (by decide) rfl rfl, ?_⟩
  refine List.forall_mem_cons.mpr ⟨ok_iconst C (show decode cX10_isShore 9 = .ok (.iconst 1, 1) by decide +kernel) (by decide) rfl, ?_⟩
  refine List.forall_mem_cons.mpr ⟨ok_goto C (show decode cX10_isShore 10 = .ok (.goto 4, 3) by decide +kernel) (tg := 14) (by decide) rfl, ?_⟩
  refine List.forall_mem_cons.mpr ⟨ok_iconst C (show decode cX10_isShore 13 = .ok (.iconst 0, 1) by decide +kernel) (by decide) rfl, ?_⟩
  refine List.forall_mem_cons.mpr ⟨ok_zret C rfl (show decode cX10_isShore 14 = .ok (.ireturn, 1) by decide +kernel), ?_⟩
  exact fun _ h => absurd h List.not_mem_nil
def L_X10_isSlot (f_X10_isGood : List Value → ab_H → Option ab_O) (f_X10_isShore : List Value → ab_H → Option ab_O) : List (Nat × ab_A) := [
  (0, ab_nx 1 (ab_aload 0)),
  (1, ab_nx 2 (ab_iload 1)),
  (2, ab_nx 5 (ab_callV 2 10 f_X10_isGood 0 0 0 0)),
  (5, ab_if 8 19 (fun x => decide (x = 0))),
  (8, ab_nx 9 (ab_iload 2)),
  (9, ab_nx 12 (ab_call 1 f_X10_isShore 0 0 0 0)),
  (12, ab_if 15 19 (fun x => decide (x = 0))),
  (15, ab_nx 16 (ab_lit (.int 1))),
  (16, ab_goto 20),
  (19, ab_nx 20 (ab_lit (.int 0))),
  (20, ab_zret 0 0)]
set_option maxRecDepth 100000 in
set_option maxHeartbeats 4000000 in
theorem M_X10_isSlot {l : Launch} {b : ab_B} {D : va_G} {cA : Nat → ClassId} {f_X10_isGood : List Value → ab_H → Option ab_O} (h_X10_isGood : ab_M l b D ab_cl cA (ab_E0 b) yX10_isGood (Cond.code yX10_isGood cX10_isGood 2 (some .boolean) :: ab_G) ({ frames := 1, cells := 0, slots := 0, locals := 100 } : Room) f_X10_isGood) {f_X10_isShore : List Value → ab_H → Option ab_O} (h_X10_isShore : ab_M l b D ab_cl cA (ab_E0 b) yX10_isShore (Cond.code yX10_isShore cX10_isShore 1 (some .boolean) :: ab_G) ({ frames := 1, cells := 0, slots := 0, locals := 100 } : Room) f_X10_isShore) : ab_M l b D ab_cl cA (ab_E0 b) yX10_isSlot (Cond.code yX10_isSlot cX10_isSlot 3 (some .boolean) :: ab_G) ({ frames := 2, cells := 0, slots := 0, locals := 200 } : Room) (ab_X (ab_T (L_X10_isSlot f_X10_isGood f_X10_isShore)) 3) := by
  refine ab_meth (ret := (some .boolean)) (L_X10_isSlot f_X10_isGood f_X10_isShore) (by decide) rfl fun p e R s m args below meth c o C => ?_
  unfold L_X10_isSlot
  refine List.forall_mem_cons.mpr ⟨ok_aload_n C (show decode cX10_isSlot 0 = .ok (.aload_n 0, 1) by decide +kernel) rfl rfl, ?_⟩
  refine List.forall_mem_cons.mpr ⟨ok_iload_n C (show decode cX10_isSlot 1 = .ok (.iload_n 1, 1) by decide +kernel) rfl rfl, ?_⟩
  refine List.forall_mem_cons.mpr ⟨ok_callV C h_X10_isGood ⟨rfl, rfl⟩ rfl kw_596 kw_593 kw_595 kp_16 kw_1 rfl ds_X10_isGood ⟨by decide, by decide⟩ (show decode cX10_isSlot 2 = .ok (.invokevirtual 139, 3) by decide +kernel) rfl, ?_⟩
  refine List.forall_mem_cons.mpr ⟨ok_ifeq C (show decode cX10_isSlot 5 = .ok (.ifCond .eq 14, 3) by decide +kernel) (tg := 19) (by decide) rfl rfl, ?_⟩
  refine List.forall_mem_cons.mpr ⟨ok_iload_n C (show decode cX10_isSlot 8 = .ok (.iload_n 2, 1) by decide +kernel) rfl rfl, ?_⟩
  refine List.forall_mem_cons.mpr ⟨ok_callS C h_X10_isShore ⟨rfl, rfl⟩ kw_599 kw_597 kw_598 kw_1 ds_X10_isShore ⟨by decide, by decide⟩ (show decode cX10_isSlot 9 = .ok (.invokestatic 143, 3) by decide +kernel) rfl, ?_⟩
  refine List.forall_mem_cons.mpr ⟨ok_ifeq C (show decode cX10_isSlot 12 = .ok (.ifCond .eq 7, 3) by decide +kernel) (tg := 19) (by decide) rfl rfl, ?_⟩
  refine List.forall_mem_cons.mpr ⟨ok_iconst C (show decode cX10_isSlot 15 = .ok (.iconst 1, 1) by decide +kernel) (by decide) rfl, ?_⟩
  refine List.forall_mem_cons.mpr ⟨ok_goto C (show decode cX10_isSlot 16 = .ok (.goto 4, 3) by decide +kernel) (tg := 20) (by decide) rfl, ?_⟩
  refine List.forall_mem_cons.mpr ⟨ok_iconst C (show decode cX10_isSlot 19 = .ok (.iconst 0, 1) by decide +kernel) (by decide) rfl, ?_⟩
  refine List.forall_mem_cons.mpr ⟨ok_zret C rfl (show decode cX10_isSlot 20 = .ok (.ireturn, 1) by decide +kernel), ?_⟩
  exact fun _ h => absurd h List.not_mem_nil
def L_X10_isMan : List (Nat × ab_A) := [
  (0, ab_nx 1 (ab_iload 1)),
  (1, ab_if 4 19 (fun x => decide (x < 0))),
  (4, ab_nx 5 (ab_iload 1)),
  (5, ab_nx 6 (ab_aload 0)),
  (6, ab_nx 9 (ab_getf 10 13)),
  (9, ab_nx 12 (ab_getf 7 9)),
  (12, ab_icmp 15 19 (fun x y => decide (y ≤ x))),
  (15, ab_nx 16 (ab_lit (.int 1))),
  (16, ab_goto 20),
  (19, ab_nx 20 (ab_lit (.int 0))),
  (20, ab_zret 0 0)]
set_option maxRecDepth 100000 in
set_option maxHeartbeats 4000000 in
theorem M_X10_isMan {l : Launch} {b : ab_B} {D : va_G} {cA : Nat → ClassId} : ab_M l b D ab_cl cA (ab_E0 b) yX10_isMan (Cond.code yX10_isMan cX10_isMan 2 (some .boolean) :: ab_G) ({ frames := 1, cells := 0, slots := 0, locals := 100 } : Room) (ab_X (ab_T L_X10_isMan) 2) := by
  refine ab_meth (ret := (some .boolean)) L_X10_isMan (by decide) rfl fun p e R s m args below meth c o C => ?_
  unfold L_X10_isMan
  refine List.forall_mem_cons.mpr ⟨ok_iload_n C (show decode cX10_isMan 0 = .ok (.iload_n 1, 1) by decide +kernel) rfl rfl, ?_⟩
  refine List.forall_mem_cons.mpr ⟨ok_iflt C (show decode cX10_isMan 1 = .ok (.ifCond .lt 18, 3) by decide +kernel) (tg := 19) (by decide) rfl rfl, ?_⟩
  refine List.forall_mem_cons.mpr ⟨ok_iload_n C (show decode cX10_isMan 4 = .ok (.iload_n 1, 1) by decide +kernel) rfl rfl, ?_⟩
  refine List.forall_mem_cons.mpr ⟨ok_aload_n C (show decode cX10_isMan 5 = .ok (.aload_n 0, 1) by decide +kernel) rfl rfl, ?_⟩
  refine List.forall_mem_cons.mpr ⟨ok_getf C (wi_X10) rfl (by decide) kw_328 (show decode cX10_isMan 6 = .ok (.getfield 83, 3) by decide +kernel) rfl, ?_⟩
  refine List.forall_mem_cons.mpr ⟨ok_getf C (wi_X7) rfl (by decide) kw_254 (show decode cX10_isMan 9 = .ok (.getfield 146, 3) by decide +kernel) rfl, ?_⟩
  refine List.forall_mem_cons.mpr ⟨ok_icmpge C (show decode cX10_isMan 12 = .ok (.if_icmp .ge 7, 3) by decide +kernel) (tg := 19) (by decide) rfl rfl, ?_⟩
  refine List.forall_mem_cons.mpr ⟨ok_iconst C (show decode cX10_isMan 15 = .ok (.iconst 1, 1) by decide +kernel) (by decide) rfl, ?_⟩
  refine List.forall_mem_cons.mpr ⟨ok_goto C (show decode cX10_isMan 16 = .ok (.goto 4, 3) by decide +kernel) (tg := 20) (by decide) rfl, ?_⟩
  refine List.forall_mem_cons.mpr ⟨ok_iconst C (show decode cX10_isMan 19 = .ok (.iconst 0, 1) by decide +kernel) (by decide) rfl, ?_⟩
  refine List.forall_mem_cons.mpr ⟨ok_zret C rfl (show decode cX10_isMan 20 = .ok (.ireturn, 1) by decide +kernel), ?_⟩
  exact fun _ h => absurd h List.not_mem_nil
def L_X10_areLivingTwo (f_X10_isMan : List Value → ab_H → Option ab_O) (f_X6_isAlive : List Value → ab_H → Option ab_O) : List (Nat × ab_A) := [
  (0, ab_nx 1 (ab_aload 0)),
  (1, ab_nx 2 (ab_iload 1)),
  (2, ab_nx 5 (ab_callV 2 10 f_X10_isMan 0 0 0 0)),
  (5, ab_if 8 47 (fun x => decide (x = 0))),
  (8, ab_nx 9 (ab_aload 0)),
  (9, ab_nx 10 (ab_iload 2)),
  (10, ab_nx 13 (ab_callV 2 10 f_X10_isMan 0 0 0 0)),
  (13, ab_if 16 47 (fun x => decide (x = 0))),
  (16, ab_nx 17 (ab_iload 1)),
  (17, ab_nx 18 (ab_iload 2)),
  (18, ab_icmp 21 47 (fun x y => decide (x = y))),
  (21, ab_nx 22 (ab_aload 0)),
  (22, ab_nx 25 (ab_getf 10 4)),
  (25, ab_nx 26 (ab_iload 1)),
  (26, ab_nx 29 (ab_callV 2 6 f_X6_isAlive 0 0 0 0)),
  (29, ab_if 32 47 (fun x => decide (x = 0))),
  (32, ab_nx 33 (ab_aload 0)),
  (33, ab_nx 36 (ab_getf 10 4)),
  (36, ab_nx 37 (ab_iload 2)),
  (37, ab_nx 40 (ab_callV 2 6 f_X6_isAlive 0 0 0 0)),
  (40, ab_if 43 47 (fun x => decide (x = 0))),
  (43, ab_nx 44 (ab_lit (.int 1))),
  (44, ab_goto 48),
  (47, ab_nx 48 (ab_lit (.int 0))),
  (48, ab_zret 0 0)]
set_option maxRecDepth 100000 in
set_option maxHeartbeats 4000000 in
theorem M_X10_areLivingTwo {l : Launch} {b : ab_B} {D : va_G} {cA : Nat → ClassId} {f_X10_isMan : List Value → ab_H → Option ab_O} (h_X10_isMan : ab_M l b D ab_cl cA (ab_E0 b) yX10_isMan (Cond.code yX10_isMan cX10_isMan 2 (some .boolean) :: ab_G) ({ frames := 1, cells := 0, slots := 0, locals := 100 } : Room) f_X10_isMan) {f_X6_isAlive : List Value → ab_H → Option ab_O} (h_X6_isAlive : ab_M l b D ab_cl cA (ab_E0 b) yX6_isAlive (Cond.code yX6_isAlive cX6_isAlive 2 (some .boolean) :: ab_G) ({ frames := 1, cells := 0, slots := 0, locals := 100 } : Room) f_X6_isAlive) : ab_M l b D ab_cl cA (ab_E0 b) yX10_areLivingTwo (Cond.code yX10_areLivingTwo cX10_areLivingTwo 3 (some .boolean) :: ab_G) ({ frames := 2, cells := 0, slots := 0, locals := 200 } : Room) (ab_X (ab_T (L_X10_areLivingTwo f_X10_isMan f_X6_isAlive)) 3) := by
  refine ab_meth (ret := (some .boolean)) (L_X10_areLivingTwo f_X10_isMan f_X6_isAlive) (by decide) rfl fun p e R s m args below meth c o C => ?_
  unfold L_X10_areLivingTwo
  refine List.forall_mem_cons.mpr ⟨ok_aload_n C (show decode cX10_areLivingTwo 0 = .ok (.aload_n 0, 1) by decide +kernel) rfl rfl, ?_⟩
  refine List.forall_mem_cons.mpr ⟨ok_iload_n C (show decode cX10_areLivingTwo 1 = .ok (.iload_n 1, 1) by decide +kernel) rfl rfl, ?_⟩
  refine List.forall_mem_cons.mpr ⟨ok_callV C h_X10_isMan ⟨rfl, rfl⟩ rfl kw_628 kw_625 kw_627 kp_18 kw_1 rfl ds_X10_isMan ⟨by decide, by decide⟩ (show decode cX10_areLivingTwo 2 = .ok (.invokevirtual 149, 3) by decide +kernel) rfl, ?_⟩
  refine List.forall_mem_cons.mpr ⟨ok_ifeq C (show decode cX10_areLivingTwo 5 = .ok (.ifCond .eq 42, 3) by decide +kernel) (tg := 47) (by decide) rfl rfl, ?_⟩
  refine List.forall_mem_cons.mpr ⟨ok_aload_n C (show decode cX10_areLivingTwo 8 = .ok (.aload_n 0, 1) by decide +kernel) rfl rfl, ?_⟩
  refine List.forall_mem_cons.mpr ⟨ok_iload_n C (show decode cX10_areLivingTwo 9 = .ok (.iload_n 2, 1) by decide +kernel) rfl rfl, ?_⟩
  refine List.forall_mem_cons.mpr ⟨ok_callV C h_X10_isMan ⟨rfl, rfl⟩ rfl kw_628 kw_625 kw_627 kp_18 kw_1 rfl ds_X10_isMan ⟨by decide, by decide⟩ (show decode cX10_areLivingTwo 10 = .ok (.invokevirtual 149, 3) by decide +kernel) rfl, ?_⟩
  refine List.forall_mem_cons.mpr ⟨ok_ifeq C (show decode cX10_areLivingTwo 13 = .ok (.ifCond .eq 34, 3) by decide +kernel) (tg := 47) (by decide) rfl rfl, ?_⟩
  refine List.forall_mem_cons.mpr ⟨ok_iload_n C (show decode cX10_areLivingTwo 16 = .ok (.iload_n 1, 1) by decide +kernel) rfl rfl, ?_⟩
  refine List.forall_mem_cons.mpr ⟨ok_iload_n C (show decode cX10_areLivingTwo 17 = .ok (.iload_n 2, 1) by decide +kernel) rfl rfl, ?_⟩
  refine List.forall_mem_cons.mpr ⟨ok_icmpeq C (show decode cX10_areLivingTwo 18 = .ok (.if_icmp .eq 29, 3) by decide +kernel) (tg := 47) (by decide) rfl rfl, ?_⟩
  refine List.forall_mem_cons.mpr ⟨ok_aload_n C (show decode cX10_areLivingTwo 21 = .ok (.aload_n 0, 1) by decide +kernel) rfl rfl, ?_⟩
  refine List.forall_mem_cons.mpr ⟨ok_getf C (wi_X10) rfl (by decide) kw_319 (show decode cX10_areLivingTwo 22 = .ok (.getfield 40, 3) by decide +kernel) rfl, ?_⟩
  refine List.forall_mem_cons.mpr ⟨ok_iload_n C (show decode cX10_areLivingTwo 25 = .ok (.iload_n 1, 1) by decide +kernel) rfl rfl, ?_⟩
  refine List.forall_mem_cons.mpr ⟨ok_callV C h_X6_isAlive ⟨rfl, rfl⟩ rfl kw_632 kw_629 kw_630 kw_631 kw_6 rfl ds_X6_isAlive ⟨by decide, by decide⟩ (show decode cX10_areLivingTwo 26 = .ok (.invokevirtual 152, 3) by decide +kernel) rfl, ?_⟩
  refine List.forall_mem_cons.mpr ⟨ok_ifeq C (show decode cX10_areLivingTwo 29 = .ok (.ifCond .eq 18, 3) by decide +kernel) (tg := 47) (by decide) rfl rfl, ?_⟩
  refine List.forall_mem_cons.mpr ⟨ok_aload_n C (show decode cX10_areLivingTwo 32 = .ok (.aload_n 0, 1) by decide +kernel) rfl rfl, ?_⟩
  refine List.forall_mem_cons.mpr ⟨ok_getf C (wi_X10) rfl (by decide) kw_319 (show decode cX10_areLivingTwo 33 = .ok (.getfield 40, 3) by decide +kernel) rfl, ?_⟩
  refine List.forall_mem_cons.mpr ⟨ok_iload_n C (show decode cX10_areLivingTwo 36 = .ok (.iload_n 2, 1) by decide +kernel) rfl rfl, ?_⟩
  refine List.forall_mem_cons.mpr ⟨ok_callV C h_X6_isAlive ⟨rfl, rfl⟩ rfl kw_632 kw_629 kw_630 kw_631 kw_6 rfl ds_X6_isAlive ⟨by decide, by decide⟩ (show decode cX10_areLivingTwo 37 = .ok (.invokevirtual 152, 3) by decide +kernel) rfl, ?_⟩
  refine List.forall_mem_cons.mpr ⟨ok_ifeq C (show decode cX10_areLivingTwo 40 = .ok (.ifCond .eq 7, 3) by decide +kernel) (tg := 47) (by decide) rfl rfl, ?_⟩
  refine List.forall_mem_cons.mpr ⟨ok_iconst C (show decode cX10_areLivingTwo 43 = .ok (.iconst 1, 1) by decide +kernel) (by decide) rfl, ?_⟩
  refine List.forall_mem_cons.mpr ⟨ok_goto C (show decode cX10_areLivingTwo 44 = .ok (.goto 4, 3) by decide +kernel) (tg := 48) (by decide) rfl, ?_⟩
  refine List.forall_mem_cons.mpr ⟨ok_iconst C (show decode cX10_areLivingTwo 47 = .ok (.iconst 0, 1) by decide +kernel) (by decide) rfl, ?_⟩
  refine List.forall_mem_cons.mpr ⟨ok_zret C rfl (show decode cX10_areLivingTwo 48 = .ok (.ireturn, 1) by decide +kernel), ?_⟩
  exact fun _ h => absurd h List.not_mem_nil
def L_X10_isWithin : List (Nat × ab_A) := [
  (0, ab_nx 1 (ab_iload 0)),
  (1, ab_nx 2 (ab_lit (.int 1))),
  (2, ab_icmp 5 14 (fun x y => decide (x < y))),
  (5, ab_nx 6 (ab_iload 0)),
  (6, ab_nx 7 (ab_iload 1)),
  (7, ab_icmp 10 14 (fun x y => decide (y < x))),
  (10, ab_nx 11 (ab_lit (.int 1))),
  (11, ab_goto 15),
  (14, ab_nx 15 (ab_lit (.int 0))),
  (15, ab_zret 0 0)]
set_option maxRecDepth 100000 in
set_option maxHeartbeats 4000000 in
theorem M_X10_isWithin {l : Launch} {b : ab_B} {D : va_G} {cA : Nat → ClassId} : ab_M l b D ab_cl cA (ab_E0 b) yX10_isWithin (Cond.code yX10_isWithin cX10_isWithin 2 (some .boolean) :: ab_G) ({ frames := 1, cells := 0, slots := 0, locals := 100 } : Room) (ab_X (ab_T L_X10_isWithin) 2) := by
  refine ab_meth (ret := (some .boolean)) L_X10_isWithin (by decide) rfl fun p e R s m args below meth c o C => ?_
  unfold L_X10_isWithin
  refine List.forall_mem_cons.mpr ⟨ok_iload_n C (show decode cX10_isWithin 0 = .ok (.iload_n 0, 1) by decide +kernel) rfl rfl, ?_⟩
  refine List.forall_mem_cons.mpr ⟨ok_iconst C (show decode cX10_isWithin 1 = .ok (.iconst 1, 1) by decide +kernel) (by decide) rfl, ?_⟩
  refine List.forall_mem_cons.mpr ⟨ok_icmplt C (show decode cX10_isWithin 2 = .ok (.if_icmp .lt 12, 3) by decide +kernel) (tg := 14) (by decide) rfl rfl, ?_⟩
  refine List.forall_mem_cons.mpr ⟨ok_iload_n C (show decode cX10_isWithin 5 = .ok (.iload_n 0, 1) by decide +kernel) rfl rfl, ?_⟩
  refine List.forall_mem_cons.mpr ⟨ok_iload_n C (show decode cX10_isWithin 6 = .ok (.iload_n 1, 1) by decide +kernel) rfl rfl, ?_⟩
  refine List.forall_mem_cons.mpr ⟨ok_icmpgt C (show decode cX10_isWithin 7 = .ok (.if_icmp .gt 7, 3) by decide +kernel) (tg := 14) (by decide) rfl rfl, ?_⟩
  refine List.forall_mem_cons.mpr ⟨ok_iconst C (show decode cX10_isWithin 10 = .ok (.iconst 1, 1) by decide +kernel) (by decide) rfl, ?_⟩
  refine List.forall_mem_cons.mpr ⟨ok_goto C (show decode cX10_isWithin 11 = .ok (.goto 4, 3) by decide +kernel) (tg := 15) (by decide) rfl, ?_⟩
  refine List.forall_mem_cons.mpr ⟨ok_iconst C (show decode cX10_isWithin 14 = .ok (.iconst 0, 1) by decide +kernel) (by decide) rfl, ?_⟩
  refine List.forall_mem_cons.mpr ⟨ok_zret C rfl (show decode cX10_isWithin 15 = .ok (.ireturn, 1) by decide +kernel), ?_⟩
  exact fun _ h => absurd h List.not_mem_nil
