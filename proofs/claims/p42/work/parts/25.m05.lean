def L_X7_stockAfter (f_X7_leftAfter : List Value → ab_H → Option ab_O) : List (Nat × ab_A) := [
  (0, ab_nx 1 (ab_lit (.int 0))),
  (1, ab_nx 2 (ab_aload 0)),
  (2, ab_nx 3 (ab_iload 1)),
  (3, ab_nx 4 (ab_iload 2)),
  (4, ab_nx 7 (ab_callV 3 7 f_X7_leftAfter 0 0 0 0)),
  (7, ab_nx 10 (ab_mm ab_max 0 0)),
  (10, ab_ret 0 0)]
set_option maxRecDepth 100000 in
set_option maxHeartbeats 4000000 in
theorem M_X7_stockAfter {l : Launch} {b : ab_B} {D : va_G} {cA : Nat → ClassId} {f_X7_leftAfter : List Value → ab_H → Option ab_O} (h_X7_leftAfter : ab_M l b D ab_cl cA (ab_E0 b) yX7_leftAfter (Cond.code yX7_leftAfter cX7_leftAfter 4 (some .int) :: ab_G) ({ frames := 2, cells := 0, slots := 0, locals := 200 } : Room) f_X7_leftAfter) : ab_M l b D ab_cl cA (ab_E0 b) yX7_stockAfter (Cond.code yX7_stockAfter cX7_stockAfter 3 (some .int) :: ab_G) ({ frames := 3, cells := 0, slots := 0, locals := 300 } : Room) (ab_X (ab_T (L_X7_stockAfter f_X7_leftAfter)) 3) := by
  refine ab_meth (ret := (some .int)) (L_X7_stockAfter f_X7_leftAfter) (by decide) rfl fun p e R s m args below meth c o C => ?_
  unfold L_X7_stockAfter
  refine List.forall_mem_cons.mpr ⟨ok_iconst C (show decode cX7_stockAfter 0 = .ok (.iconst 0, 1) by decide +kernel) (by decide) rfl, ?_⟩
  refine List.forall_mem_cons.mpr ⟨ok_aload_n C (show decode cX7_stockAfter 1 = .ok (.aload_n 0, 1) by decide +kernel) rfl rfl, ?_⟩
  refine List.forall_mem_cons.mpr ⟨ok_iload_n C (show decode cX7_stockAfter 2 = .ok (.iload_n 1, 1) by decide +kernel) rfl rfl, ?_⟩
  refine List.forall_mem_cons.mpr ⟨ok_iload_n C (show decode cX7_stockAfter 3 = .ok (.iload_n 2, 1) by decide +kernel) rfl rfl, ?_⟩
  refine List.forall_mem_cons.mpr ⟨ok_callV C h_X7_leftAfter ⟨rfl, rfl⟩ rfl kw_779 kw_832 kw_777 kw_778 kw_9 rfl ds_X7_leftAfter ⟨by decide, by decide⟩ (show decode cX7_stockAfter 4 = .ok (.invokevirtual 44, 3) by decide +kernel) rfl, ?_⟩
  refine List.forall_mem_cons.mpr ⟨ok_mmax C kw_833 kw_607 kw_16 kw_608 ⟨by decide, by decide⟩ (show decode cX7_stockAfter 7 = .ok (.invokestatic 47, 3) by decide +kernel) rfl, ?_⟩
  refine List.forall_mem_cons.mpr ⟨ok_ret C rfl (show decode cX7_stockAfter 10 = .ok (.ireturn, 1) by decide +kernel), ?_⟩
  exact fun _ h => absurd h List.not_mem_nil
def L_X7_copyFrom : List (Nat × ab_A) := [
  (0, ab_nx 1 (ab_aload 1)),
  (1, ab_nx 4 (ab_getf 7 0)),
  (4, ab_nx 5 (ab_lit (.int 0))),
  (5, ab_nx 6 (ab_aload 0)),
  (6, ab_nx 9 (ab_getf 7 0)),
  (9, ab_nx 10 (ab_lit (.int 0))),
  (10, ab_nx 12 (ab_lit (.int 6))),
  (12, ab_nx 15 ab_copy),
  (15, ab_nx 16 (ab_aload 1)),
  (16, ab_nx 19 (ab_getf 7 1)),
  (19, ab_nx 20 (ab_lit (.int 0))),
  (20, ab_nx 21 (ab_aload 0)),
  (21, ab_nx 24 (ab_getf 7 1)),
  (24, ab_nx 25 (ab_lit (.int 0))),
  (25, ab_nx 27 (ab_lit (.int 8))),
  (27, ab_nx 30 ab_copy),
  (30, ab_nx 31 (ab_aload 1)),
  (31, ab_nx 34 (ab_getf 7 2)),
  (34, ab_nx 35 (ab_lit (.int 0))),
  (35, ab_nx 36 (ab_aload 0)),
  (36, ab_nx 39 (ab_getf 7 2)),
  (39, ab_nx 40 (ab_lit (.int 0))),
  (40, ab_nx 42 (ab_lit (.int 8))),
  (42, ab_nx 45 ab_copy),
  (45, ab_nx 46 (ab_aload 1)),
  (46, ab_nx 49 (ab_getf 7 3)),
  (49, ab_nx 50 (ab_lit (.int 0))),
  (50, ab_nx 51 (ab_aload 0)),
  (51, ab_nx 54 (ab_getf 7 3)),
  (54, ab_nx 55 (ab_lit (.int 0))),
  (55, ab_nx 57 (ab_lit (.int 48))),
  (57, ab_nx 60 ab_copy),
  (60, ab_nx 61 (ab_aload 1)),
  (61, ab_nx 64 (ab_getf 7 4)),
  (64, ab_nx 65 (ab_lit (.int 0))),
  (65, ab_nx 66 (ab_aload 0)),
  (66, ab_nx 69 (ab_getf 7 4)),
  (69, ab_nx 70 (ab_lit (.int 0))),
  (70, ab_nx 72 (ab_lit (.int 20))),
  (72, ab_nx 75 ab_copy),
  (75, ab_nx 76 (ab_aload 1)),
  (76, ab_nx 79 (ab_getf 7 5)),
  (79, ab_nx 80 (ab_lit (.int 0))),
  (80, ab_nx 81 (ab_aload 0)),
  (81, ab_nx 84 (ab_getf 7 5)),
  (84, ab_nx 85 (ab_lit (.int 0))),
  (85, ab_nx 87 (ab_lit (.int 20))),
  (87, ab_nx 90 ab_copy),
  (90, ab_nx 91 (ab_aload 1)),
  (91, ab_nx 94 (ab_getf 7 6)),
  (94, ab_nx 95 (ab_lit (.int 0))),
  (95, ab_nx 96 (ab_aload 0)),
  (96, ab_nx 99 (ab_getf 7 6)),
  (99, ab_nx 100 (ab_lit (.int 0))),
  (100, ab_nx 102 (ab_lit (.int 20))),
  (102, ab_nx 105 ab_copy),
  (105, ab_nx 106 (ab_aload 0)),
  (106, ab_nx 107 (ab_aload 1)),
  (107, ab_nx 110 (ab_getf 7 7)),
  (110, ab_nx 113 (ab_putf 7 7 0)),
  (113, ab_nx 114 (ab_aload 0)),
  (114, ab_nx 115 (ab_aload 1)),
  (115, ab_nx 118 (ab_getf 7 8)),
  (118, ab_nx 121 (ab_putf 7 8 0)),
  (121, ab_nx 122 (ab_aload 0)),
  (122, ab_nx 123 (ab_aload 1)),
  (123, ab_nx 126 (ab_getf 7 9)),
  (126, ab_nx 129 (ab_putf 7 9 0)),
  (129, ab_nx 130 (ab_aload 0)),
  (130, ab_nx 131 (ab_aload 1)),
  (131, ab_nx 134 (ab_getf 7 10)),
  (134, ab_nx 137 (ab_putf 7 10 0)),
  (137, ab_vret 0 0)]
set_option maxRecDepth 100000 in
set_option maxHeartbeats 4000000 in
theorem M_X7_copyFrom {l : Launch} {b : ab_B} {D : va_G} {cA : Nat → ClassId} : ab_M l b D ab_cl cA (ab_E0 b) yX7_copyFrom (Cond.code yX7_copyFrom cX7_copyFrom 2 none :: ab_G) ({ frames := 2, cells := 0, slots := 0, locals := 200 } : Room) (ab_X (ab_T L_X7_copyFrom) 2) := by
  refine ab_meth (ret := none) L_X7_copyFrom (by decide) rfl fun p e R s m args below meth c o C => ?_
  unfold L_X7_copyFrom
  refine List.forall_mem_cons.mpr ⟨ok_aload_n C (show decode cX7_copyFrom 0 = .ok (.aload_n 1, 1) by decide +kernel) rfl rfl, ?_⟩
  refine List.forall_mem_cons.mpr ⟨ok_getf C (wi_X7) rfl (by decide) kw_234 (show decode cX7_copyFrom 1 = .ok (.getfield 9, 3) by decide +kernel) rfl, ?_⟩
  refine List.forall_mem_cons.mpr ⟨ok_iconst C (show decode cX7_copyFrom 4 = .ok (.iconst 0, 1) by decide +kernel) (by decide) rfl, ?_⟩
  refine List.forall_mem_cons.mpr ⟨ok_aload_n C (show decode cX7_copyFrom 5 = .ok (.aload_n 0, 1) by decide +kernel) rfl rfl, ?_⟩
  refine List.forall_mem_cons.mpr ⟨ok_getf C (wi_X7) rfl (by decide) kw_234 (show decode cX7_copyFrom 6 = .ok (.getfield 9, 3) by decide +kernel) rfl, ?_⟩
  refine List.forall_mem_cons.mpr ⟨ok_iconst C (show decode cX7_copyFrom 9 = .ok (.iconst 0, 1) by decide +kernel) (by decide) rfl, ?_⟩
  refine List.forall_mem_cons.mpr ⟨ok_bipush C (show decode cX7_copyFrom 10 = .ok (.bipush 6, 2) by decide +kernel) (by decide) rfl, ?_⟩
  refine List.forall_mem_cons.mpr ⟨ok_copy C kw_1049 kw_727 kw_726 kw_21 ⟨by decide, by decide +kernel⟩ (show decode cX7_copyFrom 12 = .ok (.invokestatic 50, 3) by decide +kernel) rfl, ?_⟩
  refine List.forall_mem_cons.mpr ⟨ok_aload_n C (show decode cX7_copyFrom 15 = .ok (.aload_n 1, 1) by decide +kernel) rfl rfl, ?_⟩
  refine List.forall_mem_cons.mpr ⟨ok_getf C (wi_X7) rfl (by decide) kw_235 (show decode cX7_copyFrom 16 = .ok (.getfield 15, 3) by decide +kernel) rfl, ?_⟩
  refine List.forall_mem_cons.mpr ⟨ok_iconst C (show decode cX7_copyFrom 19 = .ok (.iconst 0, 1) by decide +kernel) (by decide) rfl, ?_⟩
  refine List.forall_mem_cons.mpr ⟨ok_aload_n C (show decode cX7_copyFrom 20 = .ok (.aload_n 0, 1) by decide +kernel) rfl rfl, ?_⟩
  refine List.forall_mem_cons.mpr ⟨ok_getf C (wi_X7) rfl (by decide) kw_235 (show decode cX7_copyFrom 21 = .ok (.getfield 15, 3) by decide +kernel) rfl, ?_⟩
  refine List.forall_mem_cons.mpr ⟨ok_iconst C (show decode cX7_copyFrom 24 = .ok (.iconst 0, 1) by decide +kernel) (by decide) rfl, ?_⟩
  refine List.forall_mem_cons.mpr ⟨ok_bipush C (show decode cX7_copyFrom 25 = .ok (.bipush 8, 2) by decide +kernel) (by decide) rfl, ?_⟩
  refine List.forall_mem_cons.mpr ⟨ok_copy C kw_1049 kw_727 kw_726 kw_21 ⟨by decide, by decide +kernel⟩ (show decode cX7_copyFrom 27 = .ok (.invokestatic 50, 3) by decide +kernel) rfl, ?_⟩
  refine List.forall_mem_cons.mpr ⟨ok_aload_n C (show decode cX7_copyFrom 30 = .ok (.aload_n 1, 1) by decide +kernel) rfl rfl, ?_⟩
  refine List.forall_mem_cons.mpr ⟨ok_getf C (wi_X7) rfl (by decide) kw_236 (show decode cX7_copyFrom 31 = .ok (.getfield 18, 3) by decide +kernel) rfl, ?_⟩
  refine List.forall_mem_cons.mpr ⟨ok_iconst C (show decode cX7_copyFrom 34 = .ok (.iconst 0, 1) by decide +kernel) (by decide) rfl, ?_⟩
  refine List.forall_mem_cons.mpr ⟨ok_aload_n C (show decode cX7_copyFrom 35 = .ok (.aload_n 0, 1) by decide +kernel) rfl rfl, ?_⟩
  refine List.forall_mem_cons.mpr ⟨ok_getf C (wi_X7) rfl (by decide) kw_236 (show decode cX7_copyFrom 36 = .ok (.getfield 18, 3) by decide +kernel) rfl, ?_⟩
  refine List.forall_mem_cons.mpr ⟨ok_iconst C (show decode cX7_copyFrom 39 = .ok (.iconst 0, 1) by decide +kernel) (by decide) rfl, ?_⟩
  refine List.forall_mem_cons.mpr ⟨ok_bipush C (show decode cX7_copyFrom 40 = .ok (.bipush 8, 2) by decide +kernel) (by decide) rfl, ?_⟩
  refine List.forall_mem_cons.mpr ⟨ok_copy C kw_1049 kw_727 kw_726 kw_21 ⟨by decide, by decide +kernel⟩ (show decode cX7_copyFrom 42 = .ok (.invokestatic 50, 3) by decide +kernel) rfl, ?_⟩
  refine List.forall_mem_cons.mpr ⟨ok_aload_n C (show decode cX7_copyFrom 45 = .ok (.aload_n 1, 1) by decide +kernel) rfl rfl, ?_⟩
  refine List.forall_mem_cons.mpr ⟨ok_getf C (wi_X7) rfl (by decide) kw_238 (show decode cX7_copyFrom 46 = .ok (.getfield 22, 3) by decide +kernel) rfl, ?_⟩
  refine List.forall_mem_cons.mpr ⟨ok_iconst C (show decode cX7_copyFrom 49 = .ok (.iconst 0, 1) by decide +kernel) (by decide) rfl, ?_⟩
  refine List.forall_mem_cons.mpr ⟨ok_aload_n C (show decode cX7_copyFrom 50 = .ok (.aload_n 0, 1) by decide +kernel) rfl rfl, ?_⟩
  refine List.forall_mem_cons.mpr ⟨ok_getf C (wi_X7) rfl (by decide) kw_238 (show decode cX7_copyFrom 51 = .ok (.getfield 22, 3) by decide +kernel) rfl, ?_⟩
  refine List.forall_mem_cons.mpr ⟨ok_iconst C (show decode cX7_copyFrom 54 = .ok (.iconst 0, 1) by decide +kernel) (by decide) rfl, ?_⟩
  refine List.forall_mem_cons.mpr ⟨ok_bipush C (show decode cX7_copyFrom 55 = .ok (.bipush 48, 2) by decide +kernel) (by decide) rfl, ?_⟩
  refine List.forall_mem_cons.mpr ⟨ok_copy C kw_1049 kw_727 kw_726 kw_21 ⟨by decide, by decide +kernel⟩ (show decode cX7_copyFrom 57 = .ok (.invokestatic 50, 3) by decide +kernel) rfl, ?_⟩
  refine List.forall_mem_cons.mpr ⟨ok_aload_n C (show decode cX7_copyFrom 60 = .ok (.aload_n 1, 1) by decide +kernel) rfl rfl, ?_⟩
  refine List.forall_mem_cons.mpr ⟨ok_getf C (wi_X7) rfl (by decide) kw_239 (show decode cX7_copyFrom 61 = .ok (.getfield 25, 3) by decide +kernel) rfl, ?_⟩
  refine List.forall_mem_cons.mpr ⟨ok_iconst C (show decode cX7_copyFrom 64 = .ok (.iconst 0, 1) by decide +kernel) (by decide) rfl, ?_⟩
  refine List.forall_mem_cons.mpr ⟨ok_aload_n C (show decode cX7_copyFrom 65 = .ok (.aload_n 0, 1) by decide +kernel) rfl rfl, ?_⟩
  refine List.forall_mem_cons.mpr ⟨ok_getf C (wi_X7) rfl (by decide) kw_239 (show decode cX7_copyFrom 66 = .ok (.getfield 25, 3) by decide +kernel) rfl, ?_⟩
  refine List.forall_mem_cons.mpr ⟨ok_iconst C (show decode cX7_copyFrom 69 = .ok (.iconst 0, 1) by decide +kernel) (by decide) rfl, ?_⟩
  refine List.forall_mem_cons.mpr ⟨ok_bipush C (show decode cX7_copyFrom 70 = .ok (.bipush 20, 2) by decide +kernel) (by decide) rfl, ?_⟩
  refine List.forall_mem_cons.mpr ⟨ok_copy C kw_1049 kw_727 kw_726 kw_21 ⟨by decide, by decide +kernel⟩ (show decode cX7_copyFrom 72 = .ok (.invokestatic 50, 3) by decide +kernel) rfl, ?_⟩
  refine List.forall_mem_cons.mpr ⟨ok_aload_n C (show decode cX7_copyFrom 75 = .ok (.aload_n 1, 1) by decide +kernel) rfl rfl, ?_⟩
  refine List.forall_mem_cons.mpr ⟨ok_getf C (wi_X7) rfl (by decide) kw_241 (show decode cX7_copyFrom 76 = .ok (.getfield 28, 3) by decide +kernel) rfl, ?_⟩
  refine List.forall_mem_cons.mpr ⟨ok_iconst C (show decode cX7_copyFrom 79 = .ok (.iconst 0, 1) by decide +kernel) (by decide) rfl, ?_⟩
  refine List.forall_mem_cons.mpr ⟨ok_aload_n C (show decode cX7_copyFrom 80 = .ok (.aload_n 0, 1) by decide +kernel) rfl rfl, ?_⟩
  refine List.forall_mem_cons.mpr ⟨ok_getf C (wi_X7) rfl (by decide) kw_241 (show decode cX7_copyFrom 81 = .ok (.getfield 28, 3) by decide +kernel) rfl, ?_⟩
  refine List.forall_mem_cons.mpr ⟨ok_iconst C (show decode cX7_copyFrom 84 = .ok (.iconst 0, 1) by decide +kernel) (by decide) rfl, ?_⟩
  refine List.forall_mem_cons.mpr ⟨ok_bipush C (show decode cX7_copyFrom 85 = .ok (.bipush 20, 2) by decide +kernel) (by decide) rfl, ?_⟩
  refine List.forall_mem_cons.mpr ⟨ok_copy C kw_1049 kw_727 kw_726 kw_21 ⟨by decide, by decide +kernel⟩ (show decode cX7_copyFrom 87 = .ok (.invokestatic 50, 3) by decide +kernel) rfl, ?_⟩
  refine List.forall_mem_cons.mpr ⟨ok_aload_n C (show decode cX7_copyFrom 90 = .ok (.aload_n 1, 1) by decide +kernel) rfl rfl, ?_⟩
  refine List.forall_mem_cons.mpr ⟨ok_getf C (wi_X7) rfl (by decide) kw_243 (show decode cX7_copyFrom 91 = .ok (.getfield 31, 3) by decide +kernel) rfl, ?_⟩
  refine List.forall_mem_cons.mpr ⟨ok_iconst C (show decode cX7_copyFrom 94 = .ok (.iconst 0, 1) by decide +kernel) (by decide) rfl, ?_⟩
  refine List.forall_mem_cons.mpr ⟨ok_aload_n C (show decode cX7_copyFrom 95 = .ok (.aload_n 0, 1) by decide +kernel) rfl rfl, ?_⟩
  refine List.forall_mem_cons.mpr ⟨ok_getf C (wi_X7) rfl (by decide) kw_243 (show decode cX7_copyFrom 96 = .ok (.getfield 31, 3) by decide +kernel) rfl, ?_⟩
  refine List.forall_mem_cons.mpr ⟨ok_iconst C (show decode cX7_copyFrom 99 = .ok (.iconst 0, 1) by decide +kernel) (by decide) rfl, ?_⟩
  refine List.forall_mem_cons.mpr ⟨ok_bipush C (show decode cX7_copyFrom 100 = .ok (.bipush 20, 2) by decide +kernel) (by decide) rfl, ?_⟩
  refine List.forall_mem_cons.mpr ⟨ok_copy C kw_1049 kw_727 kw_726 kw_21 ⟨by decide, by decide +kernel⟩ (show decode cX7_copyFrom 102 = .ok (.invokestatic 50, 3) by decide +kernel) rfl, ?_⟩
  refine List.forall_mem_cons.mpr ⟨ok_aload_n C (show decode cX7_copyFrom 105 = .ok (.aload_n 0, 1) by decide +kernel) rfl rfl, ?_⟩
  refine List.forall_mem_cons.mpr ⟨ok_aload_n C (show decode cX7_copyFrom 106 = .ok (.aload_n 1, 1) by decide +kernel) rfl rfl, ?_⟩
  refine List.forall_mem_cons.mpr ⟨ok_getf C (wi_X7) rfl (by decide) kw_245 (show decode cX7_copyFrom 107 = .ok (.getfield 34, 3) by decide +kernel) rfl, ?_⟩
  refine List.forall_mem_cons.mpr ⟨ok_putf C (wi_X7) tyX7 tyX7_ok nmX7 rfl (by decide) kw_245 (Or.inl rfl) (Or.inl ⟨rfl, rfl⟩) (show decode cX7_copyFrom 110 = .ok (.putfield 34, 3) by decide +kernel) rfl, ?_⟩
  refine List.forall_mem_cons.mpr ⟨ok_aload_n C (show decode cX7_copyFrom 113 = .ok (.aload_n 0, 1) by decide +kernel) rfl rfl, ?_⟩
  refine List.forall_mem_cons.mpr ⟨ok_aload_n C (show decode cX7_copyFrom 114 = .ok (.aload_n 1, 1) by decide +kernel) rfl rfl, ?_⟩
  refine List.forall_mem_cons.mpr ⟨ok_getf C (wi_X7) rfl (by decide) kw_249 (show decode cX7_copyFrom 115 = .ok (.getfield 56, 3) by decide +kernel) rfl, ?_⟩
  refine List.forall_mem_cons.mpr ⟨ok_putf C (wi_X7) tyX7 tyX7_ok nmX7 rfl (by decide) kw_249 (Or.inl rfl) (Or.inl ⟨rfl, rfl⟩) (show decode cX7_copyFrom 118 = .ok (.putfield 56, 3) by decide +kernel) rfl, ?_⟩
  refine List.forall_mem_cons.mpr ⟨ok_aload_n C (show decode cX7_copyFrom 121 = .ok (.aload_n 0, 1) by decide +kernel) rfl rfl, ?_⟩
  refine List.forall_mem_cons.mpr ⟨ok_aload_n C (show decode cX7_copyFrom 122 = .ok (.aload_n 1, 1) by decide +kernel) rfl rfl, ?_⟩
  refine List.forall_mem_cons.mpr ⟨ok_getf C (wi_X7) rfl (by decide) kw_253 (show decode cX7_copyFrom 123 = .ok (.getfield 59, 3) by decide +kernel) rfl, ?_⟩
  refine List.forall_mem_cons.mpr ⟨ok_putf C (wi_X7) tyX7 tyX7_ok nmX7 rfl (by decide) kw_253 (Or.inl rfl) (Or.inl ⟨rfl, rfl⟩) (show decode cX7_copyFrom 126 = .ok (.putfield 59, 3) by decide +kernel) rfl, ?_⟩
  refine List.forall_mem_cons.mpr ⟨ok_aload_n C (show decode cX7_copyFrom 129 = .ok (.aload_n 0, 1) by decide +kernel) rfl rfl, ?_⟩
  refine List.forall_mem_cons.mpr ⟨ok_aload_n C (show decode cX7_copyFrom 130 = .ok (.aload_n 1, 1) by decide +kernel) rfl rfl, ?_⟩
  refine List.forall_mem_cons.mpr ⟨ok_getf C (wi_X7) rfl (by decide) kw_256 (show decode cX7_copyFrom 131 = .ok (.getfield 62, 3) by decide +kernel) rfl, ?_⟩
  refine List.forall_mem_cons.mpr ⟨ok_putf C (wi_X7) tyX7 tyX7_ok nmX7 rfl (by decide) kw_256 (Or.inl rfl) (Or.inl ⟨rfl, rfl⟩) (show decode cX7_copyFrom 134 = .ok (.putfield 62, 3) by decide +kernel) rfl, ?_⟩
  refine List.forall_mem_cons.mpr ⟨ok_vret C rfl (show decode cX7_copyFrom 137 = .ok (.return_, 1) by decide +kernel), ?_⟩
  exact fun _ h => absurd h List.not_mem_nil
def L_X7_clear : List (Nat × ab_A) := [
  (0, ab_nx 1 (ab_lit (.int 0))),
  (1, ab_nx 2 (ab_istore 1)),
  (2, ab_nx 3 (ab_iload 1)),
  (3, ab_nx 4 (ab_aload 0)),
  (4, ab_nx 7 (ab_getf 7 3)),
  (7, ab_nx 8 ab_alen),
  (8, ab_icmp 11 24 (fun x y => decide (y ≤ x))),
  (11, ab_nx 12 (ab_aload 0)),
  (12, ab_nx 15 (ab_getf 7 3)),
  (15, ab_nx 16 (ab_iload 1)),
  (16, ab_nx 17 (ab_lit (.int 0))),
  (17, ab_nx 18 (ab_ast 1)),
  (18, ab_nx 21 (ab_iinc 1 1)),
  (21, ab_goto 2),
  (24, ab_nx 25 (ab_aload 0)),
  (25, ab_nx 27 (ab_lit (.int 10))),
  (27, ab_nx 30 (ab_putf 7 7 0)),
  (30, ab_nx 31 (ab_aload 0)),
  (31, ab_nx 32 (ab_lit (.int 0))),
  (32, ab_nx 35 (ab_putf 7 8 0)),
  (35, ab_nx 36 (ab_aload 0)),
  (36, ab_nx 37 (ab_lit (.int 0))),
  (37, ab_nx 40 (ab_putf 7 9 0)),
  (40, ab_nx 41 (ab_aload 0)),
  (41, ab_nx 42 (ab_lit (.int 0))),
  (42, ab_nx 45 (ab_putf 7 10 0)),
  (45, ab_nx 46 (ab_aload 0)),
  (46, ab_nx 47 (ab_lit (.int 0))),
  (47, ab_nx 50 (ab_putf 7 11 3)),
  (50, ab_nx 51 (ab_aload 0)),
  (51, ab_nx 52 (ab_lit (.long 0))),
  (52, ab_nx 55 (ab_putf 7 12 1)),
  (55, ab_vret 0 0)]
set_option maxRecDepth 100000 in
set_option maxHeartbeats 4000000 in
theorem M_X7_clear {l : Launch} {b : ab_B} {D : va_G} {cA : Nat → ClassId} : ab_M l b D ab_cl cA (ab_E0 b) yX7_clear (Cond.code yX7_clear cX7_clear 2 none :: ab_G) ({ frames := 1, cells := 0, slots := 0, locals := 100 } : Room) (ab_X (ab_T L_X7_clear) 2) := by
  refine ab_meth (ret := none) L_X7_clear (by decide) rfl fun p e R s m args below meth c o C => ?_
  unfold L_X7_clear
  refine List.forall_mem_cons.mpr ⟨ok_iconst C (show decode cX7_clear 0 = .ok (.iconst 0, 1) by decide +kernel) (by decide) rfl, ?_⟩
  refine List.forall_mem_cons.mpr ⟨ok_istore_n C (show decode cX7_clear 1 = .ok (.istore_n 1, 1) by decide +kernel) rfl (by decide) rfl, ?_⟩
  refine List.forall_mem_cons.mpr ⟨ok_iload_n C (show decode cX7_clear 2 = .ok (.iload_n 1, 1) by decide +kernel) rfl rfl, ?_⟩
  refine List.forall_mem_cons.mpr ⟨ok_aload_n C (show decode cX7_clear 3 = .ok (.aload_n 0, 1) by decide +kernel) rfl rfl, ?_⟩
  refine List.forall_mem_cons.mpr ⟨ok_getf C (wi_X7) rfl (by decide) kw_238 (show decode cX7_clear 4 = .ok (.getfield 22, 3) by decide +kernel) rfl, ?_⟩
  refine List.forall_mem_cons.mpr ⟨ok_arraylength C (show decode cX7_clear 7 = .ok (.arraylength, 1) by decide +kernel) rfl, ?_⟩
  refine List.forall_mem_cons.mpr ⟨ok_icmpge C (show decode cX7_clear 8 = .ok (.if_icmp .ge 16, 3) by decide +kernel) (tg := 24) (by decide) rfl rfl, ?_⟩
  refine List.forall_mem_cons.mpr ⟨ok_aload_n C (show decode cX7_clear 11 = .ok (.aload_n 0, 1) by decide +kernel) rfl rfl, ?_⟩
  refine List.forall_mem_cons.mpr ⟨ok_getf C (wi_X7) rfl (by decide) kw_238 (show decode cX7_clear 12 = .ok (.getfield 22, 3) by decide +kernel) rfl, ?_⟩
  refine List.forall_mem_cons.mpr ⟨ok_iload_n C (show decode cX7_clear 15 = .ok (.iload_n 1, 1) by decide +kernel) rfl rfl, ?_⟩
  refine List.forall_mem_cons.mpr ⟨ok_iconst C (show decode cX7_clear 16 = .ok (.iconst 0, 1) by decide +kernel) (by decide) rfl, ?_⟩
  refine List.forall_mem_cons.mpr ⟨ok_iastore C (show decode cX7_clear 17 = .ok (.iastore, 1) by decide +kernel) rfl, ?_⟩
  refine List.forall_mem_cons.mpr ⟨ok_iinc C (show decode cX7_clear 18 = .ok (.iinc 1 1, 3) by decide +kernel) (by decide) (by decide) rfl, ?_⟩
  refine List.forall_mem_cons.mpr ⟨ok_goto C (show decode cX7_clear 21 = .ok (.goto (-19), 3) by decide +kernel) (tg := 2) (by decide) rfl, ?_⟩
  refine List.forall_mem_cons.mpr ⟨ok_aload_n C (show decode cX7_clear 24 = .ok (.aload_n 0, 1) by decide +kernel) rfl rfl, ?_⟩
  refine List.forall_mem_cons.mpr ⟨ok_bipush C (show decode cX7_clear 25 = .ok (.bipush 10, 2) by decide +kernel) (by decide) rfl, ?_⟩
  refine List.forall_mem_cons.mpr ⟨ok_putf C (wi_X7) tyX7 tyX7_ok nmX7 rfl (by decide) kw_245 (Or.inl rfl) (Or.inl ⟨rfl, rfl⟩) (show decode cX7_clear 27 = .ok (.putfield 34, 3) by decide +kernel) rfl, ?_⟩
  refine List.forall_mem_cons.mpr ⟨ok_aload_n C (show decode cX7_clear 30 = .ok (.aload_n 0, 1) by decide +kernel) rfl rfl, ?_⟩
  refine List.forall_mem_cons.mpr ⟨ok_iconst C (show decode cX7_clear 31 = .ok (.iconst 0, 1) by decide +kernel) (by decide) rfl, ?_⟩
  refine List.forall_mem_cons.mpr ⟨ok_putf C (wi_X7) tyX7 tyX7_ok nmX7 rfl (by decide) kw_249 (Or.inl rfl) (Or.inl ⟨rfl, rfl⟩) (show decode cX7_clear 32 = .ok (.putfield 56, 3) by decide +kernel) rfl, ?_⟩
  refine List.forall_mem_cons.mpr ⟨ok_aload_n C (show decode cX7_clear 35 = .ok (.aload_n 0, 1) by decide +kernel) rfl rfl, ?_⟩
  refine List.forall_mem_cons.mpr ⟨ok_iconst C (show decode cX7_clear 36 = .ok (.iconst 0, 1) by decide +kernel) (by decide) rfl, ?_⟩
  refine List.forall_mem_cons.mpr ⟨ok_putf C (wi_X7) tyX7 tyX7_ok nmX7 rfl (by decide) kw_253 (Or.inl rfl) (Or.inl ⟨rfl, rfl⟩) (show decode cX7_clear 37 = .ok (.putfield 59, 3) by decide +kernel) rfl, ?_⟩
  refine List.forall_mem_cons.mpr ⟨ok_aload_n C (show decode cX7_clear 40 = .ok (.aload_n 0, 1) by decide +kernel) rfl rfl, ?_⟩
  refine List.forall_mem_cons.mpr ⟨ok_iconst C (show decode cX7_clear 41 = .ok (.iconst 0, 1) by decide +kernel) (by decide) rfl, ?_⟩
  refine List.forall_mem_cons.mpr ⟨ok_putf C (wi_X7) tyX7 tyX7_ok nmX7 rfl (by decide) kw_256 (Or.inl rfl) (Or.inl ⟨rfl, rfl⟩) (show decode cX7_clear 42 = .ok (.putfield 62, 3) by decide +kernel) rfl, ?_⟩
  refine List.forall_mem_cons.mpr ⟨ok_aload_n C (show decode cX7_clear 45 = .ok (.aload_n 0, 1) by decide +kernel) rfl rfl, ?_⟩
  refine List.forall_mem_cons.mpr ⟨ok_iconst C (show decode cX7_clear 46 = .ok (.iconst 0, 1) by decide +kernel) (by decide) rfl, ?_⟩
  refine List.forall_mem_cons.mpr ⟨ok_putf C (wi_X7) tyX7 tyX7_ok nmX7 rfl (by decide) kw_259 (Or.inl rfl) (Or.inr (Or.inr (Or.inr ⟨rfl, rfl⟩))) (show decode cX7_clear 47 = .ok (.putfield 65, 3) by decide +kernel) rfl, ?_⟩
  refine List.forall_mem_cons.mpr ⟨ok_aload_n C (show decode cX7_clear 50 = .ok (.aload_n 0, 1) by decide +kernel) rfl rfl, ?_⟩
  refine List.forall_mem_cons.mpr ⟨ok_lconst C (show decode cX7_clear 51 = .ok (.lconst 0, 1) by decide +kernel) (by decide) rfl, ?_⟩
  refine List.forall_mem_cons.mpr ⟨ok_putf C (wi_X7) tyX7 tyX7_ok nmX7 rfl (by decide) kw_260 (Or.inl rfl) (Or.inr (Or.inl ⟨rfl, rfl⟩)) (show decode cX7_clear 52 = .ok (.putfield 69, 3) by decide +kernel) rfl, ?_⟩
  refine List.forall_mem_cons.mpr ⟨ok_vret C rfl (show decode cX7_clear 55 = .ok (.return_, 1) by decide +kernel), ?_⟩
  exact fun _ h => absurd h List.not_mem_nil
def L_X7_readAmount (f_X7_takeGood : List Value → ab_H → Option ab_O) (f_X9_takeNumber : List Value → ab_H → Option ab_O) (f_X10_slotOf : List Value → ab_H → Option ab_O) (f_X9_fail : List Value → ab_H → Option ab_O) : List (Nat × ab_A) := [
  (0, ab_nx 1 (ab_aload 0)),
  (1, ab_nx 2 (ab_aload 1)),
  (2, ab_nx 5 (ab_callV 2 7 f_X7_takeGood 0 0 0 0)),
  (5, ab_nx 6 (ab_istore 3)),
  (6, ab_nx 7 (ab_iload 3)),
  (7, ab_nx 8 (ab_lit (.int (-1)))),
  (8, ab_icmp 11 20 (fun x y => decide (x = y))),
  (11, ab_nx 12 (ab_aload 1)),
  (12, ab_nx 13 (ab_lit (.int 0))),
  (13, ab_nx 14 (ab_lit (.int 1))),
  (14, ab_nx 17 (ab_callV 3 9 f_X9_takeNumber 0 0 0 0)),
  (17, ab_if 20 22 (fun x => !decide (x = 0))),
  (20, ab_nx 21 (ab_lit (.int 0))),
  (21, ab_zret 0 0),
  (22, ab_nx 23 (ab_iload 2)),
  (23, ab_nx 25 (ab_lit (.int 12))),
  (25, ab_nx 26 (ab_bin (fun x y => x * y))),
  (26, ab_nx 27 (ab_iload 3)),
  (27, ab_nx 28 (ab_aload 1)),
  (28, ab_nx 31 (ab_getf 9 7)),
  (31, ab_nx 34 (ab_call 2 f_X10_slotOf 0 0 0 0)),
  (34, ab_nx 35 (ab_bin (fun x y => x + y))),
  (35, ab_nx 37 (ab_istore 4)),
  (37, ab_nx 38 (ab_aload 0)),
  (38, ab_nx 41 (ab_getf 7 12)),
  (41, ab_nx 42 (ab_lit (.long 1))),
  (42, ab_nx 44 (ab_iload 4)),
  (44, ab_nx 45 (ab_lsh (fun x y => x <<< (y.toInt64 &&& 63)))),
  (45, ab_nx 46 (ab_lbin (fun x y => x &&& y))),
  (46, ab_nx 47 (ab_lit (.long 0))),
  (47, ab_nx 48 ab_lcmp),
  (48, ab_if 51 57 (fun x => decide (x = 0))),
  (51, ab_nx 52 (ab_aload 1)),
  (52, ab_nx 53 (ab_lit (.int 3))),
  (53, ab_nx 56 (ab_callV 2 9 f_X9_fail 0 0 0 0)),
  (56, ab_zret 0 0),
  (57, ab_nx 58 (ab_iload 2)),
  (58, ab_nx 59 (ab_lit (.int 2))),
  (59, ab_icmp 62 67 (fun x y => decide (x = y))),
  (62, ab_nx 63 (ab_iload 2)),
  (63, ab_nx 64 (ab_lit (.int 3))),
  (64, ab_icmp 67 71 (fun x y => !decide (x = y))),
  (67, ab_nx 68 (ab_lit (.int 1))),
  (68, ab_goto 72),
  (71, ab_nx 72 (ab_lit (.int 0))),
  (72, ab_nx 74 (ab_istore 5)),
  (74, ab_nx 75 (ab_aload 1)),
  (75, ab_nx 76 (ab_lit (.int 0))),
  (76, ab_nx 78 (ab_iload 5)),
  (78, ab_if 81 86 (fun x => decide (x = 0))),
  (81, ab_nx 83 (ab_lit (.int 20))),
  (83, ab_goto 89),
  (86, ab_nx 89 (ab_lit (.int 250))),
  (89, ab_nx 92 (ab_callV 3 9 f_X9_takeNumber 0 0 0 0)),
  (92, ab_if 95 97 (fun x => !decide (x = 0))),
  (95, ab_nx 96 (ab_lit (.int 0))),
  (96, ab_zret 0 0),
  (97, ab_nx 98 (ab_aload 0)),
  (98, ab_nx 99 ab_dup),
  (99, ab_nx 102 (ab_getf 7 12)),
  (102, ab_nx 103 (ab_lit (.long 1))),
  (103, ab_nx 105 (ab_iload 4)),
  (105, ab_nx 106 (ab_lsh (fun x y => x <<< (y.toInt64 &&& 63)))),
  (106, ab_nx 107 (ab_lbin (fun x y => x ||| y))),
  (107, ab_nx 110 (ab_putf 7 12 1)),
  (110, ab_nx 111 (ab_aload 0)),
  (111, ab_nx 114 (ab_getf 7 3)),
  (114, ab_nx 116 (ab_iload 4)),
  (116, ab_nx 117 (ab_aload 1)),
  (117, ab_nx 120 (ab_getf 9 7)),
  (120, ab_nx 121 (ab_ast 1)),
  (121, ab_nx 122 (ab_lit (.int 1))),
  (122, ab_zret 0 0)]
set_option maxRecDepth 100000 in
set_option maxHeartbeats 4000000 in
theorem M_X7_readAmount {l : Launch} {b : ab_B} {D : va_G} {cA : Nat → ClassId} {f_X7_takeGood : List Value → ab_H → Option ab_O} (h_X7_takeGood : ab_M l b D ab_cl cA (ab_E0 b) yX7_takeGood (Cond.code yX7_takeGood cX7_takeGood 3 (some .int) :: ab_G) ({ frames := 3, cells := 0, slots := 0, locals := 300 } : Room) f_X7_takeGood) {f_X9_takeNumber : List Value → ab_H → Option ab_O} (h_X9_takeNumber : ab_M l b D ab_cl cA (ab_E0 b) yX9_takeNumber (Cond.code yX9_takeNumber cX9_takeNumber 3 (some .boolean) :: ab_G) ({ frames := 2, cells := 0, slots := 0, locals := 200 } : Room) f_X9_takeNumber) {f_X10_slotOf : List Value → ab_H → Option ab_O} (h_X10_slotOf : ab_M l b D ab_cl cA (ab_E0 b) yX10_slotOf (Cond.code yX10_slotOf cX10_slotOf 2 (some .int) :: ab_G) ({ frames := 1, cells := 0, slots := 0, locals := 100 } : Room) f_X10_slotOf) {f_X9_fail : List Value → ab_H → Option ab_O} (h_X9_fail : ab_M l b D ab_cl cA (ab_E0 b) yX9_fail (Cond.code yX9_fail cX9_fail 2 (some .boolean) :: ab_G) ({ frames := 1, cells := 0, slots := 0, locals := 100 } : Room) f_X9_fail) : ab_M l b D ab_cl cA (ab_E0 b) yX7_readAmount (Cond.code yX7_readAmount cX7_readAmount 6 (some .boolean) :: ab_G) ({ frames := 4, cells := 0, slots := 0, locals := 400 } : Room) (ab_X (ab_T (L_X7_readAmount f_X7_takeGood f_X9_takeNumber f_X10_slotOf f_X9_fail)) 6) := by
  refine ab_meth (ret := (some .boolean)) (L_X7_readAmount f_X7_takeGood f_X9_takeNumber f_X10_slotOf f_X9_fail) (by decide) rfl fun p e R s m args below meth c o C => ?_
  unfold L_X7_readAmount
  refine List.forall_mem_cons.mpr ⟨ok_aload_n C (show decode cX7_readAmount 0 = .ok (.aload_n 0, 1) by decide +kernel) rfl rfl, ?_⟩
  refine List.forall_mem_cons.mpr ⟨ok_aload_n C (show decode cX7_readAmount 1 = .ok (.aload_n 1, 1) by decide +kernel) rfl rfl, ?_⟩
  refine List.forall_mem_cons.mpr ⟨ok_callV C h_X7_takeGood ⟨rfl, rfl⟩ rfl kw_511 kw_508 kw_509 kw_510 kw_9 rfl ds_X7_takeGood ⟨by decide, by decide⟩ (show decode cX7_readAmount 2 = .ok (.invokevirtual 135, 3) by decide +kernel) rfl, ?_⟩
  refine List.forall_mem_cons.mpr ⟨ok_istore_n C (show decode cX7_readAmount 5 = .ok (.istore_n 3, 1) by decide +kernel) rfl (by decide) rfl, ?_⟩
  refine List.forall_mem_cons.mpr ⟨ok_iload_n C (show decode cX7_readAmount 6 = .ok (.iload_n 3, 1) by decide +kernel) rfl rfl, ?_⟩
  refine List.forall_mem_cons.mpr ⟨ok_iconst C (show decode cX7_readAmount 7 = .ok (.iconst (-1), 1) by decide +kernel) (by decide) rfl, ?_⟩
  refine List.forall_mem_cons.mpr ⟨ok_icmpeq C (show decode cX7_readAmount 8 = .ok (.if_icmp .eq 12, 3) by decide +kernel) (tg := 20) (by decide) rfl rfl, ?_⟩
  refine List.forall_mem_cons.mpr ⟨ok_aload_n C (show decode cX7_readAmount 11 = .ok (.aload_n 1, 1) by decide +kernel) rfl rfl, ?_⟩
  refine List.forall_mem_cons.mpr ⟨ok_iconst C (show decode cX7_readAmount 12 = .ok (.iconst 0, 1) by decide +kernel) (by decide) rfl, ?_⟩
  refine List.forall_mem_cons.mpr ⟨ok_iconst C (show decode cX7_readAmount 13 = .ok (.iconst 1, 1) by decide +kernel) (by decide) rfl, ?_⟩
  refine List.forall_mem_cons.mpr ⟨ok_callV C h_X9_takeNumber ⟨rfl, rfl⟩ rfl kw_529 kw_526 kw_527 kw_528 kw_3 rfl ds_X9_takeNumber ⟨by decide, by decide⟩ (show decode cX7_readAmount 14 = .ok (.invokevirtual 111, 3) by decide +kernel) rfl, ?_⟩
  refine List.forall_mem_cons.mpr ⟨ok_ifne C (show decode cX7_readAmount 17 = .ok (.ifCond .ne 5, 3) by decide +kernel) (tg := 22) (by decide) rfl rfl, ?_⟩
  refine List.forall_mem_cons.mpr ⟨ok_iconst C (show decode cX7_readAmount 20 = .ok (.iconst 0, 1) by decide +kernel) (by decide) rfl, ?_⟩
  refine List.forall_mem_cons.mpr ⟨ok_zret C rfl (show decode cX7_readAmount 21 = .ok (.ireturn, 1) by decide +kernel), ?_⟩
  refine List.forall_mem_cons.mpr ⟨ok_iload_n C (show decode cX7_readAmount 22 = .ok (.iload_n 2, 1) by decide +kernel) rfl rfl, ?_⟩
  refine List.forall_mem_cons.mpr ⟨ok_bipush C (show decode cX7_readAmount 23 = .ok (.bipush 12, 2) by decide +kernel) (by decide) rfl, ?_⟩
  refine List.forall_mem_cons.mpr ⟨ok_imul C (show decode cX7_readAmount 25 = .ok (.imul, 1) by decide +kernel) rfl, ?_⟩
  refine List.forall_mem_cons.mpr ⟨ok_iload_n C (show decode cX7_readAmount 26 = .ok (.iload_n 3, 1) by decide +kernel) rfl rfl, ?_⟩
  refine List.forall_mem_cons.mpr ⟨ok_aload_n C (show decode cX7_readAmount 27 = .ok (.aload_n 1, 1) by decide +kernel) rfl rfl, ?_⟩
  refine List.forall_mem_cons.mpr ⟨ok_getf C (wi_X9) rfl (by decide) kw_70 (show decode cX7_readAmount 28 = .ok (.getfield 115, 3) by decide +kernel) rfl, ?_⟩
  refine List.forall_mem_cons.mpr ⟨ok_callSN C h_X10_slotOf ⟨rfl, rfl⟩ kw_532 (host := "LackFerry") (by decide +kernel) kw_531 kw_1 ds_X10_slotOf ⟨by decide, by decide⟩ (show decode cX7_readAmount 31 = .ok (.invokestatic 139, 3) by decide +kernel) rfl, ?_⟩
  refine List.forall_mem_cons.mpr ⟨ok_iadd C (show decode cX7_readAmount 34 = .ok (.iadd, 1) by decide +kernel) rfl, ?_⟩
  refine List.forall_mem_cons.mpr ⟨ok_istore C (show decode cX7_readAmount 35 = .ok (.istore 4, 2) by decide +kernel) (by decide) rfl, ?_⟩
  refine List.forall_mem_cons.mpr ⟨ok_aload_n C (show decode cX7_readAmount 37 = .ok (.aload_n 0, 1) by decide +kernel) rfl rfl, ?_⟩
  refine List.forall_mem_cons.mpr ⟨ok_getf C (wi_X7) rfl (by decide) kw_260 (show decode cX7_readAmount 38 = .ok (.getfield 69, 3) by decide +kernel) rfl, ?_⟩
  refine List.forall_mem_cons.mpr ⟨ok_lconst C (show decode cX7_readAmount 41 = .ok (.lconst 1, 1) by decide +kernel) (by decide) rfl, ?_⟩
  refine List.forall_mem_cons.mpr ⟨ok_iload C (show decode cX7_readAmount 42 = .ok (.iload 4, 2) by decide +kernel) rfl, ?_⟩
  refine List.forall_mem_cons.mpr ⟨ok_lshl C (show decode cX7_readAmount 44 = .ok (.lshl, 1) by decide +kernel) rfl, ?_⟩
  refine List.forall_mem_cons.mpr ⟨ok_land C (show decode cX7_readAmount 45 = .ok (.land, 1) by decide +kernel) rfl, ?_⟩
  refine List.forall_mem_cons.mpr ⟨ok_lconst C (show decode cX7_readAmount 46 = .ok (.lconst 0, 1) by decide +kernel) (by decide) rfl, ?_⟩
  refine List.forall_mem_cons.mpr ⟨ok_lcmp C (show decode cX7_readAmount 47 = .ok (.lcmp, 1) by decide +kernel) rfl, ?_⟩
  refine List.forall_mem_cons.mpr ⟨ok_ifeq C (show decode cX7_readAmount 48 = .ok (.ifCond .eq 9, 3) by decide +kernel) (tg := 57) (by decide) rfl rfl, ?_⟩
  refine List.forall_mem_cons.mpr ⟨ok_aload_n C (show decode cX7_readAmount 51 = .ok (.aload_n 1, 1) by decide +kernel) rfl rfl, ?_⟩
  refine List.forall_mem_cons.mpr ⟨ok_iconst C (show decode cX7_readAmount 52 = .ok (.iconst 3, 1) by decide +kernel) (by decide) rfl, ?_⟩
  refine List.forall_mem_cons.mpr ⟨ok_callV C h_X9_fail ⟨rfl, rfl⟩ rfl kw_520 kw_525 kw_518 kw_519 kw_3 rfl ds_X9_fail ⟨by decide, by decide⟩ (show decode cX7_readAmount 53 = .ok (.invokevirtual 108, 3) by decide +kernel) rfl, ?_⟩
  refine List.forall_mem_cons.mpr ⟨ok_zret C rfl (show decode cX7_readAmount 56 = .ok (.ireturn, 1) by decide +kernel), ?_⟩
  refine List.forall_mem_cons.mpr ⟨ok_iload_n C (show decode cX7_readAmount 57 = .ok (.iload_n 2, 1) by decide +kernel) rfl rfl, ?_⟩
  refine List.forall_mem_cons.mpr ⟨ok_iconst C (show decode cX7_readAmount 58 = .ok (.iconst 2, 1) by decide +kernel) (by decide) rfl, ?_⟩
  refine List.forall_mem_cons.mpr ⟨ok_icmpeq C (show decode cX7_readAmount 59 = .ok (.if_icmp .eq 8, 3) by decide +kernel) (tg := 67) (by decide) rfl rfl, ?_⟩
  refine List.forall_mem_cons.mpr ⟨ok_iload_n C (show decode cX7_readAmount 62 = .ok (.iload_n 2, 1) by decide +kernel) rfl rfl, ?_⟩
  refine List.forall_mem_cons.mpr ⟨ok_iconst C (show decode cX7_readAmount 63 = .ok (.iconst 3, 1) by decide +kernel) (by decide) rfl, ?_⟩
  refine List.forall_mem_cons.mpr ⟨ok_icmpne C (show decode cX7_readAmount 64 = .ok (.if_icmp .ne 7, 3) by decide +kernel) (tg := 71) (by decide) rfl rfl, ?_⟩
  refine List.forall_mem_cons.mpr ⟨ok_iconst C (show decode cX7_readAmount 67 = .ok (.iconst 1, 1) by decide +kernel) (by decide) rfl, ?_⟩
  refine List.forall_mem_cons.mpr ⟨ok_goto C (show decode cX7_readAmount 68 = .ok (.goto 4, 3) by decide +kernel) (tg := 72) (by decide) rfl, ?_⟩
  refine List.forall_mem_cons.mpr ⟨ok_iconst C (show decode cX7_readAmount 71 = .ok (.iconst 0, 1) by decide +kernel) (by decide) rfl, ?_⟩
  refine List.forall_mem_cons.mpr ⟨ok_istore C (show decode cX7_readAmount 72 = .ok (.istore 5, 2) by decide +kernel) (by decide) rfl, ?_⟩
  refine List.forall_mem_cons.mpr ⟨ok_aload_n C (show decode cX7_readAmount 74 = .ok (.aload_n 1, 1) by decide +kernel) rfl rfl, ?_⟩
  refine List.forall_mem_cons.mpr ⟨ok_iconst C (show decode cX7_readAmount 75 = .ok (.iconst 0, 1) by decide +kernel) (by decide) rfl, ?_⟩
  refine List.forall_mem_cons.mpr ⟨ok_iload C (show decode cX7_readAmount 76 = .ok (.iload 5, 2) by decide +kernel) rfl, ?_⟩
  refine List.forall_mem_cons.mpr ⟨ok_ifeq C (show decode cX7_readAmount 78 = .ok (.ifCond .eq 8, 3) by decide +kernel) (tg := 86) (by decide) rfl rfl, ?_⟩
  refine List.forall_mem_cons.mpr ⟨ok_bipush C (show decode cX7_readAmount 81 = .ok (.bipush 20, 2) by decide +kernel) (by decide) rfl, ?_⟩
  refine List.forall_mem_cons.mpr ⟨ok_goto C (show decode cX7_readAmount 83 = .ok (.goto 6, 3) by decide +kernel) (tg := 89) (by decide) rfl, ?_⟩
  refine List.forall_mem_cons.mpr ⟨ok_sipush C (show decode cX7_readAmount 86 = .ok (.sipush 250, 3) by decide +kernel) (by decide) rfl, ?_⟩
  refine List.forall_mem_cons.mpr ⟨ok_callV C h_X9_takeNumber ⟨rfl, rfl⟩ rfl kw_529 kw_526 kw_527 kw_528 kw_3 rfl ds_X9_takeNumber ⟨by decide, by decide⟩ (show decode cX7_readAmount 89 = .ok (.invokevirtual 111, 3) by decide +kernel) rfl, ?_⟩
  refine List.forall_mem_cons.mpr ⟨ok_ifne C (show decode cX7_readAmount 92 = .ok (.ifCond .ne 5, 3) by decide +kernel) (tg := 97) (by decide) rfl rfl, ?_⟩
  refine List.forall_mem_cons.mpr ⟨ok_iconst C (show decode cX7_readAmount 95 = .ok (.iconst 0, 1) by decide +kernel) (by decide) rfl, ?_⟩
  refine List.forall_mem_cons.mpr ⟨ok_zret C rfl (show decode cX7_readAmount 96 = .ok (.ireturn, 1) by decide +kernel), ?_⟩
  refine List.forall_mem_cons.mpr ⟨ok_aload_n C (show decode cX7_readAmount 97 = .ok (.aload_n 0, 1) by decide +kernel) rfl rfl, ?_⟩
  refine List.forall_mem_cons.mpr ⟨ok_dup C (show decode cX7_readAmount 98 = .ok (.dup, 1) by decide +kernel) rfl, ?_⟩
  refine List.forall_mem_cons.mpr ⟨ok_getf C (wi_X7) rfl (by decide) kw_260 (show decode cX7_readAmount 99 = .ok (.getfield 69, 3) by decide +kernel) rfl, ?_⟩
  refine List.forall_mem_cons.mpr ⟨ok_lconst C (show decode cX7_readAmount 102 = .ok (.lconst 1, 1) by decide +kernel) (by decide) rfl, ?_⟩
  refine List.forall_mem_cons.mpr ⟨ok_iload C (show decode cX7_readAmount 103 = .ok (.iload 4, 2) by decide +kernel) rfl, ?_⟩
  refine List.forall_mem_cons.mpr ⟨ok_lshl C (show decode cX7_readAmount 105 = .ok (.lshl, 1) by decide +kernel) rfl, ?_⟩
  refine List.forall_mem_cons.mpr ⟨ok_lor C (show decode cX7_readAmount 106 = .ok (.lor, 1) by decide +kernel) rfl, ?_⟩
  refine List.forall_mem_cons.mpr ⟨ok_putf C (wi_X7) tyX7 tyX7_ok nmX7 rfl (by decide) kw_260 (Or.inl rfl) (Or.inr (Or.inl ⟨rfl, rfl⟩)) (show decode cX7_readAmount 107 = .ok (.putfield 69, 3) by decide +kernel) rfl, ?_⟩
  refine List.forall_mem_cons.mpr ⟨ok_aload_n C (show decode cX7_readAmount 110 = .ok (.aload_n 0, 1) by decide +kernel) rfl rfl, ?_⟩
  refine List.forall_mem_cons.mpr ⟨ok_getf C (wi_X7) rfl (by decide) kw_238 (show decode cX7_readAmount 111 = .ok (.getfield 22, 3) by decide +kernel) rfl, ?_⟩
  refine List.forall_mem_cons.mpr ⟨ok_iload C (show decode cX7_readAmount 114 = .ok (.iload 4, 2) by decide +kernel) rfl, ?_⟩
  refine List.forall_mem_cons.mpr ⟨ok_aload_n C (show decode cX7_readAmount 116 = .ok (.aload_n 1, 1) by decide +kernel) rfl rfl, ?_⟩
  refine List.forall_mem_cons.mpr ⟨ok_getf C (wi_X9) rfl (by decide) kw_70 (show decode cX7_readAmount 117 = .ok (.getfield 115, 3) by decide +kernel) rfl, ?_⟩
  refine List.forall_mem_cons.mpr ⟨ok_iastore C (show decode cX7_readAmount 120 = .ok (.iastore, 1) by decide +kernel) rfl, ?_⟩
  refine List.forall_mem_cons.mpr ⟨ok_iconst C (show decode cX7_readAmount 121 = .ok (.iconst 1, 1) by decide +kernel) (by decide) rfl, ?_⟩
  refine List.forall_mem_cons.mpr ⟨ok_zret C rfl (show decode cX7_readAmount 122 = .ok (.ireturn, 1) by decide +kernel), ?_⟩
  exact fun _ h => absurd h List.not_mem_nil
def L_X7_readLoad (f_X9_fail : List Value → ab_H → Option ab_O) (f_X9_takeNumber : List Value → ab_H → Option ab_O) : List (Nat × ab_A) := [
  (0, ab_nx 1 (ab_aload 0)),
  (1, ab_nx 4 (ab_getf 7 11)),
  (4, ab_if 7 13 (fun x => decide (x = 0))),
  (7, ab_nx 8 (ab_aload 1)),
  (8, ab_nx 9 (ab_lit (.int 3))),
  (9, ab_nx 12 (ab_callV 2 9 f_X9_fail 0 0 0 0)),
  (12, ab_zret 0 0),
  (13, ab_nx 14 (ab_aload 1)),
  (14, ab_nx 15 (ab_lit (.int 1))),
  (15, ab_nx 17 (ab_lit (.int 40))),
  (17, ab_nx 20 (ab_callV 3 9 f_X9_takeNumber 0 0 0 0)),
  (20, ab_if 23 25 (fun x => !decide (x = 0))),
  (23, ab_nx 24 (ab_lit (.int 0))),
  (24, ab_zret 0 0),
  (25, ab_nx 26 (ab_aload 0)),
  (26, ab_nx 27 (ab_lit (.int 1))),
  (27, ab_nx 30 (ab_putf 7 11 3)),
  (30, ab_nx 31 (ab_aload 0)),
  (31, ab_nx 32 (ab_aload 1)),
  (32, ab_nx 35 (ab_getf 9 7)),
  (35, ab_nx 38 (ab_putf 7 7 0)),
  (38, ab_nx 39 (ab_lit (.int 1))),
  (39, ab_zret 0 0)]
set_option maxRecDepth 100000 in
set_option maxHeartbeats 4000000 in
theorem M_X7_readLoad {l : Launch} {b : ab_B} {D : va_G} {cA : Nat → ClassId} {f_X9_fail : List Value → ab_H → Option ab_O} (h_X9_fail : ab_M l b D ab_cl cA (ab_E0 b) yX9_fail (Cond.code yX9_fail cX9_fail 2 (some .boolean) :: ab_G) ({ frames := 1, cells := 0, slots := 0, locals := 100 } : Room) f_X9_fail) {f_X9_takeNumber : List Value → ab_H → Option ab_O} (h_X9_takeNumber : ab_M l b D ab_cl cA (ab_E0 b) yX9_takeNumber (Cond.code yX9_takeNumber cX9_takeNumber 3 (some .boolean) :: ab_G) ({ frames := 2, cells := 0, slots := 0, locals := 200 } : Room) f_X9_takeNumber) : ab_M l b D ab_cl cA (ab_E0 b) yX7_readLoad (Cond.code yX7_readLoad cX7_readLoad 2 (some .boolean) :: ab_G) ({ frames := 3, cells := 0, slots := 0, locals := 300 } : Room) (ab_X (ab_T (L_X7_readLoad f_X9_fail f_X9_takeNumber)) 2) := by
  refine ab_meth (ret := (some .boolean)) (L_X7_readLoad f_X9_fail f_X9_takeNumber) (by decide) rfl fun p e R s m args below meth c o C => ?_
  unfold L_X7_readLoad
  refine List.forall_mem_cons.mpr ⟨ok_aload_n C (show decode cX7_readLoad 0 = .ok (.aload_n 0, 1) by decide +kernel) rfl rfl, ?_⟩
  refine List.forall_mem_cons.mpr ⟨ok_getf C (wi_X7) rfl (by decide) kw_259 (show decode cX7_readLoad 1 = .ok (.getfield 65, 3) by decide +kernel) rfl, ?_⟩
  refine List.forall_mem_cons.mpr ⟨ok_ifeq C (show decode cX7_readLoad 4 = .ok (.ifCond .eq 9, 3) by decide +kernel) (tg := 13) (by decide) rfl rfl, ?_⟩
  refine List.forall_mem_cons.mpr ⟨ok_aload_n C (show decode cX7_readLoad 7 = .ok (.aload_n 1, 1) by decide +kernel) rfl rfl, ?_⟩
  refine List.forall_mem_cons.mpr ⟨ok_iconst C (show decode cX7_readLoad 8 = .ok (.iconst 3, 1) by decide +kernel) (by decide) rfl, ?_⟩
  refine List.forall_mem_cons.mpr ⟨ok_callV C h_X9_fail ⟨rfl, rfl⟩ rfl kw_520 kw_525 kw_518 kw_519 kw_3 rfl ds_X9_fail ⟨by decide, by decide⟩ (show decode cX7_readLoad 9 = .ok (.invokevirtual 108, 3) by decide +kernel) rfl, ?_⟩
  refine List.forall_mem_cons.mpr ⟨ok_zret C rfl (show decode cX7_readLoad 12 = .ok (.ireturn, 1) by decide +kernel), ?_⟩
  refine List.forall_mem_cons.mpr ⟨ok_aload_n C (show decode cX7_readLoad 13 = .ok (.aload_n 1, 1) by decide +kernel) rfl rfl, ?_⟩
  refine List.forall_mem_cons.mpr ⟨ok_iconst C (show decode cX7_readLoad 14 = .ok (.iconst 1, 1) by decide +kernel) (by decide) rfl, ?_⟩
  refine List.forall_mem_cons.mpr ⟨ok_bipush C (show decode cX7_readLoad 15 = .ok (.bipush 40, 2) by decide +kernel) (by decide) rfl, ?_⟩
  refine List.forall_mem_cons.mpr ⟨ok_callV C h_X9_takeNumber ⟨rfl, rfl⟩ rfl kw_529 kw_526 kw_527 kw_528 kw_3 rfl ds_X9_takeNumber ⟨by decide, by decide⟩ (show decode cX7_readLoad 17 = .ok (.invokevirtual 111, 3) by decide +kernel) rfl, ?_⟩
  refine List.forall_mem_cons.mpr ⟨ok_ifne C (show decode cX7_readLoad 20 = .ok (.ifCond .ne 5, 3) by decide +kernel) (tg := 25) (by decide) rfl rfl, ?_⟩
  refine List.forall_mem_cons.mpr ⟨ok_iconst C (show decode cX7_readLoad 23 = .ok (.iconst 0, 1) by decide +kernel) (by decide) rfl, ?_⟩
  refine List.forall_mem_cons.mpr ⟨ok_zret C rfl (show decode cX7_readLoad 24 = .ok (.ireturn, 1) by decide +kernel), ?_⟩
  refine List.forall_mem_cons.mpr ⟨ok_aload_n C (show decode cX7_readLoad 25 = .ok (.aload_n 0, 1) by decide +kernel) rfl rfl, ?_⟩
  refine List.forall_mem_cons.mpr ⟨ok_iconst C (show decode cX7_readLoad 26 = .ok (.iconst 1, 1) by decide +kernel) (by decide) rfl, ?_⟩
  refine List.forall_mem_cons.mpr ⟨ok_putf C (wi_X7) tyX7 tyX7_ok nmX7 rfl (by decide) kw_259 (Or.inl rfl) (Or.inr (Or.inr (Or.inr ⟨rfl, rfl⟩))) (show decode cX7_readLoad 27 = .ok (.putfield 65, 3) by decide +kernel) rfl, ?_⟩
  refine List.forall_mem_cons.mpr ⟨ok_aload_n C (show decode cX7_readLoad 30 = .ok (.aload_n 0, 1) by decide +kernel) rfl rfl, ?_⟩
  refine List.forall_mem_cons.mpr ⟨ok_aload_n C (show decode cX7_readLoad 31 = .ok (.aload_n 1, 1) by decide +kernel) rfl rfl, ?_⟩
  refine List.forall_mem_cons.mpr ⟨ok_getf C (wi_X9) rfl (by decide) kw_70 (show decode cX7_readLoad 32 = .ok (.getfield 115, 3) by decide +kernel) rfl, ?_⟩
  refine List.forall_mem_cons.mpr ⟨ok_putf C (wi_X7) tyX7 tyX7_ok nmX7 rfl (by decide) kw_245 (Or.inl rfl) (Or.inl ⟨rfl, rfl⟩) (show decode cX7_readLoad 35 = .ok (.putfield 34, 3) by decide +kernel) rfl, ?_⟩
  refine List.forall_mem_cons.mpr ⟨ok_iconst C (show decode cX7_readLoad 38 = .ok (.iconst 1, 1) by decide +kernel) (by decide) rfl, ?_⟩
  refine List.forall_mem_cons.mpr ⟨ok_zret C rfl (show decode cX7_readLoad 39 = .ok (.ireturn, 1) by decide +kernel), ?_⟩
  exact fun _ h => absurd h List.not_mem_nil
def L_X7_takeNewName (f_X9_takeName : List Value → ab_H → Option ab_O) (f_X7_goodNamed : List Value → ab_H → Option ab_O) (f_X7_manNamed : List Value → ab_H → Option ab_O) (f_X9_fail : List Value → ab_H → Option ab_O) : List (Nat × ab_A) := [
  (0, ab_nx 1 (ab_aload 1)),
  (1, ab_nx 4 (ab_callV 1 9 f_X9_takeName 0 0 0 0)),
  (4, ab_if 7 9 (fun x => !decide (x = 0))),
  (7, ab_nx 8 (ab_lit (.int 0))),
  (8, ab_zret 0 0),
  (9, ab_nx 10 (ab_aload 0)),
  (10, ab_nx 11 (ab_aload 1)),
  (11, ab_nx 14 (ab_getf 9 8)),
  (14, ab_nx 17 (ab_callV 2 7 f_X7_goodNamed 0 0 0 0)),
  (17, ab_nx 18 (ab_lit (.int (-1)))),
  (18, ab_icmp 21 37 (fun x y => !decide (x = y))),
  (21, ab_nx 22 (ab_aload 0)),
  (22, ab_nx 23 (ab_aload 1)),
  (23, ab_nx 26 (ab_getf 9 8)),
  (26, ab_nx 29 (ab_callV 2 7 f_X7_manNamed 0 0 0 0)),
  (29, ab_nx 30 (ab_lit (.int (-1)))),
  (30, ab_icmp 33 37 (fun x y => !decide (x = y))),
  (33, ab_nx 34 (ab_lit (.int 1))),
  (34, ab_goto 38),
  (37, ab_nx 38 (ab_lit (.int 0))),
  (38, ab_nx 39 (ab_istore 2)),
  (39, ab_nx 40 (ab_iload 2)),
  (40, ab_if 43 51 (fun x => !decide (x = 0))),
  (43, ab_nx 44 (ab_aload 1)),
  (44, ab_nx 45 (ab_lit (.int 3))),
  (45, ab_nx 48 (ab_callV 2 9 f_X9_fail 0 0 0 0)),
  (48, ab_if 51 55 (fun x => decide (x = 0))),
  (51, ab_nx 52 (ab_lit (.int 1))),
  (52, ab_goto 56),
  (55, ab_nx 56 (ab_lit (.int 0))),
  (56, ab_zret 0 0)]
set_option maxRecDepth 100000 in
set_option maxHeartbeats 4000000 in
theorem M_X7_takeNewName {l : Launch} {b : ab_B} {D : va_G} {cA : Nat → ClassId} {f_X9_takeName : List Value → ab_H → Option ab_O} (h_X9_takeName : ab_M l b D ab_cl cA (ab_E0 b) yX9_takeName (Cond.code yX9_takeName cX9_takeName 1 (some .boolean) :: ab_G) ({ frames := 2, cells := 0, slots := 0, locals := 200 } : Room) f_X9_takeName) {f_X7_goodNamed : List Value → ab_H → Option ab_O} (h_X7_goodNamed : ab_M l b D ab_cl cA (ab_E0 b) yX7_goodNamed (Cond.code yX7_goodNamed cX7_goodNamed 4 (some .int) :: ab_G) ({ frames := 1, cells := 0, slots := 0, locals := 100 } : Room) f_X7_goodNamed) {f_X7_manNamed : List Value → ab_H → Option ab_O} (h_X7_manNamed : ab_M l b D ab_cl cA (ab_E0 b) yX7_manNamed (Cond.code yX7_manNamed cX7_manNamed 4 (some .int) :: ab_G) ({ frames := 1, cells := 0, slots := 0, locals := 100 } : Room) f_X7_manNamed) {f_X9_fail : List Value → ab_H → Option ab_O} (h_X9_fail : ab_M l b D ab_cl cA (ab_E0 b) yX9_fail (Cond.code yX9_fail cX9_fail 2 (some .boolean) :: ab_G) ({ frames := 1, cells := 0, slots := 0, locals := 100 } : Room) f_X9_fail) : ab_M l b D ab_cl cA (ab_E0 b) yX7_takeNewName (Cond.code yX7_takeNewName cX7_takeNewName 3 (some .boolean) :: ab_G) ({ frames := 3, cells := 0, slots := 0, locals := 300 } : Room) (ab_X (ab_T (L_X7_takeNewName f_X9_takeName f_X7_goodNamed f_X7_manNamed f_X9_fail)) 3) := by
  refine ab_meth (ret := (some .boolean)) (L_X7_takeNewName f_X9_takeName f_X7_goodNamed f_X7_manNamed f_X9_fail) (by decide) rfl fun p e R s m args below meth c o C => ?_
  unfold L_X7_takeNewName
  refine List.forall_mem_cons.mpr ⟨ok_aload_n C (show decode cX7_takeNewName 0 = .ok (.aload_n 1, 1) by decide +kernel) rfl rfl, ?_⟩
  refine List.forall_mem_cons.mpr ⟨ok_callV C h_X9_takeName ⟨rfl, rfl⟩ rfl kw_515 kw_512 kw_513 kw_514 kw_3 rfl ds_X9_takeName ⟨by decide, by decide⟩ (show decode cX7_takeNewName 1 = .ok (.invokevirtual 118, 3) by decide +kernel) rfl, ?_⟩
  refine List.forall_mem_cons.mpr ⟨ok_ifne C (show decode cX7_takeNewName 4 = .ok (.ifCond .ne 5, 3) by decide +kernel) (tg := 9) (by decide) rfl rfl, ?_⟩
  refine List.forall_mem_cons.mpr ⟨ok_iconst C (show decode cX7_takeNewName 7 = .ok (.iconst 0, 1) by decide +kernel) (by decide) rfl, ?_⟩
  refine List.forall_mem_cons.mpr ⟨ok_zret C rfl (show decode cX7_takeNewName 8 = .ok (.ireturn, 1) by decide +kernel), ?_⟩
  refine List.forall_mem_cons.mpr ⟨ok_aload_n C (show decode cX7_takeNewName 9 = .ok (.aload_n 0, 1) by decide +kernel) rfl rfl, ?_⟩
  refine List.forall_mem_cons.mpr ⟨ok_aload_n C (show decode cX7_takeNewName 10 = .ok (.aload_n 1, 1) by decide +kernel) rfl rfl, ?_⟩
  refine List.forall_mem_cons.mpr ⟨ok_getf C (wi_X9) rfl (by decide) kw_73 (show decode cX7_takeNewName 11 = .ok (.getfield 122, 3) by decide +kernel) rfl, ?_⟩
  refine List.forall_mem_cons.mpr ⟨ok_callV C h_X7_goodNamed ⟨rfl, rfl⟩ rfl kw_524 kw_521 kw_522 kw_523 kw_9 rfl ds_X7_goodNamed ⟨by decide, by decide⟩ (show decode cX7_takeNewName 14 = .ok (.invokevirtual 125, 3) by decide +kernel) rfl, ?_⟩
  refine List.forall_mem_cons.mpr ⟨ok_iconst C (show decode cX7_takeNewName 17 = .ok (.iconst (-1), 1) by decide +kernel) (by decide) rfl, ?_⟩
  refine List.forall_mem_cons.mpr ⟨ok_icmpne C (show decode cX7_takeNewName 18 = .ok (.if_icmp .ne 19, 3) by decide +kernel) (tg := 37) (by decide) rfl rfl, ?_⟩
  refine List.forall_mem_cons.mpr ⟨ok_aload_n C (show decode cX7_takeNewName 21 = .ok (.aload_n 0, 1) by decide +kernel) rfl rfl, ?_⟩
  refine List.forall_mem_cons.mpr ⟨ok_aload_n C (show decode cX7_takeNewName 22 = .ok (.aload_n 1, 1) by decide +kernel) rfl rfl, ?_⟩
  refine List.forall_mem_cons.mpr ⟨ok_getf C (wi_X9) rfl (by decide) kw_73 (show decode cX7_takeNewName 23 = .ok (.getfield 122, 3) by decide +kernel) rfl, ?_⟩
  refine List.forall_mem_cons.mpr ⟨ok_callV C h_X7_manNamed ⟨rfl, rfl⟩ rfl kw_548 kw_545 kw_546 kw_547 kw_9 rfl ds_X7_manNamed ⟨by decide, by decide⟩ (show decode cX7_takeNewName 26 = .ok (.invokevirtual 129, 3) by decide +kernel) rfl, ?_⟩
  refine List.forall_mem_cons.mpr ⟨ok_iconst C (show decode cX7_takeNewName 29 = .ok (.iconst (-1), 1) by decide +kernel) (by decide) rfl, ?_⟩
  refine List.forall_mem_cons.mpr ⟨ok_icmpne C (show decode cX7_takeNewName 30 = .ok (.if_icmp .ne 7, 3) by decide +kernel) (tg := 37) (by decide) rfl rfl, ?_⟩
  refine List.forall_mem_cons.mpr ⟨ok_iconst C (show decode cX7_takeNewName 33 = .ok (.iconst 1, 1) by decide +kernel) (by decide) rfl, ?_⟩
  refine List.forall_mem_cons.mpr ⟨ok_goto C (show decode cX7_takeNewName 34 = .ok (.goto 4, 3) by decide +kernel) (tg := 38) (by decide) rfl, ?_⟩
  refine List.forall_mem_cons.mpr ⟨ok_iconst C (show decode cX7_takeNewName 37 = .ok (.iconst 0, 1) by decide +kernel) (by decide) rfl, ?_⟩
  refine List.forall_mem_cons.mpr ⟨ok_istore_n C (show decode cX7_takeNewName 38 = .ok (.istore_n 2, 1) by decide +kernel) rfl (by decide) rfl, ?_⟩
  refine List.forall_mem_cons.mpr ⟨ok_iload_n C (show decode cX7_takeNewName 39 = .ok (.iload_n 2, 1) by decide +kernel) rfl rfl, ?_⟩
  refine List.forall_mem_cons.mpr ⟨ok_ifne C (show decode cX7_takeNewName 40 = .ok (.ifCond .ne 11, 3) by decide +kernel) (tg := 51) (by decide) rfl rfl, ?_⟩
  refine List.forall_mem_cons.mpr ⟨ok_aload_n C (show decode cX7_takeNewName 43 = .ok (.aload_n 1, 1) by decide +kernel) rfl rfl, ?_⟩
  refine List.forall_mem_cons.mpr ⟨ok_iconst C (show decode cX7_takeNewName 44 = .ok (.iconst 3, 1) by decide +kernel) (by decide) rfl, ?_⟩
  refine List.forall_mem_cons.mpr ⟨ok_callV C h_X9_fail ⟨rfl, rfl⟩ rfl kw_520 kw_525 kw_518 kw_519 kw_3 rfl ds_X9_fail ⟨by decide, by decide⟩ (show decode cX7_takeNewName 45 = .ok (.invokevirtual 108, 3) by decide +kernel) rfl, ?_⟩
  refine List.forall_mem_cons.mpr ⟨ok_ifeq C (show decode cX7_takeNewName 48 = .ok (.ifCond .eq 7, 3) by decide +kernel) (tg := 55) (by decide) rfl rfl, ?_⟩
  refine List.forall_mem_cons.mpr ⟨ok_iconst C (show decode cX7_takeNewName 51 = .ok (.iconst 1, 1) by decide +kernel) (by decide) rfl, ?_⟩
  refine List.forall_mem_cons.mpr ⟨ok_goto C (show decode cX7_takeNewName 52 = .ok (.goto 4, 3) by decide +kernel) (tg := 56) (by decide) rfl, ?_⟩
  refine List.forall_mem_cons.mpr ⟨ok_iconst C (show decode cX7_takeNewName 55 = .ok (.iconst 0, 1) by decide +kernel) (by decide) rfl, ?_⟩
  refine List.forall_mem_cons.mpr ⟨ok_zret C rfl (show decode cX7_takeNewName 56 = .ok (.ireturn, 1) by decide +kernel), ?_⟩
  exact fun _ h => absurd h List.not_mem_nil
def L_X7_readGood (f_X9_fail : List Value → ab_H → Option ab_O) (f_X7_takeNewName : List Value → ab_H → Option ab_O) : List (Nat × ab_A) := [
  (0, ab_nx 1 (ab_aload 0)),
  (1, ab_nx 4 (ab_getf 7 8)),
  (4, ab_nx 6 (ab_lit (.int 6))),
  (6, ab_icmp 9 15 (fun x y => decide (x < y))),
  (9, ab_nx 10 (ab_aload 1)),
  (10, ab_nx 11 (ab_lit (.int 4))),
  (11, ab_nx 14 (ab_callV 2 9 f_X9_fail 0 0 0 0)),
  (14, ab_zret 0 0),
  (15, ab_nx 16 (ab_aload 0)),
  (16, ab_nx 17 (ab_aload 1)),
  (17, ab_nx 20 (ab_callV 2 7 f_X7_takeNewName 0 0 0 0)),
  (20, ab_if 23 25 (fun x => !decide (x = 0))),
  (23, ab_nx 24 (ab_lit (.int 0))),
  (24, ab_zret 0 0),
  (25, ab_nx 26 (ab_aload 0)),
  (26, ab_nx 29 (ab_getf 7 0)),
  (29, ab_nx 30 (ab_aload 0)),
  (30, ab_nx 33 (ab_getf 7 8)),
  (33, ab_nx 34 (ab_aload 1)),
  (34, ab_nx 37 (ab_getf 9 8)),
  (37, ab_nx 38 ab_last),
  (38, ab_nx 39 (ab_aload 0)),
  (39, ab_nx 40 ab_dup),
  (40, ab_nx 43 (ab_getf 7 8)),
  (43, ab_nx 44 (ab_lit (.int 1))),
  (44, ab_nx 45 (ab_bin (fun x y => x + y))),
  (45, ab_nx 48 (ab_putf 7 8 0)),
  (48, ab_nx 49 (ab_lit (.int 1))),
  (49, ab_zret 0 0)]
set_option maxRecDepth 100000 in
set_option maxHeartbeats 4000000 in
theorem M_X7_readGood {l : Launch} {b : ab_B} {D : va_G} {cA : Nat → ClassId} {f_X9_fail : List Value → ab_H → Option ab_O} (h_X9_fail : ab_M l b D ab_cl cA (ab_E0 b) yX9_fail (Cond.code yX9_fail cX9_fail 2 (some .boolean) :: ab_G) ({ frames := 1, cells := 0, slots := 0, locals := 100 } : Room) f_X9_fail) {f_X7_takeNewName : List Value → ab_H → Option ab_O} (h_X7_takeNewName : ab_M l b D ab_cl cA (ab_E0 b) yX7_takeNewName (Cond.code yX7_takeNewName cX7_takeNewName 3 (some .boolean) :: ab_G) ({ frames := 3, cells := 0, slots := 0, locals := 300 } : Room) f_X7_takeNewName) : ab_M l b D ab_cl cA (ab_E0 b) yX7_readGood (Cond.code yX7_readGood cX7_readGood 2 (some .boolean) :: ab_G) ({ frames := 4, cells := 0, slots := 0, locals := 400 } : Room) (ab_X (ab_T (L_X7_readGood f_X9_fail f_X7_takeNewName)) 2) := by
  refine ab_meth (ret := (some .boolean)) (L_X7_readGood f_X9_fail f_X7_takeNewName) (by decide) rfl fun p e R s m args below meth c o C => ?_
  unfold L_X7_readGood
  refine List.forall_mem_cons.mpr ⟨ok_aload_n C (show decode cX7_readGood 0 = .ok (.aload_n 0, 1) by decide +kernel) rfl rfl, ?_⟩
  refine List.forall_mem_cons.mpr ⟨ok_getf C (wi_X7) rfl (by decide) kw_249 (show decode cX7_readGood 1 = .ok (.getfield 56, 3) by decide +kernel) rfl, ?_⟩
  refine List.forall_mem_cons.mpr ⟨ok_bipush C (show decode cX7_readGood 4 = .ok (.bipush 6, 2) by decide +kernel) (by decide) rfl, ?_⟩
  refine List.forall_mem_cons.mpr ⟨ok_icmplt C (show decode cX7_readGood 6 = .ok (.if_icmp .lt 9, 3) by decide +kernel) (tg := 15) (by decide) rfl rfl, ?_⟩
  refine List.forall_mem_cons.mpr ⟨ok_aload_n C (show decode cX7_readGood 9 = .ok (.aload_n 1, 1) by decide +kernel) rfl rfl, ?_⟩
  refine List.forall_mem_cons.mpr ⟨ok_iconst C (show decode cX7_readGood 10 = .ok (.iconst 4, 1) by decide +kernel) (by decide) rfl, ?_⟩
  refine List.forall_mem_cons.mpr ⟨ok_callV C h_X9_fail ⟨rfl, rfl⟩ rfl kw_520 kw_525 kw_518 kw_519 kw_3 rfl ds_X9_fail ⟨by decide, by decide⟩ (show decode cX7_readGood 11 = .ok (.invokevirtual 108, 3) by decide +kernel) rfl, ?_⟩
  refine List.forall_mem_cons.mpr ⟨ok_zret C rfl (show decode cX7_readGood 14 = .ok (.ireturn, 1) by decide +kernel), ?_⟩
  refine List.forall_mem_cons.mpr ⟨ok_aload_n C (show decode cX7_readGood 15 = .ok (.aload_n 0, 1) by decide +kernel) rfl rfl, ?_⟩
  refine List.forall_mem_cons.mpr ⟨ok_aload_n C (show decode cX7_readGood 16 = .ok (.aload_n 1, 1) by decide +kernel) rfl rfl, ?_⟩
  refine List.forall_mem_cons.mpr ⟨ok_callV C h_X7_takeNewName ⟨rfl, rfl⟩ rfl kw_544 kw_541 kw_543 kp_10 kw_9 rfl ds_X7_takeNewName ⟨by decide, by decide⟩ (show decode cX7_readGood 17 = .ok (.invokevirtual 132, 3) by decide +kernel) rfl, ?_⟩
  refine List.forall_mem_cons.mpr ⟨ok_ifne C (show decode cX7_readGood 20 = .ok (.ifCond .ne 5, 3) by decide +kernel) (tg := 25) (by decide) rfl rfl, ?_⟩
  refine List.forall_mem_cons.mpr ⟨ok_iconst C (show decode cX7_readGood 23 = .ok (.iconst 0, 1) by decide +kernel) (by decide) rfl, ?_⟩
  refine List.forall_mem_cons.mpr ⟨ok_zret C rfl (show decode cX7_readGood 24 = .ok (.ireturn, 1) by decide +kernel), ?_⟩
  refine List.forall_mem_cons.mpr ⟨ok_aload_n C (show decode cX7_readGood 25 = .ok (.aload_n 0, 1) by decide +kernel) rfl rfl, ?_⟩
  refine List.forall_mem_cons.mpr ⟨ok_getf C (wi_X7) rfl (by decide) kw_234 (show decode cX7_readGood 26 = .ok (.getfield 9, 3) by decide +kernel) rfl, ?_⟩
  refine List.forall_mem_cons.mpr ⟨ok_aload_n C (show decode cX7_readGood 29 = .ok (.aload_n 0, 1) by decide +kernel) rfl rfl, ?_⟩
  refine List.forall_mem_cons.mpr ⟨ok_getf C (wi_X7) rfl (by decide) kw_249 (show decode cX7_readGood 30 = .ok (.getfield 56, 3) by decide +kernel) rfl, ?_⟩
  refine List.forall_mem_cons.mpr ⟨ok_aload_n C (show decode cX7_readGood 33 = .ok (.aload_n 1, 1) by decide +kernel) rfl rfl, ?_⟩
  refine List.forall_mem_cons.mpr ⟨ok_getf C (wi_X9) rfl (by decide) kw_73 (show decode cX7_readGood 34 = .ok (.getfield 122, 3) by decide +kernel) rfl, ?_⟩
  refine List.forall_mem_cons.mpr ⟨ok_lastore C (show decode cX7_readGood 37 = .ok (.lastore, 1) by decide +kernel) rfl, ?_⟩
  refine List.forall_mem_cons.mpr ⟨ok_aload_n C (show decode cX7_readGood 38 = .ok (.aload_n 0, 1) by decide +kernel) rfl rfl, ?_⟩
  refine List.forall_mem_cons.mpr ⟨ok_dup C (show decode cX7_readGood 39 = .ok (.dup, 1) by decide +kernel) rfl, ?_⟩
  refine List.forall_mem_cons.mpr ⟨ok_getf C (wi_X7) rfl (by decide) kw_249 (show decode cX7_readGood 40 = .ok (.getfield 56, 3) by decide +kernel) rfl, ?_⟩
  refine List.forall_mem_cons.mpr ⟨ok_iconst C (show decode cX7_readGood 43 = .ok (.iconst 1, 1) by decide +kernel) (by decide) rfl, ?_⟩
  refine List.forall_mem_cons.mpr ⟨ok_iadd C (show decode cX7_readGood 44 = .ok (.iadd, 1) by decide +kernel) rfl, ?_⟩
  refine List.forall_mem_cons.mpr ⟨ok_putf C (wi_X7) tyX7 tyX7_ok nmX7 rfl (by decide) kw_249 (Or.inl rfl) (Or.inl ⟨rfl, rfl⟩) (show decode cX7_readGood 45 = .ok (.putfield 56, 3) by decide +kernel) rfl, ?_⟩
  refine List.forall_mem_cons.mpr ⟨ok_iconst C (show decode cX7_readGood 48 = .ok (.iconst 1, 1) by decide +kernel) (by decide) rfl, ?_⟩
  refine List.forall_mem_cons.mpr ⟨ok_zret C rfl (show decode cX7_readGood 49 = .ok (.ireturn, 1) by decide +kernel), ?_⟩
  exact fun _ h => absurd h List.not_mem_nil
def L_X7_readMan (f_X9_fail : List Value → ab_H → Option ab_O) (f_X7_takeNewName : List Value → ab_H → Option ab_O) (f_X9_takeNumber : List Value → ab_H → Option ab_O) : List (Nat × ab_A) := [
  (0, ab_nx 1 (ab_aload 0)),
  (1, ab_nx 4 (ab_getf 7 9)),
  (4, ab_nx 6 (ab_lit (.int 8))),
  (6, ab_icmp 9 15 (fun x y => decide (x < y))),
  (9, ab_nx 10 (ab_aload 1)),
  (10, ab_nx 11 (ab_lit (.int 4))),
  (11, ab_nx 14 (ab_callV 2 9 f_X9_fail 0 0 0 0)),
  (14, ab_zret 0 0),
  (15, ab_nx 16 (ab_aload 0)),
  (16, ab_nx 17 (ab_aload 1)),
  (17, ab_nx 20 (ab_callV 2 7 f_X7_takeNewName 0 0 0 0)),
  (20, ab_if 23 25 (fun x => !decide (x = 0))),
  (23, ab_nx 24 (ab_lit (.int 0))),
  (24, ab_zret 0 0),
  (25, ab_nx 26 (ab_aload 1)),
  (26, ab_nx 29 (ab_getf 9 8)),
  (29, ab_nx 30 (ab_lstore 2)),
  (30, ab_nx 31 (ab_aload 1)),
  (31, ab_nx 32 (ab_lit (.int 0))),
  (32, ab_nx 33 (ab_lit (.int 1))),
  (33, ab_nx 36 (ab_callV 3 9 f_X9_takeNumber 0 0 0 0)),
  (36, ab_if 39 41 (fun x => !decide (x = 0))),
  (39, ab_nx 40 (ab_lit (.int 0))),
  (40, ab_zret 0 0),
  (41, ab_nx 42 (ab_aload 0)),
  (42, ab_nx 45 (ab_getf 7 1)),
  (45, ab_nx 46 (ab_aload 0)),
  (46, ab_nx 49 (ab_getf 7 9)),
  (49, ab_nx 50 (ab_lload 2)),
  (50, ab_nx 51 ab_last),
  (51, ab_nx 52 (ab_aload 0)),
  (52, ab_nx 55 (ab_getf 7 2)),
  (55, ab_nx 56 (ab_aload 0)),
  (56, ab_nx 59 (ab_getf 7 9)),
  (59, ab_nx 60 (ab_aload 1)),
  (60, ab_nx 63 (ab_getf 9 7)),
  (63, ab_nx 64 (ab_ast 1)),
  (64, ab_nx 65 (ab_aload 0)),
  (65, ab_nx 66 ab_dup),
  (66, ab_nx 69 (ab_getf 7 9)),
  (69, ab_nx 70 (ab_lit (.int 1))),
  (70, ab_nx 71 (ab_bin (fun x y => x + y))),
  (71, ab_nx 74 (ab_putf 7 9 0)),
  (74, ab_nx 75 (ab_lit (.int 1))),
  (75, ab_zret 0 0)]
set_option maxRecDepth 100000 in
set_option maxHeartbeats 4000000 in
theorem M_X7_readMan {l : Launch} {b : ab_B} {D : va_G} {cA : Nat → ClassId} {f_X9_fail : List Value → ab_H → Option ab_O} (h_X9_fail : ab_M l b D ab_cl cA (ab_E0 b) yX9_fail (Cond.code yX9_fail cX9_fail 2 (some .boolean) :: ab_G) ({ frames := 1, cells := 0, slots := 0, locals := 100 } : Room) f_X9_fail) {f_X7_takeNewName : List Value → ab_H → Option ab_O} (h_X7_takeNewName : ab_M l b D ab_cl cA (ab_E0 b) yX7_takeNewName (Cond.code yX7_takeNewName cX7_takeNewName 3 (some .boolean) :: ab_G) ({ frames := 3, cells := 0, slots := 0, locals := 300 } : Room) f_X7_takeNewName) {f_X9_takeNumber : List Value → ab_H → Option ab_O} (h_X9_takeNumber : ab_M l b D ab_cl cA (ab_E0 b) yX9_takeNumber (Cond.code yX9_takeNumber cX9_takeNumber 3 (some .boolean) :: ab_G) ({ frames := 2, cells := 0, slots := 0, locals := 200 } : Room) f_X9_takeNumber) : ab_M l b D ab_cl cA (ab_E0 b) yX7_readMan (Cond.code yX7_readMan cX7_readMan 4 (some .boolean) :: ab_G) ({ frames := 4, cells := 0, slots := 0, locals := 400 } : Room) (ab_X (ab_T (L_X7_readMan f_X9_fail f_X7_takeNewName f_X9_takeNumber)) 4) := by
  refine ab_meth (ret := (some .boolean)) (L_X7_readMan f_X9_fail f_X7_takeNewName f_X9_takeNumber) (by decide) rfl fun p e R s m args below meth c o C => ?_
  unfold L_X7_readMan
  refine List.forall_mem_cons.mpr ⟨ok_aload_n C (show decode cX7_readMan 0 = .ok (.aload_n 0, 1) by decide +kernel) rfl rfl, ?_⟩
  refine List.forall_mem_cons.mpr ⟨ok_getf C (wi_X7) rfl (by decide) kw_253 (show decode cX7_readMan 1 = .ok (.getfield 59, 3) by decide +kernel) rfl, ?_⟩
  refine List.forall_mem_cons.mpr ⟨ok_bipush C (show decode cX7_readMan 4 = .ok (.bipush 8, 2) by decide +kernel) (by decide) rfl, ?_⟩
  refine List.forall_mem_cons.mpr ⟨ok_icmplt C (show decode cX7_readMan 6 = .ok (.if_icmp .lt 9, 3) by decide +kernel) (tg := 15) (by decide) rfl rfl, ?_⟩
  refine List.forall_mem_cons.mpr ⟨ok_aload_n C (show decode cX7_readMan 9 = .ok (.aload_n 1, 1) by decide +kernel) rfl rfl, ?_⟩
  refine List.forall_mem_cons.mpr ⟨ok_iconst C (show decode cX7_readMan 10 = .ok (.iconst 4, 1) by decide +kernel) (by decide) rfl, ?_⟩
  refine List.forall_mem_cons.mpr ⟨ok_callV C h_X9_fail ⟨rfl, rfl⟩ rfl kw_520 kw_525 kw_518 kw_519 kw_3 rfl ds_X9_fail ⟨by decide, by decide⟩ (show decode cX7_readMan 11 = .ok (.invokevirtual 108, 3) by decide +kernel) rfl, ?_⟩
  refine List.forall_mem_cons.mpr ⟨ok_zret C rfl (show decode cX7_readMan 14 = .ok (.ireturn, 1) by decide +kernel), ?_⟩
  refine List.forall_mem_cons.mpr ⟨ok_aload_n C (show decode cX7_readMan 15 = .ok (.aload_n 0, 1) by decide +kernel) rfl rfl, ?_⟩
  refine List.forall_mem_cons.mpr ⟨ok_aload_n C (show decode cX7_readMan 16 = .ok (.aload_n 1, 1) by decide +kernel) rfl rfl, ?_⟩
  refine List.forall_mem_cons.mpr ⟨ok_callV C h_X7_takeNewName ⟨rfl, rfl⟩ rfl kw_544 kw_541 kw_543 kp_10 kw_9 rfl ds_X7_takeNewName ⟨by decide, by decide⟩ (show decode cX7_readMan 17 = .ok (.invokevirtual 132, 3) by decide +kernel) rfl, ?_⟩
  refine List.forall_mem_cons.mpr ⟨ok_ifne C (show decode cX7_readMan 20 = .ok (.ifCond .ne 5, 3) by decide +kernel) (tg := 25) (by decide) rfl rfl, ?_⟩
  refine List.forall_mem_cons.mpr ⟨ok_iconst C (show decode cX7_readMan 23 = .ok (.iconst 0, 1) by decide +kernel) (by decide) rfl, ?_⟩
  refine List.forall_mem_cons.mpr ⟨ok_zret C rfl (show decode cX7_readMan 24 = .ok (.ireturn, 1) by decide +kernel), ?_⟩
  refine List.forall_mem_cons.mpr ⟨ok_aload_n C (show decode cX7_readMan 25 = .ok (.aload_n 1, 1) by decide +kernel) rfl rfl, ?_⟩
  refine List.forall_mem_cons.mpr ⟨ok_getf C (wi_X9) rfl (by decide) kw_73 (show decode cX7_readMan 26 = .ok (.getfield 122, 3) by decide +kernel) rfl, ?_⟩
  refine List.forall_mem_cons.mpr ⟨ok_lstore_n C (show decode cX7_readMan 29 = .ok (.lstore_n 2, 1) by decide +kernel) rfl (by decide) rfl, ?_⟩
  refine List.forall_mem_cons.mpr ⟨ok_aload_n C (show decode cX7_readMan 30 = .ok (.aload_n 1, 1) by decide +kernel) rfl rfl, ?_⟩
  refine List.forall_mem_cons.mpr ⟨ok_iconst C (show decode cX7_readMan 31 = .ok (.iconst 0, 1) by decide +kernel) (by decide) rfl, ?_⟩
  refine List.forall_mem_cons.mpr ⟨ok_iconst C (show decode cX7_readMan 32 = .ok (.iconst 1, 1) by decide +kernel) (by decide) rfl, ?_⟩
  refine List.forall_mem_cons.mpr ⟨ok_callV C h_X9_takeNumber ⟨rfl, rfl⟩ rfl kw_529 kw_526 kw_527 kw_528 kw_3 rfl ds_X9_takeNumber ⟨by decide, by decide⟩ (show decode cX7_readMan 33 = .ok (.invokevirtual 111, 3) by decide +kernel) rfl, ?_⟩
  refine List.forall_mem_cons.mpr ⟨ok_ifne C (show decode cX7_readMan 36 = .ok (.ifCond .ne 5, 3) by decide +kernel) (tg := 41) (by decide) rfl rfl, ?_⟩
  refine List.forall_mem_cons.mpr ⟨ok_iconst C (show decode cX7_readMan 39 = .ok (.iconst 0, 1) by decide +kernel) (by decide) rfl, ?_⟩
  refine List.forall_mem_cons.mpr ⟨ok_zret C rfl (show decode cX7_readMan 40 = .ok (.ireturn, 1) by decide +kernel), ?_⟩
  refine List.forall_mem_cons.mpr ⟨ok_aload_n C (show decode cX7_readMan 41 = .ok (.aload_n 0, 1) by decide +kernel) rfl rfl, ?_⟩
  refine List.forall_mem_cons.mpr ⟨ok_getf C (wi_X7) rfl (by decide) kw_235 (show decode cX7_readMan 42 = .ok (.getfield 15, 3) by decide +kernel) rfl, ?_⟩
  refine List.forall_mem_cons.mpr ⟨ok_aload_n C (show decode cX7_readMan 45 = .ok (.aload_n 0, 1) by decide +kernel) rfl rfl, ?_⟩
  refine List.forall_mem_cons.mpr ⟨ok_getf C (wi_X7) rfl (by decide) kw_253 (show decode cX7_readMan 46 = .ok (.getfield 59, 3) by decide +kernel) rfl, ?_⟩
  refine List.forall_mem_cons.mpr ⟨ok_lload_n C (show decode cX7_readMan 49 = .ok (.lload_n 2, 1) by decide +kernel) rfl rfl, ?_⟩
  refine List.forall_mem_cons.mpr ⟨ok_lastore C (show decode cX7_readMan 50 = .ok (.lastore, 1) by decide +kernel) rfl, ?_⟩
  refine List.forall_mem_cons.mpr ⟨ok_aload_n C (show decode cX7_readMan 51 = .ok (.aload_n 0, 1) by decide +kernel) rfl rfl, ?_⟩
  refine List.forall_mem_cons.mpr ⟨ok_getf C (wi_X7) rfl (by decide) kw_236 (show decode cX7_readMan 52 = .ok (.getfield 18, 3) by decide +kernel) rfl, ?_⟩
  refine List.forall_mem_cons.mpr ⟨ok_aload_n C (show decode cX7_readMan 55 = .ok (.aload_n 0, 1) by decide +kernel) rfl rfl, ?_⟩
  refine List.forall_mem_cons.mpr ⟨ok_getf C (wi_X7) rfl (by decide) kw_253 (show decode cX7_readMan 56 = .ok (.getfield 59, 3) by decide +kernel) rfl, ?_⟩
  refine List.forall_mem_cons.mpr ⟨ok_aload_n C (show decode cX7_readMan 59 = .ok (.aload_n 1, 1) by decide +kernel) rfl rfl, ?_⟩
  refine List.forall_mem_cons.mpr ⟨ok_getf C (wi_X9) rfl (by decide) kw_70 (show decode cX7_readMan 60 = .ok (.getfield 115, 3) by decide +kernel) rfl, ?_⟩
  refine List.forall_mem_cons.mpr ⟨ok_iastore C (show decode cX7_readMan 63 = .ok (.iastore, 1) by decide +kernel) rfl, ?_⟩
  refine List.forall_mem_cons.mpr ⟨ok_aload_n C (show decode cX7_readMan 64 = .ok (.aload_n 0, 1) by decide +kernel) rfl rfl, ?_⟩
  refine List.forall_mem_cons.mpr ⟨ok_dup C (show decode cX7_readMan 65 = .ok (.dup, 1) by decide +kernel) rfl, ?_⟩
  refine List.forall_mem_cons.mpr ⟨ok_getf C (wi_X7) rfl (by decide) kw_253 (show decode cX7_readMan 66 = .ok (.getfield 59, 3) by decide +kernel) rfl, ?_⟩
  refine List.forall_mem_cons.mpr ⟨ok_iconst C (show decode cX7_readMan 69 = .ok (.iconst 1, 1) by decide +kernel) (by decide) rfl, ?_⟩
  refine List.forall_mem_cons.mpr ⟨ok_iadd C (show decode cX7_readMan 70 = .ok (.iadd, 1) by decide +kernel) rfl, ?_⟩
  refine List.forall_mem_cons.mpr ⟨ok_putf C (wi_X7) tyX7 tyX7_ok nmX7 rfl (by decide) kw_253 (Or.inl rfl) (Or.inl ⟨rfl, rfl⟩) (show decode cX7_readMan 71 = .ok (.putfield 59, 3) by decide +kernel) rfl, ?_⟩
  refine List.forall_mem_cons.mpr ⟨ok_iconst C (show decode cX7_readMan 74 = .ok (.iconst 1, 1) by decide +kernel) (by decide) rfl, ?_⟩
  refine List.forall_mem_cons.mpr ⟨ok_zret C rfl (show decode cX7_readMan 75 = .ok (.ireturn, 1) by decide +kernel), ?_⟩
  exact fun _ h => absurd h List.not_mem_nil
def L_X7_takeMan (f_X9_takeName : List Value → ab_H → Option ab_O) (f_X7_manNamed : List Value → ab_H → Option ab_O) (f_X9_fail : List Value → ab_H → Option ab_O) : List (Nat × ab_A) := [
  (0, ab_nx 1 (ab_aload 1)),
  (1, ab_nx 4 (ab_callV 1 9 f_X9_takeName 0 0 0 0)),
  (4, ab_if 7 9 (fun x => !decide (x = 0))),
  (7, ab_nx 8 (ab_lit (.int (-1)))),
  (8, ab_ret 0 0),
  (9, ab_nx 10 (ab_aload 0)),
  (10, ab_nx 11 (ab_aload 1)),
  (11, ab_nx 14 (ab_getf 9 8)),
  (14, ab_nx 17 (ab_callV 2 7 f_X7_manNamed 0 0 0 0)),
  (17, ab_nx 18 (ab_istore 2)),
  (18, ab_nx 19 (ab_iload 2)),
  (19, ab_nx 20 (ab_lit (.int (-1)))),
  (20, ab_icmp 23 29 (fun x y => !decide (x = y))),
  (23, ab_nx 24 (ab_aload 1)),
  (24, ab_nx 25 (ab_lit (.int 3))),
  (25, ab_nx 28 (ab_callV 2 9 f_X9_fail 0 0 0 0)),
  (28, ab_nx 29 ab_pop),
  (29, ab_nx 30 (ab_iload 2)),
  (30, ab_ret 0 0)]
set_option maxRecDepth 100000 in
set_option maxHeartbeats 4000000 in
theorem M_X7_takeMan {l : Launch} {b : ab_B} {D : va_G} {cA : Nat → ClassId} {f_X9_takeName : List Value → ab_H → Option ab_O} (h_X9_takeName : ab_M l b D ab_cl cA (ab_E0 b) yX9_takeName (Cond.code yX9_takeName cX9_takeName 1 (some .boolean) :: ab_G) ({ frames := 2, cells := 0, slots := 0, locals := 200 } : Room) f_X9_takeName) {f_X7_manNamed : List Value → ab_H → Option ab_O} (h_X7_manNamed : ab_M l b D ab_cl cA (ab_E0 b) yX7_manNamed (Cond.code yX7_manNamed cX7_manNamed 4 (some .int) :: ab_G) ({ frames := 1, cells := 0, slots := 0, locals := 100 } : Room) f_X7_manNamed) {f_X9_fail : List Value → ab_H → Option ab_O} (h_X9_fail : ab_M l b D ab_cl cA (ab_E0 b) yX9_fail (Cond.code yX9_fail cX9_fail 2 (some .boolean) :: ab_G) ({ frames := 1, cells := 0, slots := 0, locals := 100 } : Room) f_X9_fail) : ab_M l b D ab_cl cA (ab_E0 b) yX7_takeMan (Cond.code yX7_takeMan cX7_takeMan 3 (some .int) :: ab_G) ({ frames := 3, cells := 0, slots := 0, locals := 300 } : Room) (ab_X (ab_T (L_X7_takeMan f_X9_takeName f_X7_manNamed f_X9_fail)) 3) := by
  refine ab_meth (ret := (some .int)) (L_X7_takeMan f_X9_takeName f_X7_manNamed f_X9_fail) (by decide) rfl fun p e R s m args below meth c o C => ?_
  unfold L_X7_takeMan
  refine List.forall_mem_cons.mpr ⟨ok_aload_n C (show decode cX7_takeMan 0 = .ok (.aload_n 1, 1) by decide +kernel) rfl rfl, ?_⟩
  refine List.forall_mem_cons.mpr ⟨ok_callV C h_X9_takeName ⟨rfl, rfl⟩ rfl kw_515 kw_512 kw_513 kw_514 kw_3 rfl ds_X9_takeName ⟨by decide, by decide⟩ (show decode cX7_takeMan 1 = .ok (.invokevirtual 118, 3) by decide +kernel) rfl, ?_⟩
  refine List.forall_mem_cons.mpr ⟨ok_ifne C (show decode cX7_takeMan 4 = .ok (.ifCond .ne 5, 3) by decide +kernel) (tg := 9) (by decide) rfl rfl, ?_⟩
  refine List.forall_mem_cons.mpr ⟨ok_iconst C (show decode cX7_takeMan 7 = .ok (.iconst (-1), 1) by decide +kernel) (by decide) rfl, ?_⟩
  refine List.forall_mem_cons.mpr ⟨ok_ret C rfl (show decode cX7_takeMan 8 = .ok (.ireturn, 1) by decide +kernel), ?_⟩
  refine List.forall_mem_cons.mpr ⟨ok_aload_n C (show decode cX7_takeMan 9 = .ok (.aload_n 0, 1) by decide +kernel) rfl rfl, ?_⟩
  refine List.forall_mem_cons.mpr ⟨ok_aload_n C (show decode cX7_takeMan 10 = .ok (.aload_n 1, 1) by decide +kernel) rfl rfl, ?_⟩
  refine List.forall_mem_cons.mpr ⟨ok_getf C (wi_X9) rfl (by decide) kw_73 (show decode cX7_takeMan 11 = .ok (.getfield 122, 3) by decide +kernel) rfl, ?_⟩
  refine List.forall_mem_cons.mpr ⟨ok_callV C h_X7_manNamed ⟨rfl, rfl⟩ rfl kw_548 kw_545 kw_546 kw_547 kw_9 rfl ds_X7_manNamed ⟨by decide, by decide⟩ (show decode cX7_takeMan 14 = .ok (.invokevirtual 129, 3) by decide +kernel) rfl, ?_⟩
  refine List.forall_mem_cons.mpr ⟨ok_istore_n C (show decode cX7_takeMan 17 = .ok (.istore_n 2, 1) by decide +kernel) rfl (by decide) rfl, ?_⟩
  refine List.forall_mem_cons.mpr ⟨ok_iload_n C (show decode cX7_takeMan 18 = .ok (.iload_n 2, 1) by decide +kernel) rfl rfl, ?_⟩
  refine List.forall_mem_cons.mpr ⟨ok_iconst C (show decode cX7_takeMan 19 = .ok (.iconst (-1), 1) by decide +kernel) (by decide) rfl, ?_⟩
  refine List.forall_mem_cons.mpr ⟨ok_icmpne C (show decode cX7_takeMan 20 = .ok (.if_icmp .ne 9, 3) by decide +kernel) (tg := 29) (by decide) rfl rfl, ?_⟩
  refine List.forall_mem_cons.mpr ⟨ok_aload_n C (show decode cX7_takeMan 23 = .ok (.aload_n 1, 1) by decide +kernel) rfl rfl, ?_⟩
  refine List.forall_mem_cons.mpr ⟨ok_iconst C (show decode cX7_takeMan 24 = .ok (.iconst 3, 1) by decide +kernel) (by decide) rfl, ?_⟩
  refine List.forall_mem_cons.mpr ⟨ok_callV C h_X9_fail ⟨rfl, rfl⟩ rfl kw_520 kw_525 kw_518 kw_519 kw_3 rfl ds_X9_fail ⟨by decide, by decide⟩ (show decode cX7_takeMan 25 = .ok (.invokevirtual 108, 3) by decide +kernel) rfl, ?_⟩
  refine List.forall_mem_cons.mpr ⟨ok_pop C (show decode cX7_takeMan 28 = .ok (.pop, 1) by decide +kernel) rfl, ?_⟩
  refine List.forall_mem_cons.mpr ⟨ok_iload_n C (show decode cX7_takeMan 29 = .ok (.iload_n 2, 1) by decide +kernel) rfl rfl, ?_⟩
  refine List.forall_mem_cons.mpr ⟨ok_ret C rfl (show decode cX7_takeMan 30 = .ok (.ireturn, 1) by decide +kernel), ?_⟩
  exact fun _ h => absurd h List.not_mem_nil
def L_X7_isMissTold : List (Nat × ab_A) := [
  (0, ab_nx 1 (ab_lit (.int 0))),
  (1, ab_nx 2 (ab_istore 3)),
  (2, ab_nx 3 (ab_iload 3)),
  (3, ab_nx 4 (ab_aload 0)),
  (4, ab_nx 7 (ab_getf 7 10)),
  (7, ab_icmp 10 38 (fun x y => decide (y ≤ x))),
  (10, ab_nx 11 (ab_aload 0)),
  (11, ab_nx 14 (ab_getf 7 4)),
  (14, ab_nx 15 (ab_iload 3)),
  (15, ab_nx 16 (ab_ald 1)),
  (16, ab_nx 17 (ab_iload 1)),
  (17, ab_icmp 20 32 (fun x y => !decide (x = y))),
  (20, ab_nx 21 (ab_aload 0)),
  (21, ab_nx 24 (ab_getf 7 5)),
  (24, ab_nx 25 (ab_iload 3)),
  (25, ab_nx 26 (ab_ald 1)),
  (26, ab_nx 27 (ab_iload 2)),
  (27, ab_icmp 30 32 (fun x y => !decide (x = y))),
  (30, ab_nx 31 (ab_lit (.int 1))),
  (31, ab_zret 0 0),
  (32, ab_nx 35 (ab_iinc 3 1)),
  (35, ab_goto 2),
  (38, ab_nx 39 (ab_lit (.int 0))),
  (39, ab_zret 0 0)]
set_option maxRecDepth 100000 in
set_option maxHeartbeats 4000000 in
theorem M_X7_isMissTold {l : Launch} {b : ab_B} {D : va_G} {cA : Nat → ClassId} : ab_M l b D ab_cl cA (ab_E0 b) yX7_isMissTold (Cond.code yX7_isMissTold cX7_isMissTold 4 (some .boolean) :: ab_G) ({ frames := 1, cells := 0, slots := 0, locals := 100 } : Room) (ab_X (ab_T L_X7_isMissTold) 4) := by
  refine ab_meth (ret := (some .boolean)) L_X7_isMissTold (by decide) rfl fun p e R s m args below meth c o C => ?_
  unfold L_X7_isMissTold
  refine List.forall_mem_cons.mpr ⟨ok_iconst C (show decode cX7_isMissTold 0 = .ok (.iconst 0, 1) by decide +kernel) (by decide) rfl, ?_⟩
  refine List.forall_mem_cons.mpr ⟨ok_istore_n C (show decode cX7_isMissTold 1 = .ok (.istore_n 3, 1) by decide +kernel) rfl (by decide) rfl, ?_⟩
  refine List.forall_mem_cons.mpr ⟨ok_iload_n C (show decode cX7_isMissTold 2 = .ok (.iload_n 3, 1) by decide +kernel) rfl rfl, ?_⟩
  refine List.forall_mem_cons.mpr ⟨ok_aload_n C (show decode cX7_isMissTold 3 = .ok (.aload_n 0, 1) by decide +kernel) rfl rfl, ?_⟩
  refine List.forall_mem_cons.mpr ⟨ok_getf C (wi_X7) rfl (by decide) kw_256 (show decode cX7_isMissTold 4 = .ok (.getfield 62, 3) by decide +kernel) rfl, ?_⟩
  refine List.forall_mem_cons.mpr ⟨ok_icmpge C (show decode cX7_isMissTold 7 = .ok (.if_icmp .ge 31, 3) by decide +kernel) (tg := 38) (by decide) rfl rfl, ?_⟩
  refine List.forall_mem_cons.mpr ⟨ok_aload_n C (show decode cX7_isMissTold 10 = .ok (.aload_n 0, 1) by decide +kernel) rfl rfl, ?_⟩
  refine List.forall_mem_cons.mpr ⟨ok_getf C (wi_X7) rfl (by decide) kw_239 (show decode cX7_isMissTold 11 = .ok (.getfield 25, 3) by decide +kernel) rfl, ?_⟩
  refine List.forall_mem_cons.mpr ⟨ok_iload_n C (show decode cX7_isMissTold 14 = .ok (.iload_n 3, 1) by decide +kernel) rfl rfl, ?_⟩
  refine List.forall_mem_cons.mpr ⟨ok_iaload C (show decode cX7_isMissTold 15 = .ok (.iaload, 1) by decide +kernel) rfl, ?_⟩
  refine List.forall_mem_cons.mpr ⟨ok_iload_n C (show decode cX7_isMissTold 16 = .ok (.iload_n 1, 1) by decide +kernel) rfl rfl, ?_⟩
  refine List.forall_mem_cons.mpr ⟨ok_icmpne C (show decode cX7_isMissTold 17 = .ok (.if_icmp .ne 15, 3) by decide +kernel) (tg := 32) (by decide) rfl rfl, ?_⟩
  refine List.forall_mem_cons.mpr ⟨ok_aload_n C (show decode cX7_isMissTold 20 = .ok (.aload_n 0, 1) by decide +kernel) rfl rfl, ?_⟩
  refine List.forall_mem_cons.mpr ⟨ok_getf C (wi_X7) rfl (by decide) kw_241 (show decode cX7_isMissTold 21 = .ok (.getfield 28, 3) by decide +kernel) rfl, ?_⟩
  refine List.forall_mem_cons.mpr ⟨ok_iload_n C (show decode cX7_isMissTold 24 = .ok (.iload_n 3, 1) by decide +kernel) rfl rfl, ?_⟩
  refine List.forall_mem_cons.mpr ⟨ok_iaload C (show decode cX7_isMissTold 25 = .ok (.iaload, 1) by decide +kernel) rfl, ?_⟩
  refine List.forall_mem_cons.mpr ⟨ok_iload_n C (show decode cX7_isMissTold 26 = .ok (.iload_n 2, 1) by decide +kernel) rfl rfl, ?_⟩
  refine List.forall_mem_cons.mpr ⟨ok_icmpne C (show decode cX7_isMissTold 27 = .ok (.if_icmp .ne 5, 3) by decide +kernel) (tg := 32) (by decide) rfl rfl, ?_⟩
  refine List.forall_mem_cons.mpr ⟨ok_iconst C (show decode cX7_isMissTold 30 = .ok (.iconst 1, 1) by decide +kernel) (by decide) rfl, ?_⟩
  refine List.forall_mem_cons.mpr ⟨ok_zret C rfl (show decode cX7_isMissTold 31 = .ok (.ireturn, 1) by decide +kernel), ?_⟩
  refine List.forall_mem_cons.mpr ⟨ok_iinc C (show decode cX7_isMissTold 32 = .ok (.iinc 3 1, 3) by decide +kernel) (by decide) (by decide) rfl, ?_⟩
  refine List.forall_mem_cons.mpr ⟨ok_goto C (show decode cX7_isMissTold 35 = .ok (.goto (-33), 3) by decide +kernel) (tg := 2) (by decide) rfl, ?_⟩
  refine List.forall_mem_cons.mpr ⟨ok_iconst C (show decode cX7_isMissTold 38 = .ok (.iconst 0, 1) by decide +kernel) (by decide) rfl, ?_⟩
  refine List.forall_mem_cons.mpr ⟨ok_zret C rfl (show decode cX7_isMissTold 39 = .ok (.ireturn, 1) by decide +kernel), ?_⟩
  exact fun _ h => absurd h List.not_mem_nil
def L_X7_readMisses (f_X9_fail : List Value → ab_H → Option ab_O) (f_X7_takeMan : List Value → ab_H → Option ab_O) (f_X7_isMissTold : List Value → ab_H → Option ab_O) (f_X9_takeNumber : List Value → ab_H → Option ab_O) : List (Nat × ab_A) := [
  (0, ab_nx 1 (ab_aload 0)),
  (1, ab_nx 4 (ab_getf 7 10)),
  (4, ab_nx 6 (ab_lit (.int 20))),
  (6, ab_icmp 9 15 (fun x y => decide (x < y))),
  (9, ab_nx 10 (ab_aload 1)),
  (10, ab_nx 11 (ab_lit (.int 4))),
  (11, ab_nx 14 (ab_callV 2 9 f_X9_fail 0 0 0 0)),
  (14, ab_zret 0 0),
  (15, ab_nx 16 (ab_aload 0)),
  (16, ab_nx 17 (ab_aload 1)),
  (17, ab_nx 20 (ab_callV 2 7 f_X7_takeMan 0 0 0 0)),
  (20, ab_nx 21 (ab_istore 2)),
  (21, ab_nx 22 (ab_iload 2)),
  (22, ab_nx 23 (ab_lit (.int (-1)))),
  (23, ab_icmp 26 28 (fun x y => !decide (x = y))),
  (26, ab_nx 27 (ab_lit (.int 0))),
  (27, ab_zret 0 0),
  (28, ab_nx 29 (ab_aload 0)),
  (29, ab_nx 30 (ab_aload 1)),
  (30, ab_nx 33 (ab_callV 2 7 f_X7_takeMan 0 0 0 0)),
  (33, ab_nx 34 (ab_istore 3)),
  (34, ab_nx 35 (ab_iload 3)),
  (35, ab_nx 36 (ab_lit (.int (-1)))),
  (36, ab_icmp 39 41 (fun x y => !decide (x = y))),
  (39, ab_nx 40 (ab_lit (.int 0))),
  (40, ab_zret 0 0),
  (41, ab_nx 42 (ab_iload 2)),
  (42, ab_nx 43 (ab_iload 3)),
  (43, ab_icmp 46 55 (fun x y => decide (x = y))),
  (46, ab_nx 47 (ab_aload 0)),
  (47, ab_nx 48 (ab_iload 2)),
  (48, ab_nx 49 (ab_iload 3)),
  (49, ab_nx 52 (ab_callV 3 7 f_X7_isMissTold 0 0 0 0)),
  (52, ab_if 55 61 (fun x => decide (x = 0))),
  (55, ab_nx 56 (ab_aload 1)),
  (56, ab_nx 57 (ab_lit (.int 3))),
  (57, ab_nx 60 (ab_callV 2 9 f_X9_fail 0 0 0 0)),
  (60, ab_zret 0 0),
  (61, ab_nx 62 (ab_aload 1)),
  (62, ab_nx 63 (ab_lit (.int 0))),
  (63, ab_nx 65 (ab_lit (.int 60))),
  (65, ab_nx 68 (ab_callV 3 9 f_X9_takeNumber 0 0 0 0)),
  (68, ab_if 71 73 (fun x => !decide (x = 0))),
  (71, ab_nx 72 (ab_lit (.int 0))),
  (72, ab_zret 0 0),
  (73, ab_nx 74 (ab_aload 0)),
  (74, ab_nx 77 (ab_getf 7 4)),
  (77, ab_nx 78 (ab_aload 0)),
  (78, ab_nx 81 (ab_getf 7 10)),
  (81, ab_nx 82 (ab_iload 2)),
  (82, ab_nx 83 (ab_ast 1)),
  (83, ab_nx 84 (ab_aload 0)),
  (84, ab_nx 87 (ab_getf 7 5)),
  (87, ab_nx 88 (ab_aload 0)),
  (88, ab_nx 91 (ab_getf 7 10)),
  (91, ab_nx 92 (ab_iload 3)),
  (92, ab_nx 93 (ab_ast 1)),
  (93, ab_nx 94 (ab_aload 0)),
  (94, ab_nx 97 (ab_getf 7 6)),
  (97, ab_nx 98 (ab_aload 0)),
  (98, ab_nx 101 (ab_getf 7 10)),
  (101, ab_nx 102 (ab_aload 1)),
  (102, ab_nx 105 (ab_getf 9 7)),
  (105, ab_nx 106 (ab_ast 1)),
  (106, ab_nx 107 (ab_aload 0)),
  (107, ab_nx 108 ab_dup),
  (108, ab_nx 111 (ab_getf 7 10)),
  (111, ab_nx 112 (ab_lit (.int 1))),
  (112, ab_nx 113 (ab_bin (fun x y => x + y))),
  (113, ab_nx 116 (ab_putf 7 10 0)),
  (116, ab_nx 117 (ab_lit (.int 1))),
  (117, ab_zret 0 0)]
set_option maxRecDepth 100000 in
set_option maxHeartbeats 4000000 in
theorem M_X7_readMisses {l : Launch} {b : ab_B} {D : va_G} {cA : Nat → ClassId} {f_X9_fail : List Value → ab_H → Option ab_O} (h_X9_fail : ab_M l b D ab_cl cA (ab_E0 b) yX9_fail (Cond.code yX9_fail cX9_fail 2 (some .boolean) :: ab_G) ({ frames := 1, cells := 0, slots := 0, locals := 100 } : Room) f_X9_fail) {f_X7_takeMan : List Value → ab_H → Option ab_O} (h_X7_takeMan : ab_M l b D ab_cl cA (ab_E0 b) yX7_takeMan (Cond.code yX7_takeMan cX7_takeMan 3 (some .int) :: ab_G) ({ frames := 3, cells := 0, slots := 0, locals := 300 } : Room) f_X7_takeMan) {f_X7_isMissTold : List Value → ab_H → Option ab_O} (h_X7_isMissTold : ab_M l b D ab_cl cA (ab_E0 b) yX7_isMissTold (Cond.code yX7_isMissTold cX7_isMissTold 4 (some .boolean) :: ab_G) ({ frames := 1, cells := 0, slots := 0, locals := 100 } : Room) f_X7_isMissTold) {f_X9_takeNumber : List Value → ab_H → Option ab_O} (h_X9_takeNumber : ab_M l b D ab_cl cA (ab_E0 b) yX9_takeNumber (Cond.code yX9_takeNumber cX9_takeNumber 3 (some .boolean) :: ab_G) ({ frames := 2, cells := 0, slots := 0, locals := 200 } : Room) f_X9_takeNumber) : ab_M l b D ab_cl cA (ab_E0 b) yX7_readMisses (Cond.code yX7_readMisses cX7_readMisses 4 (some .boolean) :: ab_G) ({ frames := 4, cells := 0, slots := 0, locals := 400 } : Room) (ab_X (ab_T (L_X7_readMisses f_X9_fail f_X7_takeMan f_X7_isMissTold f_X9_takeNumber)) 4) := by
  refine ab_meth (ret := (some .boolean)) (L_X7_readMisses f_X9_fail f_X7_takeMan f_X7_isMissTold f_X9_takeNumber) (by decide) rfl fun p e R s m args below meth c o C => ?_
  unfold L_X7_readMisses
  refine List.forall_mem_cons.mpr ⟨ok_aload_n C (show decode cX7_readMisses 0 = .ok (.aload_n 0, 1) by decide +kernel) rfl rfl, ?_⟩
  refine List.forall_mem_cons.mpr ⟨ok_getf C (wi_X7) rfl (by decide) kw_256 (show decode cX7_readMisses 1 = .ok (.getfield 62, 3) by decide +kernel) rfl, ?_⟩
  refine List.forall_mem_cons.mpr ⟨ok_bipush C (show decode cX7_readMisses 4 = .ok (.bipush 20, 2) by decide +kernel) (by decide) rfl, ?_⟩
  refine List.forall_mem_cons.mpr ⟨ok_icmplt C (show decode cX7_readMisses 6 = .ok (.if_icmp .lt 9, 3) by decide +kernel) (tg := 15) (by decide) rfl rfl, ?_⟩
  refine List.forall_mem_cons.mpr ⟨ok_aload_n C (show decode cX7_readMisses 9 = .ok (.aload_n 1, 1) by decide +kernel) rfl rfl, ?_⟩
  refine List.forall_mem_cons.mpr ⟨ok_iconst C (show decode cX7_readMisses 10 = .ok (.iconst 4, 1) by decide +kernel) (by decide) rfl, ?_⟩
  refine List.forall_mem_cons.mpr ⟨ok_callV C h_X9_fail ⟨rfl, rfl⟩ rfl kw_520 kw_525 kw_518 kw_519 kw_3 rfl ds_X9_fail ⟨by decide, by decide⟩ (show decode cX7_readMisses 11 = .ok (.invokevirtual 108, 3) by decide +kernel) rfl, ?_⟩
  refine List.forall_mem_cons.mpr ⟨ok_zret C rfl (show decode cX7_readMisses 14 = .ok (.ireturn, 1) by decide +kernel), ?_⟩
  refine List.forall_mem_cons.mpr ⟨ok_aload_n C (show decode cX7_readMisses 15 = .ok (.aload_n 0, 1) by decide +kernel) rfl rfl, ?_⟩
  refine List.forall_mem_cons.mpr ⟨ok_aload_n C (show decode cX7_readMisses 16 = .ok (.aload_n 1, 1) by decide +kernel) rfl rfl, ?_⟩
  refine List.forall_mem_cons.mpr ⟨ok_callV C h_X7_takeMan ⟨rfl, rfl⟩ rfl kw_560 kw_557 kw_559 kp_13 kw_9 rfl ds_X7_takeMan ⟨by decide, by decide⟩ (show decode cX7_readMisses 17 = .ok (.invokevirtual 142, 3) by decide +kernel) rfl, ?_⟩
  refine List.forall_mem_cons.mpr ⟨ok_istore_n C (show decode cX7_readMisses 20 = .ok (.istore_n 2, 1) by decide +kernel) rfl (by decide) rfl, ?_⟩
  refine List.forall_mem_cons.mpr ⟨ok_iload_n C (show decode cX7_readMisses 21 = .ok (.iload_n 2, 1) by decide +kernel) rfl rfl, ?_⟩
  refine List.forall_mem_cons.mpr ⟨ok_iconst C (show decode cX7_readMisses 22 = .ok (.iconst (-1), 1) by decide +kernel) (by decide) rfl, ?_⟩
  refine List.forall_mem_cons.mpr ⟨ok_icmpne C (show decode cX7_readMisses 23 = .ok (.if_icmp .ne 5, 3) by decide +kernel) (tg := 28) (by decide) rfl rfl, ?_⟩
  refine List.forall_mem_cons.mpr ⟨ok_iconst C (show decode cX7_readMisses 26 = .ok (.iconst 0, 1) by decide +kernel) (by decide) rfl, ?_⟩
  refine List.forall_mem_cons.mpr ⟨ok_zret C rfl (show decode cX7_readMisses 27 = .ok (.ireturn, 1) by decide +kernel), ?_⟩
  refine List.forall_mem_cons.mpr ⟨ok_aload_n C (show decode cX7_readMisses 28 = .ok (.aload_n 0, 1) by decide +kernel) rfl rfl, ?_⟩
  refine List.forall_mem_cons.mpr ⟨ok_aload_n C (show decode cX7_readMisses 29 = .ok (.aload_n 1, 1) by decide +kernel) rfl rfl, ?_⟩
  refine List.forall_mem_cons.mpr ⟨ok_callV C h_X7_takeMan ⟨rfl, rfl⟩ rfl kw_560 kw_557 kw_559 kp_13 kw_9 rfl ds_X7_takeMan ⟨by decide, by decide⟩ (show decode cX7_readMisses 30 = .ok (.invokevirtual 142, 3) by decide +kernel) rfl, ?_⟩
  refine List.forall_mem_cons.mpr ⟨ok_istore_n C (show decode cX7_readMisses 33 = .ok (.istore_n 3, 1) by decide +kernel) rfl (by decide) rfl, ?_⟩
  refine List.forall_mem_cons.mpr ⟨ok_iload_n C (show decode cX7_readMisses 34 = .ok (.iload_n 3, 1) by decide +kernel) rfl rfl, ?_⟩
  refine List.forall_mem_cons.mpr ⟨ok_iconst C (show decode cX7_readMisses 35 = .ok (.iconst (-1), 1) by decide +kernel) (by decide) rfl, ?_⟩
  refine List.forall_mem_cons.mpr ⟨ok_icmpne C (show decode cX7_readMisses 36 = .ok (.if_icmp .ne 5, 3) by decide +kernel) (tg := 41) (by decide) rfl rfl, ?_⟩
  refine List.forall_mem_cons.mpr ⟨ok_iconst C (show decode cX7_readMisses 39 = .ok (.iconst 0, 1) by decide +kernel) (by decide) rfl, ?_⟩
  refine List.forall_mem_cons.mpr ⟨ok_zret C rfl (show decode cX7_readMisses 40 = .ok (.ireturn, 1) by decide +kernel), ?_⟩
  refine List.forall_mem_cons.mpr ⟨ok_iload_n C (show decode cX7_readMisses 41 = .ok (.iload_n 2, 1) by decide +kernel) rfl rfl, ?_⟩
  refine List.forall_mem_cons.mpr ⟨ok_iload_n C (show decode cX7_readMisses 42 = .ok (.iload_n 3, 1) by decide +kernel) rfl rfl, ?_⟩
  refine List.forall_mem_cons.mpr ⟨ok_icmpeq C (show decode cX7_readMisses 43 = .ok (.if_icmp .eq 12, 3) by decide +kernel) (tg := 55) (by decide) rfl rfl, ?_⟩
  refine List.forall_mem_cons.mpr ⟨ok_aload_n C (show decode cX7_readMisses 46 = .ok (.aload_n 0, 1) by decide +kernel) rfl rfl, ?_⟩
  refine List.forall_mem_cons.mpr ⟨ok_iload_n C (show decode cX7_readMisses 47 = .ok (.iload_n 2, 1) by decide +kernel) rfl rfl, ?_⟩
  refine List.forall_mem_cons.mpr ⟨ok_iload_n C (show decode cX7_readMisses 48 = .ok (.iload_n 3, 1) by decide +kernel) rfl rfl, ?_⟩
  refine List.forall_mem_cons.mpr ⟨ok_callV C h_X7_isMissTold ⟨rfl, rfl⟩ rfl kw_564 kw_561 kw_563 kp_14 kw_9 rfl ds_X7_isMissTold ⟨by decide, by decide⟩ (show decode cX7_readMisses 49 = .ok (.invokevirtual 145, 3) by decide +kernel) rfl, ?_⟩
  refine List.forall_mem_cons.mpr ⟨ok_ifeq C (show decode cX7_readMisses 52 = .ok (.ifCond .eq 9, 3) by decide +kernel) (tg := 61) (by decide) rfl rfl, ?_⟩
  refine List.forall_mem_cons.mpr ⟨ok_aload_n C (show decode cX7_readMisses 55 = .ok (.aload_n 1, 1) by decide +kernel) rfl rfl, ?_⟩
  refine List.forall_mem_cons.mpr ⟨ok_iconst C (show decode cX7_readMisses 56 = .ok (.iconst 3, 1) by decide +kernel) (by decide) rfl, ?_⟩
  refine List.forall_mem_cons.mpr ⟨ok_callV C h_X9_fail ⟨rfl, rfl⟩ rfl kw_520 kw_525 kw_518 kw_519 kw_3 rfl ds_X9_fail ⟨by decide, by decide⟩ (show decode cX7_readMisses 57 = .ok (.invokevirtual 108, 3) by decide +kernel) rfl, ?_⟩
  refine List.forall_mem_cons.mpr ⟨ok_zret C rfl (show decode cX7_readMisses 60 = .ok (.ireturn, 1) by decide +kernel), ?_⟩
  refine List.forall_mem_cons.mpr ⟨ok_aload_n C (show decode cX7_readMisses 61 = .ok (.aload_n 1, 1) by decide +kernel) rfl rfl, ?_⟩
  refine List.forall_mem_cons.mpr ⟨ok_iconst C (show decode cX7_readMisses 62 = .ok (.iconst 0, 1) by decide +kernel) (by decide) rfl, ?_⟩
  refine List.forall_mem_cons.mpr ⟨ok_bipush C (show decode cX7_readMisses 63 = .ok (.bipush 60, 2) by decide +kernel) (by decide) rfl, ?_⟩
  refine List.forall_mem_cons.mpr ⟨ok_callV C h_X9_takeNumber ⟨rfl, rfl⟩ rfl kw_529 kw_526 kw_527 kw_528 kw_3 rfl ds_X9_takeNumber ⟨by decide, by decide⟩ (show decode cX7_readMisses 65 = .ok (.invokevirtual 111, 3) by decide +kernel) rfl, ?_⟩
  refine List.forall_mem_cons.mpr ⟨ok_ifne C (show decode cX7_readMisses 68 = .ok (.ifCond .ne 5, 3) by decide +kernel) (tg := 73) (by decide) rfl rfl, ?_⟩
  refine List.forall_mem_cons.mpr ⟨ok_iconst C (show decode cX7_readMisses 71 = .ok (.iconst 0, 1) by decide +kernel) (by decide) rfl, ?_⟩
  refine List.forall_mem_cons.mpr ⟨ok_zret C rfl (show decode cX7_readMisses 72 = .ok (.ireturn, 1) by decide +kernel), ?_⟩
  refine List.forall_mem_cons.mpr ⟨ok_aload_n C (show decode cX7_readMisses 73 = .ok (.aload_n 0, 1) by decide +kernel) rfl rfl, ?_⟩
  refine List.forall_mem_cons.mpr ⟨ok_getf C (wi_X7) rfl (by decide) kw_239 (show decode cX7_readMisses 74 = .ok (.getfield 25, 3) by decide +kernel) rfl, ?_⟩
  refine List.forall_mem_cons.mpr ⟨ok_aload_n C (show decode cX7_readMisses 77 = .ok (.aload_n 0, 1) by decide +kernel) rfl rfl, ?_⟩
  refine List.forall_mem_cons.mpr ⟨ok_getf C (wi_X7) rfl (by decide) kw_256 (show decode cX7_readMisses 78 = .ok (.getfield 62, 3) by decide +kernel) rfl, ?_⟩
  refine List.forall_mem_cons.mpr ⟨ok_iload_n C (show decode cX7_readMisses 81 = .ok (.iload_n 2, 1) by decide +kernel) rfl rfl, ?_⟩
  refine List.forall_mem_cons.mpr ⟨ok_iastore C (show decode cX7_readMisses 82 = .ok (.iastore, 1) by decide +kernel) rfl, ?_⟩
  refine List.forall_mem_cons.mpr ⟨ok_aload_n C (show decode cX7_readMisses 83 = .ok (.aload_n 0, 1) by decide +kernel) rfl rfl, ?_⟩
  refine List.forall_mem_cons.mpr ⟨ok_getf C (wi_X7) rfl (by decide) kw_241 (show decode cX7_readMisses 84 = .ok (.getfield 28, 3) by decide +kernel) rfl, ?_⟩
  refine List.forall_mem_cons.mpr ⟨ok_aload_n C (show decode cX7_readMisses 87 = .ok (.aload_n 0, 1) by decide +kernel) rfl rfl, ?_⟩
  refine List.forall_mem_cons.mpr ⟨ok_getf C (wi_X7) rfl (by decide) kw_256 (show decode cX7_readMisses 88 = .ok (.getfield 62, 3) by decide +kernel) rfl, ?_⟩
  refine List.forall_mem_cons.mpr ⟨ok_iload_n C (show decode cX7_readMisses 91 = .ok (.iload_n 3, 1) by decide +kernel) rfl rfl, ?_⟩
  refine List.forall_mem_cons.mpr ⟨ok_iastore C (show decode cX7_readMisses 92 = .ok (.iastore, 1) by decide +kernel) rfl, ?_⟩
  refine List.forall_mem_cons.mpr ⟨ok_aload_n C (show decode cX7_readMisses 93 = .ok (.aload_n 0, 1) by decide +kernel) rfl rfl, ?_⟩
  refine List.forall_mem_cons.mpr ⟨ok_getf C (wi_X7) rfl (by decide) kw_243 (show decode cX7_readMisses 94 = .ok (.getfield 31, 3) by decide +kernel) rfl, ?_⟩
  refine List.forall_mem_cons.mpr ⟨ok_aload_n C (show decode cX7_readMisses 97 = .ok (.aload_n 0, 1) by decide +kernel) rfl rfl, ?_⟩
  refine List.forall_mem_cons.mpr ⟨ok_getf C (wi_X7) rfl (by decide) kw_256 (show decode cX7_readMisses 98 = .ok (.getfield 62, 3) by decide +kernel) rfl, ?_⟩
  refine List.forall_mem_cons.mpr ⟨ok_aload_n C (show decode cX7_readMisses 101 = .ok (.aload_n 1, 1) by decide +kernel) rfl rfl, ?_⟩
  refine List.forall_mem_cons.mpr ⟨ok_getf C (wi_X9) rfl (by decide) kw_70 (show decode cX7_readMisses 102 = .ok (.getfield 115, 3) by decide +kernel) rfl, ?_⟩
  refine List.forall_mem_cons.mpr ⟨ok_iastore C (show decode cX7_readMisses 105 = .ok (.iastore, 1) by decide +kernel) rfl, ?_⟩
  refine List.forall_mem_cons.mpr ⟨ok_aload_n C (show decode cX7_readMisses 106 = .ok (.aload_n 0, 1) by decide +kernel) rfl rfl, ?_⟩
  refine List.forall_mem_cons.mpr ⟨ok_dup C (show decode cX7_readMisses 107 = .ok (.dup, 1) by decide +kernel) rfl, ?_⟩
  refine List.forall_mem_cons.mpr ⟨ok_getf C (wi_X7) rfl (by decide) kw_256 (show decode cX7_readMisses 108 = .ok (.getfield 62, 3) by decide +kernel) rfl, ?_⟩
  refine List.forall_mem_cons.mpr ⟨ok_iconst C (show decode cX7_readMisses 111 = .ok (.iconst 1, 1) by decide +kernel) (by decide) rfl, ?_⟩
  refine List.forall_mem_cons.mpr ⟨ok_iadd C (show decode cX7_readMisses 112 = .ok (.iadd, 1) by decide +kernel) rfl, ?_⟩
  refine List.forall_mem_cons.mpr ⟨ok_putf C (wi_X7) tyX7 tyX7_ok nmX7 rfl (by decide) kw_256 (Or.inl rfl) (Or.inl ⟨rfl, rfl⟩) (show decode cX7_readMisses 113 = .ok (.putfield 62, 3) by decide +kernel) rfl, ?_⟩
  refine List.forall_mem_cons.mpr ⟨ok_iconst C (show decode cX7_readMisses 116 = .ok (.iconst 1, 1) by decide +kernel) (by decide) rfl, ?_⟩
  refine List.forall_mem_cons.mpr ⟨ok_zret C rfl (show decode cX7_readMisses 117 = .ok (.ireturn, 1) by decide +kernel), ?_⟩
  exact fun _ h => absurd h List.not_mem_nil
