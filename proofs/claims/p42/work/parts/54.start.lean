/-! ===== the law's walk out of a run of its steps ===== -/
def ab_h0 : Nat → ab_E := fun _ => .inl (0, 0, .inl (fun _ => 0))
abbrev st_tm : Term := .string "LackFerry$Tape" 72
set_option maxRecDepth 100000 in
theorem st_sl : ((flatC (Jvm.Cond.and given_1 narrow_1)).drop 55).take 175 = (List.range 175).map (fun j => Cond.eq (.elem (.field st_tm "java/lang/String" "value" "[B") (.int (Int32.ofNat j))) (.int (sw_bs.getD j 0))) := by decide +kernel
theorem st_el (j : Nat) (hj : j < 175) : Cond.eq (.elem (.field st_tm "java/lang/String" "value" "[B") (.int (Int32.ofNat j))) (.int (sw_bs.getD j 0)) ∈ flatC (Jvm.Cond.and given_1 narrow_1) :=
  List.mem_of_mem_drop (List.mem_of_mem_take (by rw [st_sl]; exact List.mem_map.mpr ⟨j, List.mem_range.mpr hj, rfl⟩))
set_option maxRecDepth 100000 in
theorem st_nest : ∀ q ∈ ab_En, Cond.methodLinkNest q.1 q.2.1 q.2.2.1 q.2.2.2 ∈ lw_tbl := by decide +kernel
set_option maxRecDepth 100000 in
theorem st_decl : ∀ x ∈ ab_Ed, Cond.declares x ∈ lw_tbl := by decide +kernel
theorem st_arr {s : State} {args : Array Value} {ty : FieldType} (hp : ∀ k : ClassId, s.vm.findClass ("[" ++ ty.toString) = some k → va_RA s k ty) (h : (Cond.arrayClass ty).before args s = true) : ∃ k : ClassId, ArrOfT s k ty ∧ va_RA s k ty := by
  obtain ⟨k, kA, comp, h1, h2, h3⟩ := Cond.arrayClass_spec h
  exact ⟨k, fun n z => ⟨fun k h => (by cases h), kA, h2, comp, h3⟩, hp k h1⟩
theorem st_arrO {s : State} {args : Array Value} {C : String} (h : (Cond.arrayOver (.object C)).before args s = true) : ∃ k : ClassId, ArrOfT s k (.object C) ∧ va_RA s k (.object C) := by
  obtain ⟨comp, k, kA, h1, -, h3, h4, h5⟩ := Cond.arrayOver_spec h
  exact ⟨k, fun N z => ⟨fun k h => (by cases h), kA, h3, comp, h4⟩, kA, comp, h3, h4, h1, h5⟩
set_option maxHeartbeats 4000000 in
set_option maxRecDepth 100000 in
theorem start_of {p : Program} {e : Env} {s : State} {m : MethodId} {below : List Frame} {meth : Method} {c : Code} (l : Launch) (htr : l.stackTraces = false) {b L : Nat} {xs : Nat → Int32} (C0 : lw_At p s m meth c b L xs)
    (hrun : ∃ (f : Nat) (o : ab_O), ab_run (ab_T (LZ_law xs L)) f 0 (ab_en 7 [.retAddr 0], [], (0, 0), (0, ab_h0)) = some o) : W p l e room_1 s m #[Value.ref b] below meth c s.heap [] 0 0 (lw_Z below #[Value.ref b] s) (entryFrame m ([Value.ref b] : List Value).toArray 7) := by
  obtain ⟨f, o, hrun⟩ := hrun
  obtain ⟨hx, hb, hr, hml, hown, hts, hX, hbl, hlocks, hgv⟩ := id C0
  have hG : ∀ w ∈ ab_G, w.before #[Value.ref b] s = true := fun w h => hts w (List.mem_filter.mp h).1
  have hA : ∀ a : Nat, a < s.heap.size → ¬ (s.heap.size ≤ a) := fun a h => Nat.not_le.mpr h
  obtain ⟨cX0, iX0, kX0⟩ := u_known (C := RX0) (T := TX0) (N := 1) (n := 1) hG wi_X0 (hts (.instantiable RX0 1) (by decide +kernel))
  obtain ⟨cX1, iX1, kX1⟩ := u_known (C := RX1) (T := TX1) (N := 4) (n := 4) hG wi_X1 (hts (.instantiable RX1 4) (by decide +kernel))
  obtain ⟨cX2, iX2, kX2⟩ := u_known (C := RX2) (T := TX2) (N := 2) (n := 2) hG wi_X2 (hts (.instantiable RX2 2) (by decide +kernel))
  obtain ⟨cX3, iX3, kX3⟩ := u_known (C := RX3) (T := TX3) (N := 3) (n := 3) hG wi_X3 (hts (.instantiable RX3 3) (by decide +kernel))
  obtain ⟨cX4, iX4, kX4⟩ := u_known (C := RX4) (T := TX4) (N := 4) (n := 4) hG wi_X4 (hts (.instantiable RX4 4) (by decide +kernel))
  obtain ⟨cX5, iX5, kX5⟩ := u_known (C := RX5) (T := TX5) (N := 6) (n := 6) hG wi_X5 (hts (.instantiable RX5 6) (by decide +kernel))
  obtain ⟨cX6, iX6, kX6⟩ := u_known (C := RX6) (T := TX6) (N := 10) (n := 10) hG wi_X6 (hts (.instantiable RX6 10) (by decide +kernel))
  obtain ⟨cX7, iX7, kX7⟩ := u_known (C := RX7) (T := TX7) (N := 13) (n := 13) hG wi_X7 (hts (.instantiable RX7 13) (by decide +kernel))
  obtain ⟨cX8, iX8, kX8⟩ := u_known (C := RX8) (T := TX8) (N := 3) (n := 3) hG wi_X8 (hts (.instantiable RX8 3) (by decide +kernel))
  obtain ⟨cX9, iX9, kX9⟩ := u_known (C := RX9) (T := TX9) (N := 10) (n := 10) hG wi_X9 (hts (.instantiable RX9 10) (by decide +kernel))
  obtain ⟨cX10, iX10, kX10⟩ := u_known (C := RX10) (T := TX10) (N := 19) (n := 19) hG wi_X10 (hts (.instantiable RX10 19) (by decide +kernel))
  obtain ⟨cX11, iX11, kX11⟩ := u_known (C := RX11) (T := TX11) (N := 43) (n := 43) hG wi_X11 (hts (.instantiable RX11 43) (by decide +kernel))
  obtain ⟨cNS, iNS, kNS⟩ := u_known (C := ab_NS) (T := fun _ => ("", "", "", false)) (N := 0) (n := 6) hG (fun w h => by cases h) (hts (.instantiable ab_NS 6) (by decide +kernel))
  obtain ⟨dC, dI, hKc⟩ : ∃ (dC : Nat → ClassId) (dI : Nat → Nat → Nat), ∀ (k : Nat) (q : vw_C), ab_cl[k]? = some q → u_Kn s q.1 q.2.1 q.2.2 (dC k) (dI k) := by
    refine ⟨fun k => ([cX0, cX1, cX2, cX3, cX4, cX5, cX6, cX7, cX8, cX9, cX10, cX11, cNS] : List ClassId).getD k 0, fun k => ([iX0, iX1, iX2, iX3, iX4, iX5, iX6, iX7, iX8, iX9, iX10, iX11, iNS] : List (Nat → Nat)).getD k (fun _ => 0), ?_⟩
    intro k q hq
    match k, hq with
    | 0, hq => cases hq; exact kX0
    | 1, hq => cases hq; exact kX1
    | 2, hq => cases hq; exact kX2
    | 3, hq => cases hq; exact kX3
    | 4, hq => cases hq; exact kX4
    | 5, hq => cases hq; exact kX5
    | 6, hq => cases hq; exact kX6
    | 7, hq => cases hq; exact kX7
    | 8, hq => cases hq; exact kX8
    | 9, hq => cases hq; exact kX9
    | 10, hq => cases hq; exact kX10
    | 11, hq => cases hq; exact kX11
    | 12, hq => cases hq; exact kNS
    | k + 13, hq => simp [ab_cl] at hq
  obtain ⟨aB, hB1, hB2⟩ := st_arr (ty := .byte) (fun _ h => h) (hts (.arrayClass .byte) (by decide +kernel))
  obtain ⟨aI, hI1, hI2⟩ := st_arr (ty := .int) (fun _ h => h) (hts (.arrayClass .int) (by decide +kernel))
  obtain ⟨aJ, hJ1, hJ2⟩ := st_arr (ty := .long) (fun _ h => h) (hts (.arrayClass .long) (by decide +kernel))
  obtain ⟨aZ, hZ1, hZ2⟩ := st_arr (ty := .boolean) (fun _ h => h) (hts (.arrayClass .boolean) (by decide +kernel))
  obtain ⟨aM, hM1, hM2⟩ := st_arrO (hts (.arrayOver (.object "LackFerry$Image")) (by decide +kernel))
  obtain ⟨aS, hS1, hS2⟩ := st_arrO (hts (.arrayOver (.object "LackFerry$Shores")) (by decide +kernel))
  obtain ⟨cA, hcA⟩ : ∃ cA : Nat → ClassId, cA = fun k => ([aB, aI, aJ, aZ, aM, aS] : List ClassId).getD k 0 := ⟨_, rfl⟩
  have hK : va_K (dC, dI) ab_cl (ab_tys cA) s := by
    refine ⟨hKc, fun k q hq => ?_⟩
    subst hcA
    match k, hq with
    | 0, hq => cases hq; exact ⟨hB1, hB2⟩
    | 1, hq => cases hq; exact ⟨hI1, hI2⟩
    | 2, hq => cases hq; exact ⟨hJ1, hJ2⟩
    | 3, hq => cases hq; exact ⟨hZ1, hZ2⟩
    | 4, hq => cases hq; exact ⟨hM1, hM2⟩
    | 5, hq => cases hq; exact ⟨hS1, hS2⟩
    | k + 6, hq => simp [ab_tys] at hq
  have hgs := flat_of_before _ hgv
  obtain ⟨a2, _, _, _, e2, _⟩ := Cond.exactly_spec (args := #[Value.ref b]) (first := s) (o := none) (s := s) (idx := []) (t := Term.string "LackFerry" 188) (cls := "java/lang/String") (hgs (.exactly (.string "LackFerry" 188) "java/lang/String") (by decide +kernel))
  obtain ⟨a3, _, _, _, e3, _⟩ := Cond.exactly_spec (args := #[Value.ref b]) (first := s) (o := none) (s := s) (idx := []) (t := Term.string "LackFerry" 205) (cls := "java/lang/String") (hgs (.exactly (.string "LackFerry" 205) "java/lang/String") (by decide +kernel))
  obtain ⟨adK, adV, hSt, hev⟩ := vk_Sof (args := #[Value.ref b]) (s := s) (N := 1) (tm := fun _ => st_tm) (len := [175]) (byt := [sw_bs]) (A := fun q => s.heap.size ≤ q) (fun i hi => by obtain rfl : i = 0 := (by omega); exact (show (175 : Nat) < 2 ^ 31 by decide)) (fun i _ => hgs (.exactly st_tm "java/lang/String") (by decide +kernel)) (fun i _ => hgs (.eq (.field st_tm "java/lang/String" "coder" "B") (.int 0)) (by decide +kernel))
    (fun i _ => hgs (.arrayOf (.field st_tm "java/lang/String" "value" "[B") .byte) (by decide +kernel)) (fun i hi => by obtain rfl : i = 0 := (by omega); exact hgs (.eq (.length (.field st_tm "java/lang/String" "value" "[B")) (.int 175)) (by decide +kernel)) (fun i hi j hj => by obtain rfl : i = 0 := (by omega); exact hgs _ (st_el j hj)) (fun i j hi hj hij => absurd (show i = j by omega) hij) hA
  obtain ⟨a6, h6⟩ : ∃ a6 : Nat, va_Z "jdk/internal/util/Preconditions" "SIOOBE_FORMATTER" "Ljava/util/function/BiFunction;" .null (fun q => s.heap.size ≤ q) s s.heap ∨ va_Z "jdk/internal/util/Preconditions" "SIOOBE_FORMATTER" "Ljava/util/function/BiFunction;" (.ref a6) (fun q => s.heap.size ≤ q) s s.heap := by
    rcases va_Zqof (A := fun q => s.heap.size ≤ q) (hts (.laysStatic "jdk/internal/util/Preconditions" "SIOOBE_FORMATTER" "Ljava/util/function/BiFunction;") (by decide +kernel)) (hts (.initialized "jdk/internal/util/Preconditions") (by decide +kernel)) (hgs (.isRef (.static "jdk/internal/util/Preconditions" "SIOOBE_FORMATTER" "Ljava/util/function/BiFunction;")) (by decide +kernel)) hA with h | ⟨t, h⟩
    · exact ⟨0, Or.inl h⟩
    · exact ⟨t, Or.inr h⟩
  obtain ⟨B, hB⟩ : ∃ B : ab_B, B = (s.heap.size, fun i => ([b, 0, a2, a3, adK 0, adV 0, a6] : List Nat).getD i 0) := ⟨_, rfl⟩
  have hBs : B.1 = s.heap.size := by rw [hB]
  have hE : ab_E0 B s := by
    rw [hB]
    refine ⟨fun q hq => va_Nw.of rfl (hts _ (st_nest q hq)), va_AO.of (hts (.arrayOver (.object "LackFerry$Image")) (by decide +kernel)), va_AO.of (hts (.arrayOver (.object "LackFerry$Shores")) (by decide +kernel)), va_Nw.of rfl (hts (.castable ab_NS ab_NS) (by decide +kernel)), vk_R.of (hts (.stringRef "LackFerry" 188 "no such man") (by decide +kernel)) e2, vk_R.of (hts (.stringRef "LackFerry" 205 "no such thing of a man") (by decide +kernel)) e3, ?_, ?_, fun x hx => va_Nw.of rfl (hts _ (st_decl x hx)), vk_R.of (hts (.stringRef "LackFerry$Tape" 72 "load   good   stock  wants  eats   makes  man    misses hoards bares  wastes dies   day    or     and    not    lacked hoardedmade   eaten  false  near   far    crossednumber ") (by decide +kernel)) (hev 0 (by decide)), ⟨fun i hi => ?_, fun i j hi hj _ => by omega⟩, va_Zof (hts (.laysStatic "java/lang/String" "COMPACT_STRINGS" "Z") (by decide +kernel)) (hts (.initialized "java/lang/String") (by decide +kernel)) (va_eqi (hgs (.eq (.static "java/lang/String" "COMPACT_STRINGS" "Z") (.int 1)) (by decide +kernel))) hA, h6⟩
    · exact vx_Zqof (hts (.laysStatic Bundle.tN "UNASSIGNED_STACK" Bundle.steD) (by decide +kernel)) (hts (.initialized Bundle.tN) (by decide +kernel)) (hgs (.isRef (.static Bundle.tN "UNASSIGNED_STACK" Bundle.steD)) (by decide +kernel)) hA
    · exact vx_Zqof (hts (.laysStatic Bundle.tN "SUPPRESSED_SENTINEL" Bundle.listD) (by decide +kernel)) (hts (.initialized Bundle.tN) (by decide +kernel)) (hgs (.isRef (.static Bundle.tN "SUPPRESSED_SENTINEL" Bundle.listD)) (by decide +kernel)) hA
    · obtain rfl : i = 0 := by omega
      exact hSt.1 0 hi
  have C : ab_cx p l e room_1 s m #[Value.ref b] below meth c (dC, dI) ab_cl cA (ab_E0 B) ⟨RL, meth.name, "([I)Z"⟩ cL_law 7 ret (Cond.initialized "LackFerryLaw" :: ab_G) room_1 := by
    refine ⟨hx, hb, hml, hr, hlocks, fun w hw => ?_, hown, hK, hE, rfl, rfl⟩
    rcases List.mem_cons.mp hw with h | h
    · rw [h]; exact hts _ (by decide +kernel)
    · exact hG w h
  have hl := lv_entry ([.ref b]) (n := 7) (Nat.le_of_ble_eq_true rfl)
  rw [lg_entry_eq]
  generalize (lg_sl ([.ref b]) ++ List.replicate (7 - (lg_sl ([.ref b])).length) Slot.unset).toArray = ls at hl ⊢
  have hW := ab_run_ok (p := p) (l := l) (e := e) (R := room_1) (s := s) (m := m) (args := #[Value.ref b]) (below := below) (meth := meth) (c := c) (Q := lw_Z below #[Value.ref b] s) (b := B) (D := (dC, dI)) (cl := ab_cl) (cA := cA) (nL := 7) (P := fun i => i) (o := o) (T := ab_T (LZ_law xs L)) (fun i a ha => lawZ_ok htr C hX (by rw [hB]; rfl) ⟨hBs, hbl⟩ (i, a) (ab_T_mem _ i a ha)) f 0 _ hrun
  refine hW s.heap [] ls (fun k q h => by simp [ab_w] at h) (by rw [hBs]; rfl) va_S.rf (ab_en_has (b := B) (as := [.retAddr 0]) ?_)
  rw [hB]
  exact hl
