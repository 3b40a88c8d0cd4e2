/-! ===== steps over this claim's words ===== -/
section AB
variable {p : Program} {l : Launch} {e : Env} {R : Room} {s : State} {m : MethodId} {args : Array Value} {below : List Frame} {meth : Method} {c : Code} {Q : State → Prop}
variable {b : ab_B} {D : va_G} {cA : Nat → ClassId} {nL : Nat} {cc : ByteArray} {pc j t : Nat} {o : ab_O} {y : MethodName} {ret : Option FieldType} {cd : Cond} {rm : Room}
theorem cx_name (C : ab_cx p l e R s m args below meth c D ab_cl cA (ab_E0 b) y cc nL ret (cd :: ab_G) rm) : meth.name = y.name := C.2.2.2.2.2.2.2.2.2.1
theorem cx_E (C : ab_cx p l e R s m args below meth c D ab_cl cA (ab_E0 b) y cc nL ret (cd :: ab_G) rm)   : ab_E0 b s := C.2.2.2.2.2.2.2.2.1
theorem cx_nest (C : ab_cx p l e R s m args below meth c D ab_cl cA (ab_E0 b) y cc nL ret (cd :: ab_G) rm) {q : String × Nat × MethodName × String} (h : q ∈ ab_En) : va_Nw (.methodLinkNest q.1 q.2.1 q.2.2.1 q.2.2.2) s := (cx_E C).1 q h
theorem ok_getf (C : ab_cx p l e R s m args below meth c D ab_cl cA (ab_E0 b) y cc nL ret (cd :: ab_G) rm) {Cn : String} {T : u_T} {N ci index k : Nat} (hin : ∀ w ∈ u_ws Cn T N, w ∈ ab_G) (hc : ab_cl[ci]? = some (Cn, T, N)) (hk : k < N) (hlink : Cond.fieldLink y.cls index (T k).1 (T k).2.1 (T k).2.2.1 ∈ ab_G) (hd : decode cc pc = .ok (.getfield index, 3)) (hj : j = pc + 3) : ab_ok p l e R s m args below meth c Q b D ab_cl cA nL o (fun i => i) pc (ab_nx j (ab_getf ci k)) :=
  ab_getf_ok C.1 C.2.1 C.2.2.2.2.2.1 C.2.2.2.2.2.2.1 C.2.2.2.2.2.2.2.1 (fun w h => gm (hin w h)) hc hk (gm hlink) hd hj
theorem ok_putf (C : ab_cx p l e R s m args below meth c D ab_cl cA (ab_E0 b) y cc nL ret (cd :: ab_G) rm) {Cn : String} {T : u_T} {N ci index k kd : Nat} (hin : ∀ w ∈ u_ws Cn T N, w ∈ ab_G) (ty0 : Nat → FieldType) (hty : ∀ k, k < N → parseFieldDescriptor (T k).2.2.1 = some (ty0 k)) (hnm : ∀ a, a < N → ∀ b, b < N → a ≠ b → (T a).2.1 ≠ (T b).2.1) (hc : ab_cl[ci]? = some (Cn, T, N)) (hk : k < N) (hlink : Cond.fieldLink y.cls index (T k).1 (T k).2.1 (T k).2.2.1 ∈ ab_G)
    (hfin : (T k).2.2.2 = false ∨ ((T k).2.2.2 = true ∧ meth.name = "<init>" ∧ (T k).1 = y.cls)) (hkd : (kd = 0 ∧ ty0 k = .int) ∨ (kd = 1 ∧ ty0 k = .long) ∨ (kd = 2 ∧ ((∃ C, ty0 k = .object C) ∨ ∃ u, ty0 k = .array u)) ∨ (kd = 3 ∧ ty0 k = .boolean)) (hd : decode cc pc = .ok (.putfield index, 3)) (hj : j = pc + 3) : ab_ok p l e R s m args below meth c Q b D ab_cl cA nL o (fun i => i) pc (ab_nx j (ab_putf ci k kd)) :=
  ab_putf_ok C.1 C.2.1 C.2.2.2.2.2.1 C.2.2.2.2.2.2.1 C.2.2.2.2.2.2.2.1 (fun w h => gm (hin w h)) ty0 hty hnm hc hk (gm hlink) hfin rfl hkd hd hj
theorem ok_iaload (C : ab_cx p l e R s m args below meth c D ab_cl cA (ab_E0 b) y cc nL ret (cd :: ab_G) rm) (hd : decode cc pc = .ok (.iaload, 1)) (hj : j = pc + 1) : ab_ok p l e R s m args below meth c Q b D ab_cl cA nL o (fun i => i) pc (ab_nx j (ab_ald 1)) := ab_iald_ok C.1 C.2.1 C.2.2.2.2.2.2.2.1 hd hj
theorem ok_baload (C : ab_cx p l e R s m args below meth c D ab_cl cA (ab_E0 b) y cc nL ret (cd :: ab_G) rm) (hd : decode cc pc = .ok (.baload, 1)) (hj : j = pc + 1) : ab_ok p l e R s m args below meth c Q b D ab_cl cA nL o (fun i => i) pc (ab_nx j (ab_ald 0)) := ab_bald_ok C.1 C.2.1 C.2.2.2.2.2.2.2.1 hd hj
theorem ok_zaload (C : ab_cx p l e R s m args below meth c D ab_cl cA (ab_E0 b) y cc nL ret (cd :: ab_G) rm) (hd : decode cc pc = .ok (.baload, 1)) (hj : j = pc + 1) : ab_ok p l e R s m args below meth c Q b D ab_cl cA nL o (fun i => i) pc (ab_nx j (ab_ald 3)) := ab_zald_ok C.1 C.2.1 C.2.2.2.2.2.2.2.1 hd hj
theorem ok_laload (C : ab_cx p l e R s m args below meth c D ab_cl cA (ab_E0 b) y cc nL ret (cd :: ab_G) rm) (hd : decode cc pc = .ok (.laload, 1)) (hj : j = pc + 1) : ab_ok p l e R s m args below meth c Q b D ab_cl cA nL o (fun i => i) pc (ab_nx j ab_lald) := ab_lald_ok C.1 C.2.1 C.2.2.2.2.2.2.2.1 hd hj
theorem ok_iastore (C : ab_cx p l e R s m args below meth c D ab_cl cA (ab_E0 b) y cc nL ret (cd :: ab_G) rm) (hd : decode cc pc = .ok (.iastore, 1)) (hj : j = pc + 1) : ab_ok p l e R s m args below meth c Q b D ab_cl cA nL o (fun i => i) pc (ab_nx j (ab_ast 1)) := ab_iast_ok C.1 C.2.1 C.2.2.2.2.2.2.2.1 hd hj
theorem ok_bastore (C : ab_cx p l e R s m args below meth c D ab_cl cA (ab_E0 b) y cc nL ret (cd :: ab_G) rm) (hd : decode cc pc = .ok (.bastore, 1)) (hj : j = pc + 1) : ab_ok p l e R s m args below meth c Q b D ab_cl cA nL o (fun i => i) pc (ab_nx j (ab_ast 0)) := ab_bast_ok C.1 C.2.1 C.2.2.2.2.2.2.2.1 hd hj
theorem ok_zastore (C : ab_cx p l e R s m args below meth c D ab_cl cA (ab_E0 b) y cc nL ret (cd :: ab_G) rm) (hd : decode cc pc = .ok (.bastore, 1)) (hj : j = pc + 1) : ab_ok p l e R s m args below meth c Q b D ab_cl cA nL o (fun i => i) pc (ab_nx j (ab_ast 3)) := ab_zast_ok C.1 C.2.1 C.2.2.2.2.2.2.2.1 hd hj
theorem ok_lastore (C : ab_cx p l e R s m args below meth c D ab_cl cA (ab_E0 b) y cc nL ret (cd :: ab_G) rm) (hd : decode cc pc = .ok (.lastore, 1)) (hj : j = pc + 1) : ab_ok p l e R s m args below meth c Q b D ab_cl cA nL o (fun i => i) pc (ab_nx j ab_last) := ab_last_ok C.1 C.2.1 C.2.2.2.2.2.2.2.1 hd hj
theorem ok_arraylength (C : ab_cx p l e R s m args below meth c D ab_cl cA (ab_E0 b) y cc nL ret (cd :: ab_G) rm) (hd : decode cc pc = .ok (.arraylength, 1)) (hj : j = pc + 1) : ab_ok p l e R s m args below meth c Q b D ab_cl cA nL o (fun i => i) pc (ab_nx j ab_alen) := ab_alen_ok C.1 C.2.1 C.2.2.2.2.2.2.2.1 hd hj
theorem ok_aaload (C : ab_cx p l e R s m args below meth c D ab_cl cA (ab_E0 b) y cc nL ret (cd :: ab_G) rm) {t0 : Nat} {Cn : String} (ht : (ab_tys cA)[t0]? = some (cA t0, .object Cn)) (hd : decode cc pc = .ok (.aaload, 1)) (hj : j = pc + 1) : ab_ok p l e R s m args below meth c Q b D ab_cl cA nL o (fun i => i) pc (ab_nx j (ab_aald t0)) := ab_aald_ok C.1 C.2.1 C.2.2.2.2.2.2.2.1 ht hd hj
theorem ok_aastore (C : ab_cx p l e R s m args below meth c D ab_cl cA (ab_E0 b) y cc nL ret (cd :: ab_G) rm) {t0 ci : Nat} {r : vw_C} (hc : ab_cl[ci]? = some r) (ht : (ab_tys cA)[t0]? = some (cA t0, .object r.1)) (hd : decode cc pc = .ok (.aastore, 1)) (hj : j = pc + 1) : ab_ok p l e R s m args below meth c Q b D ab_cl cA nL o (fun i => i) pc (ab_nx j (ab_aast t0 ci)) := ab_aast_ok C.1 C.2.1 C.2.2.2.2.2.2.2.1 ht hc hd hj
theorem cx_R (C : ab_cx p l e R s m args below meth c D ab_cl cA (ab_E0 b) y cc nL ret (cd :: ab_G) rm) : R = rm := C.2.2.2.2.2.2.2.2.2.2
theorem cx_cells (C : ab_cx p l e R s m args below meth c D ab_cl cA (ab_E0 b) y cc nL ret (cd :: ab_G) rm) : R.cells = rm.cells ∧ R.slots = rm.slots := by rw [cx_R C]; exact ⟨rfl, rfl⟩
theorem ok_newa_int (C : ab_cx p l e R s m args below meth c D ab_cl cA (ab_E0 b) y cc nL ret (cd :: ab_G) rm) (harr : Cond.arrayClass .int ∈ ab_G) (hd : decode cc pc = .ok (.newarray .int, 2)) (hj : j = pc + 2) : ab_ok p l e R s m args below meth c Q b D ab_cl cA nL o (fun i => i) pc (ab_nx j (ab_newa 1 (fun n => (n, .inl (fun _ => 0))) rm.cells rm.slots)) :=
  ab_newa_ok (ty := .int) C.1 C.2.1 C.2.2.2.2.2.1 C.2.2.2.2.2.2.2.1 (cx_cells C) rfl rfl (fun _ h => h) (gm harr) (by decide) (fun _ _ => rfl) hd hj
theorem ok_newa_byte (C : ab_cx p l e R s m args below meth c D ab_cl cA (ab_E0 b) y cc nL ret (cd :: ab_G) rm) (harr : Cond.arrayClass .byte ∈ ab_G) (hd : decode cc pc = .ok (.newarray .byte, 2)) (hj : j = pc + 2) : ab_ok p l e R s m args below meth c Q b D ab_cl cA nL o (fun i => i) pc (ab_nx j (ab_newa 0 (fun n => (n, .inl (fun _ => 0))) rm.cells rm.slots)) :=
  ab_newa_ok (ty := .byte) C.1 C.2.1 C.2.2.2.2.2.1 C.2.2.2.2.2.2.2.1 (cx_cells C) rfl rfl (fun _ h => h) (gm harr) (by decide) (fun _ _ => rfl) hd hj
theorem ok_newa_long (C : ab_cx p l e R s m args below meth c D ab_cl cA (ab_E0 b) y cc nL ret (cd :: ab_G) rm) (harr : Cond.arrayClass .long ∈ ab_G) (hd : decode cc pc = .ok (.newarray .long, 2)) (hj : j = pc + 2) : ab_ok p l e R s m args below meth c Q b D ab_cl cA nL o (fun i => i) pc (ab_nx j (ab_newa 2 (fun n => (n, .inr (.inl (fun _ => 0)))) rm.cells rm.slots)) :=
  ab_newa_ok (ty := .long) C.1 C.2.1 C.2.2.2.2.2.1 C.2.2.2.2.2.2.2.1 (cx_cells C) rfl rfl (fun _ h => h) (gm harr) (by decide) (fun _ _ => rfl) hd hj
theorem ok_newa_boolean (C : ab_cx p l e R s m args below meth c D ab_cl cA (ab_E0 b) y cc nL ret (cd :: ab_G) rm) (harr : Cond.arrayClass .boolean ∈ ab_G) (hd : decode cc pc = .ok (.newarray .boolean, 2)) (hj : j = pc + 2) : ab_ok p l e R s m args below meth c Q b D ab_cl cA nL o (fun i => i) pc (ab_nx j (ab_newa 3 (fun n => (n, .inl (fun _ => 0))) rm.cells rm.slots)) :=
  ab_newa_ok (ty := .boolean) C.1 C.2.1 C.2.2.2.2.2.1 C.2.2.2.2.2.2.2.1 (cx_cells C) rfl rfl (fun _ h => h) (gm harr) (by decide) (fun _ _ => rfl) hd hj
theorem ok_anew (C : ab_cx p l e R s m args below meth c D ab_cl cA (ab_E0 b) y cc nL ret (cd :: ab_G) rm) {t0 index : Nat} {Cn : String} (ht : (ab_tys cA)[t0]? = some (cA t0, .object Cn)) (hover : va_AO Cn s) (hclink : Cond.classLink y.cls index Cn ∈ ab_G) (hd : decode cc pc = .ok (.anewarray index, 3)) (hj : j = pc + 3) : ab_ok p l e R s m args below meth c Q b D ab_cl cA nL o (fun i => i) pc (ab_nx j (ab_newa t0 (fun n => (n, .inr (.inr (.inr (.inr (fun _ => none)))))) rm.cells rm.slots)) :=
  ab_newq_ok C.1 C.2.1 C.2.2.2.2.2.1 C.2.2.2.2.2.2.1 C.2.2.2.2.2.2.2.1 (cx_cells C) ht hover (gm hclink) hd hj
theorem ok_new (C : ab_cx p l e R s m args below meth c D ab_cl cA (ab_E0 b) y cc nL ret (cd :: ab_G) rm) {Cn : String} {T : u_T} {N ci index : Nat} {fs : List Value} (hin : ∀ w ∈ u_ws Cn T N, w ∈ ab_G) (ty : Nat → FieldType) (hty : ∀ k, k < N → parseFieldDescriptor (T k).2.2.1 = some (ty k)) (hc : ab_cl[ci]? = some (Cn, T, N)) (hcl : Cond.classLink y.cls index Cn ∈ ab_G) (hinst : Cond.instantiable Cn N ∈ ab_G) (hini : Cond.initialized Cn ∈ ab_G)
    (hfs : ∀ i, i < N → defaultValue (ty i) = vp_V (fs.map (ab_v b)) i) (hd : decode cc pc = .ok (.new index, 3)) (hj : j = pc + 3) : ab_ok p l e R s m args below meth c Q b D ab_cl cA nL o (fun i => i) pc (ab_nx j (ab_new ci N fs rm.cells rm.slots)) :=
  ab_new_ok C.1 C.2.1 C.2.2.2.2.2.1 C.2.2.2.2.2.2.1 C.2.2.2.2.2.2.2.1 (cx_cells C) (fun w h => gm (hin w h)) ty hty hc (gm hcl) (gm hinst) (gm hini) hfs hd hj
theorem ok_obj (C : ab_cx p l e R s m args below meth c D ab_cl cA (ab_E0 b) y cc nL ret (cd :: ab_G) rm) {index : Nat} (hlink : Cond.methodLink y.cls index Lib.objectInit ∈ ab_G) (hinst : Cond.instanceMethod Lib.objectInit ∈ ab_G) (hcode : Cond.code Lib.objectInit ⟨#[0xb1]⟩ 1 none ∈ ab_G)
    (hR : 1 ≤ rm.frames ∧ 20 ≤ rm.locals) (hd : decode cc pc = .ok (.invokespecial index, 3)) (hj : j = pc + 3) : ab_ok p l e R s m args below meth c Q b D ab_cl cA nL o (fun i => i) pc (ab_nx j ab_obj) :=
  ab_obj_ok C.1 C.2.1 C.2.2.1 C.2.2.2.2.2.1 C.2.2.2.2.2.2.1 (gm hlink) (gm hinst) (gm hcode) (by rw [cx_R C]; exact hR) hd hj
theorem ok_mmax (C : ab_cx p l e R s m args below meth c D ab_cl cA (ab_E0 b) y cc nL ret (cd :: ab_G) rm) {index : Nat} (hlink : Cond.methodLink y.cls index Lib.Math.max.name ∈ ab_G) (hstat : Cond.static Lib.Math.max.name ∈ ab_G) (hini : Cond.initialized "java/lang/Math" ∈ ab_G) (hcode : Cond.code Lib.Math.max.name Lib.Math.max.code 2 (some .int) ∈ ab_G)
    (hR : 1 ≤ rm.frames ∧ 21 ≤ rm.locals) (hd : decode cc pc = .ok (.invokestatic index, 3)) (hj : j = pc + 3) : ab_ok p l e R s m args below meth c Q b D ab_cl cA nL o (fun i => i) pc (ab_nx j (ab_mm ab_max rm.cells rm.slots)) := by
  have hE := cx_cells C
  have hR' : 1 ≤ R.frames ∧ 21 ≤ R.locals := by rw [cx_R C]; exact hR
  exact ab_mm_ok hj fun H locs u ls rest x z hz hc h1 h2 k => va_mmax C.1 C.2.1 (C.2.2.1.trans hz.symm) C.2.2.2.2.2.2.1 (C.2.2.2.2.2.1 _ (gm hlink)) (C.2.2.2.2.2.1 _ (gm hstat)) (C.2.2.2.2.2.1 _ (gm hini)) (C.2.2.2.2.2.1 _ (gm hcode)) hR'.1 (by omega) (by rw [hE.1]; exact h1) (by rw [hE.2]; exact h2) hd k
theorem ok_mmin (C : ab_cx p l e R s m args below meth c D ab_cl cA (ab_E0 b) y cc nL ret (cd :: ab_G) rm) {index : Nat} (hlink : Cond.methodLink y.cls index Lib.Math.min.name ∈ ab_G) (hstat : Cond.static Lib.Math.min.name ∈ ab_G) (hini : Cond.initialized "java/lang/Math" ∈ ab_G) (hcode : Cond.code Lib.Math.min.name Lib.Math.min.code 2 (some .int) ∈ ab_G)
    (hR : 1 ≤ rm.frames ∧ 21 ≤ rm.locals) (hd : decode cc pc = .ok (.invokestatic index, 3)) (hj : j = pc + 3) : ab_ok p l e R s m args below meth c Q b D ab_cl cA nL o (fun i => i) pc (ab_nx j (ab_mm ab_min rm.cells rm.slots)) := by
  have hE := cx_cells C
  have hR' : 1 ≤ R.frames ∧ 21 ≤ R.locals := by rw [cx_R C]; exact hR
  exact ab_mm_ok hj fun H locs u ls rest x z hz hc h1 h2 k => va_mmin C.1 C.2.1 (C.2.2.1.trans hz.symm) C.2.2.2.2.2.2.1 (C.2.2.2.2.2.1 _ (gm hlink)) (C.2.2.2.2.2.1 _ (gm hstat)) (C.2.2.2.2.2.1 _ (gm hini)) (C.2.2.2.2.2.1 _ (gm hcode)) hR'.1 (by omega) (by rw [hE.1]; exact h1) (by rw [hE.2]; exact h2) hd k
theorem ok_copy (C : ab_cx p l e R s m args below meth c D ab_cl cA (ab_E0 b) y cc nL ret (cd :: ab_G) rm) {index : Nat} (hlink : Cond.methodLink y.cls index arraycopyName ∈ ab_G) (hnat : Cond.native arraycopyName ∈ ab_G) (hstat : Cond.static arraycopyName ∈ ab_G) (hini : Cond.initialized "java/lang/System" ∈ ab_G)
    (hR : 1 ≤ rm.frames ∧ 8 + (nativeFrameWords "java/lang/System" "arraycopy" 5 + 11) ≤ rm.locals) (hd : decode cc pc = .ok (.invokestatic index, 3)) (hj : j = pc + 3) : ab_ok p l e R s m args below meth c Q b D ab_cl cA nL o (fun i => i) pc (ab_nx j ab_copy) :=
  ab_copy_ok C.1 C.2.1 C.2.2.1 C.2.2.2.2.2.1 C.2.2.2.2.2.2.1 C.2.2.2.2.2.2.2.1 (gm hlink) (gm hnat) (gm hstat) (gm hini) (by rw [cx_R C]; exact hR) hd hj
theorem ok_tab (C : ab_cx p l e R s m args below meth c D ab_cl cA (ab_E0 b) y cc nL ret (cd :: ab_G) rm) {dflt lo hi : Int} {offs : Array Int} {len : Nat} {ts : List Nat} {dj : Nat} (hd : decode cc pc = .ok (.tableswitch dflt lo hi offs, len)) (hdf : (pc : Int) + dflt = (dj : Int)) (hts : offs.toList.map (fun z => (pc : Int) + z) = ts.map (fun z : Nat => (z : Int))) (hhi : hi = lo + (ts.length : Int) - 1) : ab_ok p l e R s m args below meth c Q b D ab_cl cA nL o (fun i => i) pc (ab_tab lo ts dj) := ab_tab_ok C.1 C.2.1 hd hdf hts hhi
theorem ok_ret (C : ab_cx p l e R s m args below meth c D ab_cl cA (ab_E0 b) y cc nL ret (cd :: ab_G) rm) (hr : ret = some .int) (hd : decode cc pc = .ok (.ireturn, 1)) : ab_ok p l e R s m args below meth c (MQ below (ab_Qx b D ab_cl cA o) args s rm.cells rm.slots (fun q => b.1 ≤ q)) b D ab_cl cA nL o (fun i => i) pc (ab_ret rm.cells rm.slots) := ab_ret_ok C.1 C.2.1 (C.2.2.2.1.trans hr) C.2.2.2.2.1 hd
theorem ok_zret (C : ab_cx p l e R s m args below meth c D ab_cl cA (ab_E0 b) y cc nL ret (cd :: ab_G) rm) (hr : ret = some .boolean) (hd : decode cc pc = .ok (.ireturn, 1)) : ab_ok p l e R s m args below meth c (MQ below (ab_Qx b D ab_cl cA o) args s rm.cells rm.slots (fun q => b.1 ≤ q)) b D ab_cl cA nL o (fun i => i) pc (ab_zret rm.cells rm.slots) := ab_zret_ok C.1 C.2.1 (C.2.2.2.1.trans hr) C.2.2.2.2.1 hd
theorem ok_vret (C : ab_cx p l e R s m args below meth c D ab_cl cA (ab_E0 b) y cc nL ret (cd :: ab_G) rm) (hr : ret = none) (hd : decode cc pc = .ok (.return_, 1)) : ab_ok p l e R s m args below meth c (MQ below (ab_Qx b D ab_cl cA o) args s rm.cells rm.slots (fun q => b.1 ≤ q)) b D ab_cl cA nL o (fun i => i) pc (ab_vret rm.cells rm.slots) := ab_vret_ok C.1 C.2.1 (C.2.2.2.1.trans hr) C.2.2.2.2.1 hd
variable {nA mc ms maxL index : Nat} {X : List Value → ab_H → Option ab_O} {z : MethodName} {bytes : ByteArray} {rz : Option FieldType} {rc : Room}
theorem ok_callV (C : ab_cx p l e R s m args below meth c D ab_cl cA (ab_E0 b) y cc nL ret (cd :: ab_G) rm) {Cn : String} {T : u_T} {N ci n : Nat} (hM : ab_M l b D ab_cl cA (ab_E0 b) z (Cond.code z bytes maxL rz :: ab_G) rc X) (hm : rc.cells = mc ∧ rc.slots = ms) (hc : ab_cl[ci]? = some (Cn, T, N)) (hcode : Cond.code z bytes maxL rz ∈ ab_G) (hlink : Cond.methodLink y.cls index z ∈ ab_G) (hinst : Cond.instanceMethod z ∈ ab_G) (hsel : Cond.selects Cn z z ∈ ab_G) (hini : Cond.initialized z.cls ∈ ab_G)
    (hn : nA = n + 1) (hds : z.cls ≠ "java/lang/invoke/MethodHandle" ∧ z.cls ≠ "java/lang/invoke/VarHandle" ∧ (parseMethodDescriptor z.desc).map (fun d => d.parameters.length) = some n) (hrm : rc.frames + 1 ≤ rm.frames ∧ 8 + (maxL + 11) + rc.locals ≤ rm.locals) (hd : decode cc pc = .ok (.invokevirtual index, 3)) (hj : j = pc + 3) : ab_ok p l e R s m args below meth c Q b D ab_cl cA nL o (fun i => i) pc (ab_nx j (ab_callV nA ci X mc ms rm.cells rm.slots)) :=
  ab_callV_ok C.1 C.2.1 C.2.2.1 C.2.2.2.2.2.1 C.2.2.2.2.2.2.1 C.2.2.2.2.2.2.2.1 (cx_cells C) (cx_E C) (ab_E0k b) (ab_E0b b) hM hm hc (ab_good hcode) rfl (gm hlink) (gm hinst) (gm hsel) (gm hini) hn hds (by rw [cx_R C]; exact hrm) hd hj
theorem ok_callS (C : ab_cx p l e R s m args below meth c D ab_cl cA (ab_E0 b) y cc nL ret (cd :: ab_G) rm) (hM : ab_M l b D ab_cl cA (ab_E0 b) z (Cond.code z bytes maxL rz :: ab_G) rc X) (hm : rc.cells = mc ∧ rc.slots = ms) (hcode : Cond.code z bytes maxL rz ∈ ab_G) (hlink : Cond.methodLink y.cls index z ∈ ab_G) (hstat : Cond.static z ∈ ab_G) (hini : Cond.initialized z.cls ∈ ab_G)
    (hds : z.cls ≠ "java/lang/invoke/MethodHandle" ∧ z.cls ≠ "java/lang/invoke/VarHandle" ∧ (parseMethodDescriptor z.desc).map (fun d => d.parameters.length) = some nA) (hrm : rc.frames + 1 ≤ rm.frames ∧ 8 + (maxL + 11) + rc.locals ≤ rm.locals) (hd : decode cc pc = .ok (.invokestatic index, 3)) (hj : j = pc + 3) : ab_ok p l e R s m args below meth c Q b D ab_cl cA nL o (fun i => i) pc (ab_nx j (ab_call nA X mc ms rm.cells rm.slots)) :=
  ab_callS_ok C.1 C.2.1 C.2.2.1 C.2.2.2.2.2.1 C.2.2.2.2.2.2.1 C.2.2.2.2.2.2.2.1 (cx_cells C) (cx_E C) (ab_E0k b) (ab_E0b b) hM hm (ab_good hcode) rfl (gm hlink) (gm hstat) (gm hini) hds (by rw [cx_R C]; exact hrm) hd hj
theorem ok_callSN (C : ab_cx p l e R s m args below meth c D ab_cl cA (ab_E0 b) y cc nL ret (cd :: ab_G) rm) {host : String} (hM : ab_M l b D ab_cl cA (ab_E0 b) z (Cond.code z bytes maxL rz :: ab_G) rc X) (hm : rc.cells = mc ∧ rc.slots = ms) (hcode : Cond.code z bytes maxL rz ∈ ab_G) (hlink : (y.cls, index, z, host) ∈ ab_En) (hstat : Cond.static z ∈ ab_G) (hini : Cond.initialized z.cls ∈ ab_G)
    (hds : z.cls ≠ "java/lang/invoke/MethodHandle" ∧ z.cls ≠ "java/lang/invoke/VarHandle" ∧ (parseMethodDescriptor z.desc).map (fun d => d.parameters.length) = some nA) (hrm : rc.frames + 1 ≤ rm.frames ∧ 8 + (maxL + 11) + rc.locals ≤ rm.locals) (hd : decode cc pc = .ok (.invokestatic index, 3)) (hj : j = pc + 3) : ab_ok p l e R s m args below meth c Q b D ab_cl cA nL o (fun i => i) pc (ab_nx j (ab_call nA X mc ms rm.cells rm.slots)) :=
  ab_callSN_ok (host := host) C.1 C.2.1 C.2.2.1 C.2.2.2.2.2.1 C.2.2.2.2.2.2.1 C.2.2.2.2.2.2.2.1 (cx_cells C) (cx_E C) (ab_E0k b) (ab_E0b b) hM hm (ab_good hcode) rfl (cx_nest C hlink) (gm hstat) (gm hini) hds (by rw [cx_R C]; exact hrm) hd hj
theorem ok_callI (C : ab_cx p l e R s m args below meth c D ab_cl cA (ab_E0 b) y cc nL ret (cd :: ab_G) rm) (hM : ab_M l b D ab_cl cA (ab_E0 b) z (Cond.code z bytes maxL none :: ab_G) rc X) (hm : rc.cells = mc ∧ rc.slots = ms) (hX1 : ∀ v hp o2, X [v] hp = some o2 → ∃ a, v = .ref a) (hcode : Cond.code z bytes maxL none ∈ ab_G) (hlink : Cond.methodLink y.cls index z ∈ ab_G) (hinst : Cond.instanceMethod z ∈ ab_G) (hini : Cond.initialized z.cls ∈ ab_G) (hy1 : z.name = "<init>")
    (hds : z.cls ≠ "java/lang/invoke/MethodHandle" ∧ z.cls ≠ "java/lang/invoke/VarHandle" ∧ (parseMethodDescriptor z.desc).map (fun d => d.parameters.length) = some 0) (hrm : rc.frames + 1 ≤ rm.frames ∧ 8 + (maxL + 11) + rc.locals ≤ rm.locals) (hd : decode cc pc = .ok (.invokespecial index, 3)) (hj : j = pc + 3) : ab_ok p l e R s m args below meth c Q b D ab_cl cA nL o (fun i => i) pc (ab_nx j (ab_call 1 X mc ms rm.cells rm.slots)) :=
  ab_callI_ok C.1 C.2.1 C.2.2.1 C.2.2.2.2.2.1 C.2.2.2.2.2.2.1 C.2.2.2.2.2.2.2.1 (cx_cells C) (cx_E C) (ab_E0k b) (ab_E0b b) hM hX1 hm (ab_good hcode) rfl (gm hlink) (gm hinst) (gm hini) hy1 hds (by rw [cx_R C]; exact hrm) hd hj
theorem ok_callIN (C : ab_cx p l e R s m args below meth c D ab_cl cA (ab_E0 b) y cc nL ret (cd :: ab_G) rm) {host : String} (hM : ab_M l b D ab_cl cA (ab_E0 b) z (Cond.code z bytes maxL none :: ab_G) rc X) (hm : rc.cells = mc ∧ rc.slots = ms) (hX1 : ∀ v hp o2, X [v] hp = some o2 → ∃ a, v = .ref a) (hcode : Cond.code z bytes maxL none ∈ ab_G) (hlink : (y.cls, index, z, host) ∈ ab_En) (hinst : Cond.instanceMethod z ∈ ab_G) (hini : Cond.initialized z.cls ∈ ab_G) (hy1 : z.name = "<init>")
    (hds : z.cls ≠ "java/lang/invoke/MethodHandle" ∧ z.cls ≠ "java/lang/invoke/VarHandle" ∧ (parseMethodDescriptor z.desc).map (fun d => d.parameters.length) = some 0) (hrm : rc.frames + 1 ≤ rm.frames ∧ 8 + (maxL + 11) + rc.locals ≤ rm.locals) (hd : decode cc pc = .ok (.invokespecial index, 3)) (hj : j = pc + 3) : ab_ok p l e R s m args below meth c Q b D ab_cl cA nL o (fun i => i) pc (ab_nx j (ab_call 1 X mc ms rm.cells rm.slots)) :=
  ab_callIN_ok (host := host) C.1 C.2.1 C.2.2.1 C.2.2.2.2.2.1 C.2.2.2.2.2.2.1 C.2.2.2.2.2.2.2.1 (cx_cells C) (cx_E C) (ab_E0k b) (ab_E0b b) hM hX1 hm (ab_good hcode) rfl (cx_nest C hlink) (gm hinst) (gm hini) hy1 hds (by rw [cx_R C]; exact hrm) hd hj
end AB
theorem ab_init_ref (L : List (Nat × ab_A)) (nL : Nat) {k : Nat} {v : Value} {hp : ab_H} {o : ab_O} (h0 : ab_T L 0 = some (ab_nx 1 (ab_aload 0))) (h1 : ab_T L 1 = some (ab_nx k ab_obj)) (h : ab_X (ab_T L) nL [v] hp = some o) : ∃ a, v = .ref a := by
  obtain ⟨hl, f, hr⟩ := ab_X_run h
  cases v with
  | ref a => exact ⟨a, rfl⟩
  | null =>
    exfalso
    cases f with
    | zero => cases hr
    | succ f =>
      rw [ab_run, h0] at hr
      simp only [ab_nx, ab_aload, ab_en, ab_ent, List.cons_append, List.getElem?_cons_zero] at hr
      cases f with
      | zero => cases hr
      | succ f =>
        rw [ab_run, h1] at hr
        simp only [ab_nx, ab_obj] at hr
        cases hr
  | retAddr a =>
    exfalso
    cases f with
    | zero => cases hr
    | succ f =>
      rw [ab_run, h0] at hr
      simp only [ab_nx, ab_aload, ab_en, ab_ent, List.cons_append, List.getElem?_cons_zero] at hr
      cases f with
      | zero => cases hr
      | succ f =>
        rw [ab_run, h1] at hr
        simp only [ab_nx, ab_obj] at hr
        cases hr
  | _ =>
    exfalso
    cases f with
    | zero => cases hr
    | succ f =>
      rw [ab_run, h0] at hr
      simp only [ab_nx, ab_aload, ab_en, ab_ent, List.cons_append, List.getElem?_cons_zero] at hr
      cases hr
/-- the steps with a number of turns: a function that can be counted out -/
def ab_Y (L : List (Nat × ab_A)) (nL F : Nat) (as : List Value) (hp : ab_H) : Option ab_O := cond (decide ((ab_ent as).length ≤ nL)) (ab_run (ab_T L) F 0 (ab_en nL as, [], (0, 0), hp)) none
theorem ab_YX {L : List (Nat × ab_A)} {nL F : Nat} {as : List Value} {hp : ab_H} {o : ab_O} (h : ab_Y L nL F as hp = some o) : ab_X (ab_T L) nL as hp = some o := by
  obtain ⟨h1, h2⟩ := ab_condN h
  exact ab_X_of (of_decide_eq_true h1) h2
theorem ab_YM {l : Launch} {b : ab_B} {D : va_G} {cl : List vw_C} {cA : Nat → ClassId} {E : State → Prop} {y : MethodName} {ws : List Cond} {rm : Room} {L : List (Nat × ab_A)} {nL F : Nat} (h : ab_M l b D cl cA E y ws rm (ab_X (ab_T L) nL)) : ab_M l b D cl cA E y ws rm (ab_Y L nL F) := fun as hp o hy => h as hp o (ab_YX hy)
