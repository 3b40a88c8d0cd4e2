-- 11.wraps.lean.txt
section
/-! ===== steps over this claim's words ===== -/
section AB
variable {p : Program} {l : Launch} {e : Env} {R : Room} {s : State} {m : MethodId} {args : Array Value} {below : List Frame} {meth : Method} {c : Code} {Q : State → Prop}
variable {b : ab_B} {D : va_G} {cA : Nat → ClassId} {nL : Nat} {cc : ByteArray} {pc j t : Nat} {o : ab_O} {y : MethodName} {ret : Option FieldType} {cd : Cond} {rm : Room}
theorem cx_name (C : ab_cx p l e R s m args below meth c D ab_cl cA (ab_E0 b) y cc nL ret (cd :: ab_G) rm) : meth.name = y.name := C.2.2.2.2.2.2.2.2.2.1
theorem cx_E (C : ab_cx p l e R s m args below meth c D ab_cl cA (ab_E0 b) y cc nL ret (cd :: ab_G) rm)   : ab_E0 b s := C.2.2.2.2.2.2.2.2.1
theorem cx_nest (C : ab_cx p l e R s m args below meth c D ab_cl cA (ab_E0 b) y cc nL ret (cd :: ab_G) rm) {q : String × Nat × MethodName × String} (h : q ∈ ab_En) : va_Nw (.methodLinkNest q.1 q.2.1 q.2.2.1 q.2.2.2) s := (cx_E C).1 q h
theorem ok_getf (C : ab_cx p l e R s m args below meth c D ab_cl cA (ab_E0 b) y cc nL ret (cd :: ab_G) rm) {Cn : String} {T : u_T} {N ci index k : Nat} (hin : ∀ w ∈ u_ws Cn T N, w ∈ ab_G) (hc : ab_cl[ci]? = some (Cn, T, N)) (hk : k < N) (hlink : Cond.fieldLink y.cls index (T k).1 (T k).2.1 (T k).2.2.1 ∈ ab_G) (hd : decode cc pc = .ok (.getfield index, 3)) (hj : j = pc + 3) : ab_ok p l e R s m args below meth c Q b D ab_cl cA nL o (fun i => i) pc (ab_nx j (ab_getf ci k)) :=
  ab_getf_ok C.1 C.2.1 C.2.2.2.2.2.1 C.2.2.2.2.2.2.1 C.2.2.2.2.2.2.2.1 (fun w h => gm (hin w h)) hc hk (gm hlink) hd hj
theorem ok_putf (C : ab_cx p l e R s m args below meth c D ab_cl cA (ab_E0 b) y cc nL ret (cd :: ab_G) rm) {Cn : String} {T : u_T} {N ci index k kd : Nat} (hin : ∀ w ∈ u_ws Cn T N, w ∈ ab_G) (ty0 : Nat → FieldType) (hty : ∀ k, k < N → parseFieldDescriptor (T k).2.2.1 = some (ty0 k)) (hnm : ∀ a, a < N → ∀ b, b < N → a ≠ b → (T a).2.1 ≠ (T b).2.1) (hc : ab_cl[ci]? = some (Cn, T, N)) (hk : k < N) (hlink : Cond.fieldLink y.cls index (T k).1 (T k).2.1 (T k).2.2.1 ∈ ab_G)
    (hfin : (T k).2.2.2 = false ∨ ((T k).2.2.2 = true ∧ meth.name = "<init>" ∧ (T k).1 = y.cls)) (hkd : (kd = 0 ∧ ty0 k = .int) ∨ (kd = 1 ∧ ty0 k = .long) ∨ (kd = 2 ∧ ((∃ C, ty0 k = .object C) ∨ ∃ u, ty0 k = .array u)) ∨ (kd = 3 ∧ ty0 k = .boolean)) (hd : decode cc pc = .ok (.putfield index, 3)) (hj : j = pc + 3) : ab_ok p l e R s m args below meth c Q b D ab_cl cA nL o (fun i => i) pc (ab_nx j (ab_putf ci k kd)) :=
  ab_putf_ok C.1 C.2.1 C.2.2.2.2.2.1 C.2.2.2.2.2.2.1 C.2.2.2.2.2.2.2.1 (fun w h => gm (hin w h)) ty0 hty hnm hc hk (gm hlink) hfin rfl hkd hd hj
theorem ok_iaload (C : ab_cx p l e R s m args below meth c D ab_cl cA (ab_E0 b) y cc nL ret (cd :: ab_G) rm) (hd : decode cc pc = .ok (.iaload, 1)) (hj : j = pc + 1) : ab_ok p l e R s m args below meth c Q b D ab_cl cA nL o (fun i => i) pc (ab_nx j (ab_ald 1)) := ab_iald_ok C.1 C.2.1 C.2.2.2.2.2.2.2.1 hd hj
theorem ok_baload (C : ab_cx p l e R s m args below meth c D ab_cl cA (ab_E0 b) y cc nL ret (cd :: ab_G) rm) (hd : decode cc pc = .ok (.baload, 1)) (hj : j = pc + 1) : ab_ok p l e R s m args below meth c Q b D ab_cl cA nL o (fun i => i) pc (ab_nx j (ab_ald 0)) := ab_bald_ok C.1 C.2.1 C.2.2.2.2.2.2.2.1 hd hj
theorem ok_zaload (C : ab_cx p l e R s m args below meth c D ab_cl cA (ab_E0 b) y cc nL ret (cd :: ab_G) rm) (hd : decode cc pc = .ok (.baload, 1)) (hj : j = pc + 1) : ab_ok p l e R s m args below meth c Q b D ab_cl cA nL o (fun i => i) pc (ab_nx j (ab_ald 3)) := ab_zald_ok C.1 C.2.1 C.2.2.2.2.2.2.2.1 hd hj
theorem ok_laload (C : ab_cx p l e R s m args below meth c D ab_cl cA (ab_E0 b) y cc nL ret (cd :: ab_G) rm) (hd : decode cc pc = .ok (.laload, 1)) (hj : j = pc + 1) : ab_ok p l e R s m args below meth c Q b D ab_cl cA nL o (fun i => i) pc (ab_nx j ab_lald) := ab_lald_ok C.1 C.2.1 C.2.2.2.2.2.2.2.1 hd hj
theorem ok_iastore (C : ab_cx p l e R s m args below meth c D ab_cl cA (ab_E0 b) y cc nL ret (cd :: ab_G) rm) (hd : decode cc pc = .ok (.iastore, 1)) (hj : j = pc + 1) : ab_ok p l e R s m args below meth c Q b D ab_cl cA nL o (fun i => i) pc (ab_nx j (ab_ast 1)) := ab_iast_ok C.1 C.2.1 C.2.2.2.2.2.2.2.1 hd hj
theorem ok_bastore (C : ab_cx p l e R s m args below meth c D ab_cl cA (ab_E0 b) y cc nL ret (cd :: ab_G) rm) (hd : decode cc pc = .ok (.bastore, 1)) (hj : j = pc + 1) : ab_ok p l e R s m args below meth c Q b D ab_cl cA nL o (fun i => i) pc (ab_nx j (ab_ast 0)) := ab_bast_ok C.1 C.2.1 C.2.2.2.2.2.2.2.1 hd hj
theorem ok_zastore (C : ab_cx p l e R s m args below meth c D ab_cl cA (ab_E0 b) y cc nL ret (cd :: ab_G) rm) (hd : decode cc pc = .ok (.bastore, 1)) (hj : j = pc + 1) : ab_ok p l e R s m args below meth c Q b D ab_cl cA nL o (fun i => i) pc (ab_nx j (ab_ast 3)) := ab_zast_ok C.1 C.2.1 C.2.2.2.2.2.2.2.1 hd hj
theorem ok_lastore (C : ab_cx p l e R s m args below meth c D ab_cl cA (ab_E0 b) y cc nL ret (cd :: ab_G) rm) (hd : decode cc pc = .ok (.lastore, 1)) (hj : j = pc + 1) : ab_ok p l e R s m args below meth c Q b D ab_cl cA nL o (fun i => i) pc (ab_nx j ab_last) := ab_last_ok C.1 C.2.1 C.2.2.2.2.2.2.2.1 hd hj
theorem ok_arraylength (C : ab_cx p l e R s m args below meth c D ab_cl cA (ab_E0 b) y cc nL ret (cd :: ab_G) rm) (hd : decode cc pc = .ok (.arraylength, 1)) (hj : j = pc + 1) : ab_ok p l e R s m args below meth c Q b D ab_cl cA nL o (fun i => i) pc (ab_nx j ab_alen) := ab_alen_ok C.1 C.2.1 C.2.2.2.2.2.2.2.1 hd hj
theorem ok_aaload (C : ab_cx p l e R s m args below meth c D ab_cl cA (ab_E0 b) y cc nL ret (cd :: ab_G) rm) {t0 : Nat} {Cn : String} (ht : (ab_tys cA)[t0]? = some (cA t0, .object Cn)) (hd : decode cc pc = .ok (.aaload, 1)) (hj : j = pc + 1) : ab_ok p l e R s m args below meth c Q b D ab_cl cA nL o (fun i => i) pc (ab_nx j (ab_aald t0)) := ab_aald_ok C.1 C.2.1 C.2.2.2.2.2.2.2.1 ht hd hj
theorem ok_aastore (C : ab_cx p l e R s m args below meth c D ab_cl cA (ab_E0 b) y cc nL ret (cd :: ab_G) rm) {t0 ci : Nat} {r : vw_C} (hc : ab_cl[ci]? = some r) (ht : (ab_tys cA)[t0]? = some (cA t0, .object r.1)) (hd : decode cc pc = .ok (.aastore, 1)) (hj : j = pc + 1) : ab_ok p l e R s m args below meth c Q b D ab_cl cA nL o (fun i => i) pc (ab_nx j (ab_aast t0 ci)) := ab_aast_ok C.1 C.2.1 C.2.2.2.2.2.2.2.1 ht hc hd hj
theorem cx_R (C : ab_cx p l e R s m args below meth c D ab_cl cA (ab_E0 b) y cc nL ret (cd :: ab_G) rm) : R = rm := C.2.2.2.2.2.2.2.2.2.2
theorem cx_cells (C : ab_cx p l e R s m args below meth c D ab_cl cA (ab_E0 b) y cc nL ret (cd :: ab_G) rm) : R.cells = rm.cells ∧ R.slots = rm.slots := by rw [cx_R C]; exact ⟨rfl, rfl⟩
theorem ok_newa_int (C : ab_cx p l e R s m args below meth c D ab_cl cA (ab_E0 b) y cc nL ret (cd :: ab_G) rm) (harr : Cond.arrayClass .int ∈ ab_G) (hd : decode cc pc = .ok (.newarray .int, 2)) (hj : j = pc + 2) : ab_ok p l e R s m args below meth c Q b D ab_cl cA nL o (fun i => i) pc (ab_nx j (ab_newa 1 (fun n => (n, .inl (fun _ => 0))) rm.cells rm.slots)) :=
  ab_newa_ok (ty := .int) C.1 C.2.1 C.2.2.2.2.2.1 C.2.2.2.2.2.2.2.1 (cx_cells C) rfl rfl (fun _ h => h) (gm harr) (by decide) (fun _ _ => rfl) hd hj
theorem ok_newa_byte (C : ab_cx p l e R s m args below meth c D ab_cl cA (ab_E0 b) y cc nL ret (cd :: ab_G) rm) (harr : Cond.arrayClass .byte ∈ ab_G) (hd : decode cc pc = .ok (.newarray .byte, 2)) (hj : j = pc + 2) : ab_ok p l e R s m args below meth c Q b D ab_cl cA nL o (fun i => i) pc (ab_nx j (ab_newa 0 (fun n => (n, .inl (fun _ => 0))) rm.cells rm.slots)) :=
  ab_newa_ok (ty := .byte) C.1 C.2.1 C.2.2.2.2.2.1 C.2.2.2.2.2.2.2.1 (cx_cells C) rfl rfl (fun _ h => h) (gm harr) (by decide) (fun _ _ => rfl) hd hj
theorem ok_newa_long (C : ab_cx p l e R s m args below meth c D ab_cl cA (ab_E0 b) y cc nL ret (cd :: ab_G) rm) (harr : Cond.arrayClass .long ∈ ab_G) (hd : decode cc pc = .ok (.newarray .long, 2)) (hj : j = pc + 2) : ab_ok p l e R s m args below meth c Q b D ab_cl cA nL o (fun i => i) pc (ab_nx j (ab_newa 2 (fun n => (n, .inr (.inl (fun _ => 0)))) rm.cells rm.slots)) :=
  ab_newa_ok (ty := .long) C.1 C.2.1 C.2.2.2.2.2.1 C.2.2.2.2.2.2.2.1 (cx_cells C) rfl rfl (fun _ h => h) (gm harr) (by decide) (fun _ _ => rfl) hd hj
theorem ok_newa_boolean (C : ab_cx p l e R s m args below meth c D ab_cl cA (ab_E0 b) y cc nL ret (cd :: ab_G) rm) (harr : Cond.arrayClass .boolean ∈ ab_G) (hd : decode cc pc = .ok (.newarray .boolean, 2)) (hj : j = pc + 2) : ab_ok p l e R s m args below meth c Q b D ab_cl cA nL o (fun i => i) pc (ab_nx j (ab_newa 3 (fun n => (n, .inl (fun _ => 0))) rm.cells rm.slots)) :=
  ab_newa_ok (ty := .boolean) C.1 C.2.1 C.2.2.2.2.2.1 C.2.2.2.2.2.2.2.1 (cx_cells C) rfl rfl (fun _ h => h) (gm harr) (by decide) (fun _ _ => rfl) hd hj
theorem ok_anew (C : ab_cx p l e R s m args below meth c D ab_cl cA (ab_E0 b) y cc nL ret (cd :: ab_G) rm) {t0 index : Nat} {Cn : String} (ht : (ab_tys cA)[t0]? = some (cA t0, .object Cn)) (hover : va_AO Cn s) (hclink : Cond.classLink y.cls index Cn ∈ ab_G) (hd : decode cc pc = .ok (.anewarray index, 3)) (hj : j = pc + 3) : ab_ok p l e R s m args below meth c Q b D ab_cl cA nL o (fun i => i) pc (ab_nx j (ab_newa t0 (fun n => (n, .inr (.inr (.inr (.inr (fun _ => none)))))) rm.cells rm.slots)) :=
  ab_newq_ok C.1 C.2.1 C.2.2.2.2.2.1 C.2.2.2.2.2.2.1 C.2.2.2.2.2.2.2.1 (cx_cells C) ht hover (gm hclink) hd hj
theorem ok_new (C : ab_cx p l e R s m args below meth c D ab_cl cA (ab_E0 b) y cc nL ret (cd :: ab_G) rm) {Cn : String} {T : u_T} {N ci index : Nat} {fs : List Value} (hin : ∀ w ∈ u_ws Cn T N, w ∈ ab_G) (ty : Nat → FieldType) (hty : ∀ k, k < N → parseFieldDescriptor (T k).2.2.1 = some (ty k)) (hc : ab_cl[ci]? = some (Cn, T, N)) (hcl : Cond.classLink y.cls index Cn ∈ ab_G) (hinst : Cond.instantiable Cn N ∈ ab_G) (hini : Cond.initialized Cn ∈ ab_G)
    (hfs : ∀ i, i < N → defaultValue (ty i) = vp_V (fs.map (ab_v b)) i) (hd : decode cc pc = .ok (.new index, 3)) (hj : j = pc + 3) : ab_ok p l e R s m args below meth c Q b D ab_cl cA nL o (fun i => i) pc (ab_nx j (ab_new ci N fs rm.cells rm.slots)) :=
  ab_new_ok C.1 C.2.1 C.2.2.2.2.2.1 C.2.2.2.2.2.2.1 C.2.2.2.2.2.2.2.1 (cx_cells C) (fun w h => gm (hin w h)) ty hty hc (gm hcl) (gm hinst) (gm hini) hfs hd hj
theorem ok_obj (C : ab_cx p l e R s m args below meth c D ab_cl cA (ab_E0 b) y cc nL ret (cd :: ab_G) rm) {index : Nat} (hlink : Cond.methodLink y.cls index Lib.objectInit ∈ ab_G) (hinst : Cond.instanceMethod Lib.objectInit ∈ ab_G) (hcode : Cond.code Lib.objectInit ⟨#[0xb1]⟩ 1 none ∈ ab_G)
    (hR : 1 ≤ rm.frames ∧ 20 ≤ rm.locals) (hd : decode cc pc = .ok (.invokespecial index, 3)) (hj : j = pc + 3) : ab_ok p l e R s m args below meth c Q b D ab_cl cA nL o (fun i => i) pc (ab_nx j ab_obj) :=
  ab_obj_ok C.1 C.2.1 C.2.2.1 C.2.2.2.2.2.1 C.2.2.2.2.2.2.1 (gm hlink) (gm hinst) (gm hcode) (by rw [cx_R C]; exact hR) hd hj
theorem ok_mmax (C : ab_cx p l e R s m args below meth c D ab_cl cA (ab_E0 b) y cc nL ret (cd :: ab_G) rm) {index : Nat} (hlink : Cond.methodLink y.cls index Lib.Math.max.name ∈ ab_G) (hstat : Cond.static Lib.Math.max.name ∈ ab_G) (hini : Cond.initialized "java/lang/Math" ∈ ab_G) (hcode : Cond.code Lib.Math.max.name Lib.Math.max.code 2 (some .int) ∈ ab_G)
    (hR : 1 ≤ rm.frames ∧ 21 ≤ rm.locals) (hd : decode cc pc = .ok (.invokestatic index, 3)) (hj : j = pc + 3) : ab_ok p l e R s m args below meth c Q b D ab_cl cA nL o (fun i => i) pc (ab_nx j (ab_mm ab_max rm.cells rm.slots)) := by
  have hE := cx_cells C
  have hR' : 1 ≤ R.frames ∧ 21 ≤ R.locals := by rw [cx_R C]; exact hR
  exact ab_mm_ok hj fun H locs u ls rest x z hz hc h1 h2 k => va_mmax C.1 C.2.1 (C.2.2.1.trans hz.symm) C.2.2.2.2.2.2.1 (C.2.2.2.2.2.1 _ (gm hlink)) (C.2.2.2.2.2.1 _ (gm hstat)) (C.2.2.2.2.2.1 _ (gm hini)) (C.2.2.2.2.2.1 _ (gm hcode)) hR'.1 (by omega) (by rw [hE.1]; exact h1) (by rw [hE.2]; exact h2) hd k
theorem ok_mmin (C : ab_cx p l e R s m args below meth c D ab_cl cA (ab_E0 b) y cc nL ret (cd :: ab_G) rm) {index : Nat} (hlink : Cond.methodLink y.cls index Lib.Math.min.name ∈ ab_G) (hstat : Cond.static Lib.Math.min.name ∈ ab_G) (hini : Cond.initialized "java/lang/Math" ∈ ab_G) (hcode : Cond.code Lib.Math.min.name Lib.Math.min.code 2 (some .int) ∈ ab_G)
    (hR : 1 ≤ rm.frames ∧ 21 ≤ rm.locals) (hd : decode cc pc = .ok (.invokestatic index, 3)) (hj : j = pc + 3) : ab_ok p l e R s m args below meth c Q b D ab_cl cA nL o (fun i => i) pc (ab_nx j (ab_mm ab_min rm.cells rm.slots)) := by
  have hE := cx_cells C
  have hR' : 1 ≤ R.frames ∧ 21 ≤ R.locals := by rw [cx_R C]; exact hR
  exact ab_mm_ok hj fun H locs u ls rest x z hz hc h1 h2 k => va_mmin C.1 C.2.1 (C.2.2.1.trans hz.symm) C.2.2.2.2.2.2.1 (C.2.2.2.2.2.1 _ (gm hlink)) (C.2.2.2.2.2.1 _ (gm hstat)) (C.2.2.2.2.2.1 _ (gm hini)) (C.2.2.2.2.2.1 _ (gm hcode)) hR'.1 (by omega) (by rw [hE.1]; exact h1) (by rw [hE.2]; exact h2) hd k
theorem ok_copy (C : ab_cx p l e R s m args below meth c D ab_cl cA (ab_E0 b) y cc nL ret (cd :: ab_G) rm) {index : Nat} (hlink : Cond.methodLink y.cls index arraycopyName ∈ ab_G) (hnat : Cond.native arraycopyName ∈ ab_G) (hstat : Cond.static arraycopyName ∈ ab_G) (hini : Cond.initialized "java/lang/System" ∈ ab_G)
    (hR : 1 ≤ rm.frames ∧ 8 + (nativeFrameWords "java/lang/System" "arraycopy" 5 + 11) ≤ rm.locals) (hd : decode cc pc = .ok (.invokestatic index, 3)) (hj : j = pc + 3) : ab_ok p l e R s m args below meth c Q b D ab_cl cA nL o (fun i => i) pc (ab_nx j ab_copy) :=
  ab_copy_ok C.1 C.2.1 C.2.2.1 C.2.2.2.2.2.1 C.2.2.2.2.2.2.1 C.2.2.2.2.2.2.2.1 (gm hlink) (gm hnat) (gm hstat) (gm hini) (by rw [cx_R C]; exact hR) hd hj
theorem ok_tab (C : ab_cx p l e R s m args below meth c D ab_cl cA (ab_E0 b) y cc nL ret (cd :: ab_G) rm) {dflt lo hi : Int} {offs : Array Int} {len : Nat} {ts : List Nat} {dj : Nat} (hd : decode cc pc = .ok (.tableswitch dflt lo hi offs, len)) (hdf : (pc : Int) + dflt = (dj : Int)) (hts : offs.toList.map (fun z => (pc : Int) + z) = ts.map (fun z : Nat => (z : Int))) (hhi : hi = lo + (ts.length : Int) - 1) : ab_ok p l e R s m args below meth c Q b D ab_cl cA nL o (fun i => i) pc (ab_tab lo ts dj) := ab_tab_ok C.1 C.2.1 hd hdf hts hhi
theorem ok_ret (C : ab_cx p l e R s m args below meth c D ab_cl cA (ab_E0 b) y cc nL ret (cd :: ab_G) rm) (hr : ret = some .int) (hd : decode cc pc = .ok (.ireturn, 1)) : ab_ok p l e R s m args below meth c (MQ below (ab_Qx b D ab_cl cA o) args s rm.cells rm.slots (fun q => b.1 ≤ q)) b D ab_cl cA nL o (fun i => i) pc (ab_ret rm.cells rm.slots) := ab_ret_ok C.1 C.2.1 (C.2.2.2.1.trans hr) C.2.2.2.2.1 hd
theorem ok_zret (C : ab_cx p l e R s m args below meth c D ab_cl cA (ab_E0 b) y cc nL ret (cd :: ab_G) rm) (hr : ret = some .boolean) (hd : decode cc pc = .ok (.ireturn, 1)) : ab_ok p l e R s m args below meth c (MQ below (ab_Qx b D ab_cl cA o) args s rm.cells rm.slots (fun q => b.1 ≤ q)) b D ab_cl cA nL o (fun i => i) pc (ab_zret rm.cells rm.slots) := ab_zret_ok C.1 C.2.1 (C.2.2.2.1.trans hr) C.2.2.2.2.1 hd
theorem ok_vret (C : ab_cx p l e R s m args below meth c D ab_cl cA (ab_E0 b) y cc nL ret (cd :: ab_G) rm) (hr : ret = none) (hd : decode cc pc = .ok (.return_, 1)) : ab_ok p l e R s m args below meth c (MQ below (ab_Qx b D ab_cl cA o) args s rm.cells rm.slots (fun q => b.1 ≤ q)) b D ab_cl cA nL o (fun i => i) pc (ab_vret rm.cells rm.slots) := ab_vret_ok C.1 C.2.1 (C.2.2.2.1.trans hr) C.2.2.2.2.1 hd
variable {nA mc ms maxL index : Nat} {X : List Value → ab_H → Option ab_O} {z : MethodName} {bytes : ByteArray} {rz : Option FieldType} {rc : Room}
theorem ok_callV (C : ab_cx p l e R s m args below meth c D ab_cl cA (ab_E0 b) y cc nL ret (cd :: ab_G) rm) {Cn : String} {T : u_T} {N ci n : Nat} (hM : ab_M l b D ab_cl cA (ab_E0 b) z (Cond.code z bytes maxL rz :: ab_G) rc X) (hm : rc.cells = mc ∧ rc.slots = ms) (hc : ab_cl[ci]? = some (Cn, T, N)) (hcode : Cond.code z bytes maxL rz ∈ ab_G) (hlink : Cond.methodLink y.cls index z ∈ ab_G) (hinst : Cond.instanceMethod z ∈ ab_G) (hsel : Cond.selects Cn z z ∈ ab_G) (hini : Cond.initialized z.cls ∈ ab_G)
    (hn : nA = n + 1) (hds : z.cls ≠ "java/lang/invoke/MethodHandle" ∧ z.cls ≠ "java/lang/invoke/VarHandle" ∧ (parseMethodDescriptor z.desc).map (fun d => d.parameters.length) = some n) (hrm : rc.frames + 1 ≤ rm.frames ∧ 8 + (maxL + 11) + rc.locals ≤ rm.locals) (hd : decode cc pc = .ok (.invokevirtual index, 3)) (hj : j = pc + 3) : ab_ok p l e R s m args below meth c Q b D ab_cl cA nL o (fun i => i) pc (ab_nx j (ab_callV nA ci X mc ms rm.cells rm.slots)) :=
  ab_callV_ok C.1 C.2.1 C.2.2.1 C.2.2.2.2.2.1 C.2.2.2.2.2.2.1 C.2.2.2.2.2.2.2.1 (cx_cells C) (cx_E C) (ab_E0k b) (ab_E0b b) hM hm hc (ab_good hcode) rfl (gm hlink) (gm hinst) (gm hsel) (gm hini) hn hds (by rw [cx_R C]; exact hrm) hd hj
theorem ok_callS (C : ab_cx p l e R s m args below meth c D ab_cl cA (ab_E0 b) y cc nL ret (cd :: ab_G) rm) (hM : ab_M l b D ab_cl cA (ab_E0 b) z (Cond.code z bytes maxL rz :: ab_G) rc X) (hm : rc.cells = mc ∧ rc.slots = ms) (hcode : Cond.code z bytes maxL rz ∈ ab_G) (hlink : Cond.methodLink y.cls index z ∈ ab_G) (hstat : Cond.static z ∈ ab_G) (hini : Cond.initialized z.cls ∈ ab_G)
    (hds : z.cls ≠ "java/lang/invoke/MethodHandle" ∧ z.cls ≠ "java/lang/invoke/VarHandle" ∧ (parseMethodDescriptor z.desc).map (fun d => d.parameters.length) = some nA) (hrm : rc.frames + 1 ≤ rm.frames ∧ 8 + (maxL + 11) + rc.locals ≤ rm.locals) (hd : decode cc pc = .ok (.invokestatic index, 3)) (hj : j = pc + 3) : ab_ok p l e R s m args below meth c Q b D ab_cl cA nL o (fun i => i) pc (ab_nx j (ab_call nA X mc ms rm.cells rm.slots)) :=
  ab_callS_ok C.1 C.2.1 C.2.2.1 C.2.2.2.2.2.1 C.2.2.2.2.2.2.1 C.2.2.2.2.2.2.2.1 (cx_cells C) (cx_E C) (ab_E0k b) (ab_E0b b) hM hm (ab_good hcode) rfl (gm hlink) (gm hstat) (gm hini) hds (by rw [cx_R C]; exact hrm) hd hj
theorem ok_callSN (C : ab_cx p l e R s m args below meth c D ab_cl cA (ab_E0 b) y cc nL ret (cd :: ab_G) rm) {host : String} (hM : ab_M l b D ab_cl cA (ab_E0 b) z (Cond.code z bytes maxL rz :: ab_G) rc X) (hm : rc.cells = mc ∧ rc.slots = ms) (hcode : Cond.code z bytes maxL rz ∈ ab_G) (hlink : (y.cls, index, z, host) ∈ ab_En) (hstat : Cond.static z ∈ ab_G) (hini : Cond.initialized z.cls ∈ ab_G)
    (hds : z.cls ≠ "java/lang/invoke/MethodHandle" ∧ z.cls ≠ "java/lang/invoke/VarHandle" ∧ (parseMethodDescriptor z.desc).map (fun d => d.parameters.length) = some nA) (hrm : rc.frames + 1 ≤ rm.frames ∧ 8 + (maxL + 11) + rc.locals ≤ rm.locals) (hd : decode cc pc = .ok (.invokestatic index, 3)) (hj : j = pc + 3) : ab_ok p l e R s m args below meth c Q b D ab_cl cA nL o (fun i => i) pc (ab_nx j (ab_call nA X mc ms rm.cells rm.slots)) :=
  ab_callSN_ok (host := host) C.1 C.2.1 C.2.2.1 C.2.2.2.2.2.1 C.2.2.2.2.2.2.1 C.2.2.2.2.2.2.2.1 (cx_cells C) (cx_E C) (ab_E0k b) (ab_E0b b) hM hm (ab_good hcode) rfl (cx_nest C hlink) (gm hstat) (gm hini) hds (by rw [cx_R C]; exact hrm) hd hj
theorem ok_callI (C : ab_cx p l e R s m args below meth c D ab_cl cA (ab_E0 b) y cc nL ret (cd :: ab_G) rm) (hM : ab_M l b D ab_cl cA (ab_E0 b) z (Cond.code z bytes maxL none :: ab_G) rc X) (hm : rc.cells = mc ∧ rc.slots = ms) (hX1 : ∀ v hp o2, X [v] hp = some o2 → ∃ a, v = .ref a) (hcode : Cond.code z bytes maxL none ∈ ab_G) (hlink : Cond.methodLink y.cls index z ∈ ab_G) (hinst : Cond.instanceMethod z ∈ ab_G) (hini : Cond.initialized z.cls ∈ ab_G) (hy1 : z.name = "<init>")
    (hds : z.cls ≠ "java/lang/invoke/MethodHandle" ∧ z.cls ≠ "java/lang/invoke/VarHandle" ∧ (parseMethodDescriptor z.desc).map (fun d => d.parameters.length) = some 0) (hrm : rc.frames + 1 ≤ rm.frames ∧ 8 + (maxL + 11) + rc.locals ≤ rm.locals) (hd : decode cc pc = .ok (.invokespecial index, 3)) (hj : j = pc + 3) : ab_ok p l e R s m args below meth c Q b D ab_cl cA nL o (fun i => i) pc (ab_nx j (ab_call 1 X mc ms rm.cells rm.slots)) :=
  ab_callI_ok C.1 C.2.1 C.2.2.1 C.2.2.2.2.2.1 C.2.2.2.2.2.2.1 C.2.2.2.2.2.2.2.1 (cx_cells C) (cx_E C) (ab_E0k b) (ab_E0b b) hM hX1 hm (ab_good hcode) rfl (gm hlink) (gm hinst) (gm hini) hy1 hds (by rw [cx_R C]; exact hrm) hd hj
theorem ok_callIN (C : ab_cx p l e R s m args below meth c D ab_cl cA (ab_E0 b) y cc nL ret (cd :: ab_G) rm) {host : String} (hM : ab_M l b D ab_cl cA (ab_E0 b) z (Cond.code z bytes maxL none :: ab_G) rc X) (hm : rc.cells = mc ∧ rc.slots = ms) (hX1 : ∀ v hp o2, X [v] hp = some o2 → ∃ a, v = .ref a) (hcode : Cond.code z bytes maxL none ∈ ab_G) (hlink : (y.cls, index, z, host) ∈ ab_En) (hinst : Cond.instanceMethod z ∈ ab_G) (hini : Cond.initialized z.cls ∈ ab_G) (hy1 : z.name = "<init>")
    (hds : z.cls ≠ "java/lang/invoke/MethodHandle" ∧ z.cls ≠ "java/lang/invoke/VarHandle" ∧ (parseMethodDescriptor z.desc).map (fun d => d.parameters.length) = some 0) (hrm : rc.frames + 1 ≤ rm.frames ∧ 8 + (maxL + 11) + rc.locals ≤ rm.locals) (hd : decode cc pc = .ok (.invokespecial index, 3)) (hj : j = pc + 3) : ab_ok p l e R s m args below meth c Q b D ab_cl cA nL o (fun i => i) pc (ab_nx j (ab_call 1 X mc ms rm.cells rm.slots)) :=
  ab_callIN_ok (host := host) C.1 C.2.1 C.2.2.1 C.2.2.2.2.2.1 C.2.2.2.2.2.2.1 C.2.2.2.2.2.2.2.1 (cx_cells C) (cx_E C) (ab_E0k b) (ab_E0b b) hM hX1 hm (ab_good hcode) rfl (cx_nest C hlink) (gm hinst) (gm hini) hy1 hds (by rw [cx_R C]; exact hrm) hd hj
end AB
theorem ab_init_ref (L : List (Nat × ab_A)) (nL : Nat) {k : Nat} {v : Value} {hp : ab_H} {o : ab_O} (h0 : ab_T L 0 = some (ab_nx 1 (ab_aload 0))) (h1 : ab_T L 1 = some (ab_nx k ab_obj)) (h : ab_X (ab_T L) nL [v] hp = some o) : ∃ a, v = .ref a := by
  obtain ⟨hl, f, hr⟩ := ab_X_run h
  cases v with
  | ref a => exact ⟨a, rfl⟩
  | null =>
    exfalso
    cases f with
    | zero => cases hr
    | succ f =>
      rw [ab_run, h0] at hr
      simp only [ab_nx, ab_aload, ab_en, ab_ent, List.cons_append, List.getElem?_cons_zero] at hr
      cases f with
      | zero => cases hr
      | succ f =>
        rw [ab_run, h1] at hr
        simp only [ab_nx, ab_obj] at hr
        cases hr
  | retAddr a =>
    exfalso
    cases f with
    | zero => cases hr
    | succ f =>
      rw [ab_run, h0] at hr
      simp only [ab_nx, ab_aload, ab_en, ab_ent, List.cons_append, List.getElem?_cons_zero] at hr
      cases f with
      | zero => cases hr
      | succ f =>
        rw [ab_run, h1] at hr
        simp only [ab_nx, ab_obj] at hr
        cases hr
  | _ =>
    exfalso
    cases f with
    | zero => cases hr
    | succ f =>
      rw [ab_run, h0] at hr
      simp only [ab_nx, ab_aload, ab_en, ab_ent, List.cons_append, List.getElem?_cons_zero] at hr
      cases hr
end
-- 11z.strw.lean.txt
section
/-! ===== steps over this claim's words: the String constant of Tape ===== -/
section AB
variable {p : Program} {l : Launch} {e : Env} {R : Room} {s : State} {m : MethodId} {args : Array Value} {below : List Frame} {meth : Method} {c : Code} {Q : State → Prop}
variable {b : ab_B} {D : va_G} {cA : Nat → ClassId} {nL : Nat} {cc : ByteArray} {pc j t : Nat} {o : ab_O} {y : MethodName} {ret : Option FieldType} {cd : Cond} {rm : Room}
theorem cx_ES (C : ab_cx p l e R s m args below meth c D ab_cl cA (ab_E0 b) y cc nL ret (cd :: ab_G) rm) : ab_ES b s := (cx_E C).2.2.2.2.2.2.2.2.2
theorem ok_ldcS (C : ab_cx p l e R s m args below meth c D ab_cl cA (ab_E0 b) y cc nL ret (cd :: ab_G) rm) (hy : y.cls = "LackFerry$Tape") (hd : decode cc pc = .ok (.ldc 72, 2)) (hj : j = pc + 2) : ab_ok p l e R s m args below meth c Q b D ab_cl cA nL o (fun i => i) pc (ab_nx j (ab_lit (.retAddr 4))) :=
  ab_lit_ok (v := .retAddr 4) hj fun _ _ _ _ _ _ k => va_ldcS C.1 C.2.1 (own := "LackFerry$Tape") (index := 72) (by rw [← hy]; exact C.2.2.2.2.2.2.1) (cx_ES C).1 hd k
theorem ok_getsI (C : ab_cx p l e R s m args below meth c D ab_cl cA (ab_E0 b) y cc nL ret (cd :: ab_G) rm) {index : Nat} (hlink : Cond.fieldLink y.cls index "java/lang/String" "COMPACT_STRINGS" "Z" ∈ ab_G) (hd : decode cc pc = .ok (.getstatic index, 3)) (hj : j = pc + 3) : ab_ok p l e R s m args below meth c Q b D ab_cl cA nL o (fun i => i) pc (ab_nx j (ab_lit (.int 1))) :=
  ab_lits_ok hj fun _ _ _ _ _ _ hS k => va_gets C.1 C.2.1 (cx_ES C).2.2.1 hS C.2.2.2.2.2.2.1 (C.2.2.2.2.2.1 _ (gm hlink)) (fun _ h => h) hd k
theorem ok_sgfV (C : ab_cx p l e R s m args below meth c D ab_cl cA (ab_E0 b) y cc nL ret (cd :: ab_G) rm) {index : Nat} (hlink : Cond.fieldLink y.cls index "java/lang/String" "value" "[B" ∈ ab_G) (hd : decode cc pc = .ok (.getfield index, 3)) (hj : j = pc + 3) : ab_ok p l e R s m args below meth c Q b D ab_cl cA nL o (fun i => i) pc (ab_nx j (ab_sgf 4 (.retAddr 5))) :=
  ab_sgf_ok (v := .retAddr 5) hj fun _ _ _ _ _ _ hS k => vk_getf C.1 C.2.1 ((cx_ES C).2.1.1 0 (by decide)).2.2.1 hS C.2.2.2.2.2.2.1 (C.2.2.2.2.2.1 _ (gm hlink)) (fun _ h => h) hd k
theorem ok_sgfC (C : ab_cx p l e R s m args below meth c D ab_cl cA (ab_E0 b) y cc nL ret (cd :: ab_G) rm) {index : Nat} (hlink : Cond.fieldLink y.cls index "java/lang/String" "coder" "B" ∈ ab_G) (hd : decode cc pc = .ok (.getfield index, 3)) (hj : j = pc + 3) : ab_ok p l e R s m args below meth c Q b D ab_cl cA nL o (fun i => i) pc (ab_nx j (ab_sgf 4 (.int 0))) :=
  ab_sgf_ok (v := .int 0) hj fun _ _ _ _ _ _ hS k => vk_getf C.1 C.2.1 ((cx_ES C).2.1.1 0 (by decide)).2.1 hS C.2.2.2.2.2.2.1 (C.2.2.2.2.2.1 _ (gm hlink)) (fun _ h => h) hd k
theorem ok_salen (C : ab_cx p l e R s m args below meth c D ab_cl cA (ab_E0 b) y cc nL ret (cd :: ab_G) rm) (hd : decode cc pc = .ok (.arraylength, 1)) (hj : j = pc + 1) : ab_ok p l e R s m args below meth c Q b D ab_cl cA nL o (fun i => i) pc (ab_nx j (ab_sgf 5 (.int 175))) :=
  ab_sgf_ok (v := .int 175) hj fun _ _ _ _ _ _ hS k => va_tlen C.1 C.2.1 ((cx_ES C).2.1.1 0 (by decide)).2.2.2 hS rfl hd k
theorem ok_sbl (C : ab_cx p l e R s m args below meth c D ab_cl cA (ab_E0 b) y cc nL ret (cd :: ab_G) rm) (hd : decode cc pc = .ok (.baload, 1)) (hj : j = pc + 1) : ab_ok p l e R s m args below meth c Q b D ab_cl cA nL o (fun i => i) pc (ab_nx j (ab_sbl 5 175 sw_at)) :=
  ab_sbl_ok hj fun _ _ _ _ _ _ _ hin hS k => va_tb C.1 C.2.1 ((cx_ES C).2.1.1 0 (by decide)).2.2.2 hS hin rfl hd k
theorem ok_i2c (C : ab_cx p l e R s m args below meth c D ab_cl cA (ab_E0 b) y cc nL ret (cd :: ab_G) rm) (hd : decode cc pc = .ok (.i2c, 1)) (hj : j = pc + 1) : ab_ok p l e R s m args below meth c Q b D ab_cl cA nL o (fun i => i) pc (ab_nx j (ab_un (fun x => (x.toUInt32 % 65536).toInt32))) :=
  ab_un_ok hj fun _ _ _ _ _ _ _ k => lv_i2c C.1 C.2.1 hd rfl k
theorem ok_bret (C : ab_cx p l e R s m args below meth c D ab_cl cA (ab_E0 b) y cc nL ret (cd :: ab_G) rm) (hr : ret = some .byte) (hd : decode cc pc = .ok (.ireturn, 1)) : ab_ok p l e R s m args below meth c (MQ below (ab_Qx b D ab_cl cA o) args s rm.cells rm.slots (fun q => b.1 ≤ q)) b D ab_cl cA nL o (fun i => i) pc (ab_zret rm.cells rm.slots) := ab_zretT_ok C.1 C.2.1 (C.2.2.2.1.trans hr) (by decide) (by decide) C.2.2.2.2.1 hd
theorem ok_cret (C : ab_cx p l e R s m args below meth c D ab_cl cA (ab_E0 b) y cc nL ret (cd :: ab_G) rm) (hr : ret = some .char) (hd : decode cc pc = .ok (.ireturn, 1)) : ab_ok p l e R s m args below meth c (MQ below (ab_Qx b D ab_cl cA o) args s rm.cells rm.slots (fun q => b.1 ≤ q)) b D ab_cl cA nL o (fun i => i) pc (ab_cret rm.cells rm.slots) := ab_cret_ok C.1 C.2.1 (C.2.2.2.1.trans hr) C.2.2.2.2.1 hd
variable {nA mc ms maxL index : Nat} {X : List Value → ab_H → Option ab_O} {z : MethodName} {bytes : ByteArray} {rz : Option FieldType} {rc : Room}
theorem ok_callR (C : ab_cx p l e R s m args below meth c D ab_cl cA (ab_E0 b) y cc nL ret (cd :: ab_G) rm) {n : Nat} (hM : ab_M l b D ab_cl cA (ab_E0 b) z (Cond.code z bytes maxL rz :: ab_G) rc X) (hm : rc.cells = mc ∧ rc.slots = ms) (hcode : Cond.code z bytes maxL rz ∈ ab_G) (hlink : Cond.methodLink y.cls index z ∈ ab_G) (hinst : Cond.instanceMethod z ∈ ab_G) (hsel : Cond.selects "java/lang/String" z z ∈ ab_G) (hini : Cond.initialized z.cls ∈ ab_G)
    (hn : nA = n + 1) (hds : z.cls ≠ "java/lang/invoke/MethodHandle" ∧ z.cls ≠ "java/lang/invoke/VarHandle" ∧ (parseMethodDescriptor z.desc).map (fun d => d.parameters.length) = some n) (hrm : rc.frames + 1 ≤ rm.frames ∧ 8 + (maxL + 11) + rc.locals ≤ rm.locals) (hd : decode cc pc = .ok (.invokevirtual index, 3)) (hj : j = pc + 3) : ab_ok p l e R s m args below meth c Q b D ab_cl cA nL o (fun i => i) pc (ab_nx j (ab_callR nA 4 X mc ms rm.cells rm.slots)) :=
  ab_callR_ok (C := "java/lang/String") C.1 C.2.1 C.2.2.1 C.2.2.2.2.2.1 C.2.2.2.2.2.2.1 C.2.2.2.2.2.2.2.1 (cx_cells C) (cx_E C) (ab_E0k b) (ab_E0b b) hM hm (fun H locs hS => vk_recv (cx_ES C).2.1 (i := 0) (by decide) hS) (ab_good hcode) rfl (gm hlink) (gm hinst) (gm hsel) (gm hini) hn hds (by rw [cx_R C]; exact hrm) hd hj
theorem ok_chk (C : ab_cx p l e R s m args below meth c D ab_cl cA (ab_E0 b) y cc nL ret (cd :: ab_G) rm) {ig : Nat} (hM : ab_M l b D ab_cl cA (ab_E0 b) z (Cond.code z bytes maxL rz :: ab_G) rc X) (hm : rc.cells = 0 ∧ rc.slots = 0) (hX : ∀ (i n : Int32) (w : Value) (hp : ab_H), (w = .null ∨ w = .retAddr 6) → ¬ i < 0 → i < n → X [.int i, .int n, w] hp = some (some (.int i), hp))
    (hfl : Cond.fieldLink y.cls ig "jdk/internal/util/Preconditions" "SIOOBE_FORMATTER" "Ljava/util/function/BiFunction;" ∈ ab_G) (hcode : Cond.code z bytes maxL rz ∈ ab_G) (hlink : Cond.methodLink y.cls index z ∈ ab_G) (hstat : Cond.static z ∈ ab_G) (hini : Cond.initialized z.cls ∈ ab_G)
    (hds : z.cls ≠ "java/lang/invoke/MethodHandle" ∧ z.cls ≠ "java/lang/invoke/VarHandle" ∧ (parseMethodDescriptor z.desc).map (fun d => d.parameters.length) = some 3) (hrm : rc.frames + 1 ≤ rm.frames ∧ 8 + (maxL + 11) + rc.locals ≤ rm.locals)
    (hd1 : decode cc pc = .ok (.getstatic ig, 3)) (hd2 : decode cc (pc + 3) = .ok (.invokestatic index, 3)) (hd3 : decode cc (pc + 3 + 3) = .ok (.pop, 1)) (hj : j = pc + 3 + 3 + 1) : ab_ok p l e R s m args below meth c Q b D ab_cl cA nL o (fun i => i) pc (ab_nx j (ab_chk rm.cells rm.slots)) :=
  ab_chk_ok C.1 C.2.1 C.2.2.1 C.2.2.2.2.2.1 C.2.2.2.2.2.2.1 C.2.2.2.2.2.2.2.1 (cx_cells C) (cx_E C) (ab_E0k b) (ab_E0b b) hM hm hX (cx_ES C).2.2.2 (gm hfl) (ab_good hcode) rfl (gm hlink) (gm hstat) (gm hini) hds (by rw [cx_R C]; exact hrm) hd1 hd2 hd3 hj
end AB
end
-- 12.lawhead.lean.txt
section
-- ===== end of PART A; then your names; then what follows =====
/-! THE CLAIM OUT OF ONE WALK OF THE LAW'S BODY. Your part is whole_start (and what it stands on); all else here is the same for every law, but numbers. -/
def R_law : String := "LackFerryLaw"
def lw_P (b : Addr) (xs : List Int32) (args : Array Value) (s : State) : Prop := args = #[.ref b] ∧ s.IntsAt b xs ∧ xs.length ≤ 3072 ∧ (Jvm.Cond.and given_1 narrow_1).before args s = true
def lw_Q (_ : Array Value) (s : State) (o : Outcome) (t : State) : Prop := o = .returned (some (.int 1)) ∧ Framed s o t [] 601024 7293034
def lw_Z (below : List Frame) (a : Array Value) (s : State) : State → Prop := fun t => ∃ o, t.status = .running ∧ Ended t below o ∧ lw_Q a s o t
/-- the law's own end, with 1 on the stack, nothing written that was there before, its room as the claim has it -/
theorem lw_ret {p : Program} {l : Launch} {e : Env} {s : State} {m : MethodId} {below : List Frame} {meth : Method} {c : Code} {b : Nat} (hx : p.tables.exec = Jvm.exec) (hb : c.code = code) (hr : meth.sig.returnType = ret) (hlocks : meth.locks = false) {pc : Nat} {H : Heap} {ls : Array Slot} (hdg : decode code pc = .ok (.ireturn, 1)) : W p l e room_1 s m #[Value.ref b] below meth c H [] 601024 7293034 (lw_Z below #[Value.ref b] s) (F0 m pc ls [.int 1]) := by
  intro T hT X
  obtain ⟨fs, hret, hrun, hended, hW, hframe⟩ := X.leave (v := some (.int 1)) (hlocks := hlocks) (fun h => by rw [hr] at h; cases h)
  have hmeth' : T.vm.method? m = some meth := X.method'
  refine ⟨T.setFrames fs, ?_, .returned (some (.int 1)), hrun, hended, rfl, ⟨_, rfl⟩, hW, hframe⟩
  jvm_step X.here [X.here.top, hx, hb, hdg, hmeth', hr, ret, narrow_b1]
  (try refine ⟨rfl, ?_⟩); (try refine ⟨rfl, ?_⟩)
  first | (intro acts; rw [hret _ acts rfl rfl rfl]) | rw [hret _ _ rfl rfl rfl]
  exact Steps.refl _
/-- what holds at the law's entry: the machine, the code, the tables' words (any of lw_tbl by 'hts w (by decide +kernel)'), the script of L ints xs at the cell b, what the Statement gives of the start (any of its parts by flat_of_before) -/
def lw_At (p : Program) (s : State) (m : MethodId) (meth : Method) (c : Code) (b L : Nat) (xs : Nat → Int32) : Prop :=
  p.tables.exec = Jvm.exec ∧ c.code = code ∧ meth.sig.returnType = ret ∧ c.maxLocals = 7 ∧ s.vm.findClass R_law = some m.cls ∧ (∀ w ∈ lw_tbl, w.before #[Value.ref b] s = true) ∧ va_X b L xs s s.heap ∧ b < s.heap.size ∧ meth.locks = false ∧ (Jvm.Cond.and given_1 narrow_1).before #[Value.ref b] s = true
/-! ===== the law's own steps ===== -/
theorem lw_flags {l : Launch} (h : l.flags = flags0) : l.stackTraces = false := by
  unfold Launch.stackTraces
  rw [h]
  decide +kernel
def ab_slen (n : Nat) : ab_S → Option ab_S := fun s => match s.2.1 with
  | .retAddr 0 :: st => some (s.1, .int (Int32.ofNat n) :: st, s.2.2)
  | _ => none
def ab_sld (xs : Nat → Int32) (n : Nat) : ab_S → Option ab_S := fun s => match s.2.1 with
  | .int i :: .retAddr 0 :: st => cond (ab_in i n) (some (s.1, .int (xs i.toNatClampNeg) :: st, s.2.2)) none
  | _ => none
def ab_lret : ab_A := fun s => match s.2.1 with
  | [.int x] => cond (decide (x = 1) && decide (s.2.2.1.1 ≤ 601024) && decide (s.2.2.1.2 ≤ 7293034)) (some (.inr (some (.int 1), s.2.2.2))) none
  | _ => none
section AB
variable {p : Program} {l : Launch} {e : Env} {R : Room} {s : State} {m : MethodId} {args : Array Value} {below : List Frame} {meth : Method} {c : Code} {Q : State → Prop}
variable {b : ab_B} {D : va_G} {cA : Nat → ClassId} {nL : Nat} {cc : ByteArray} {pc j t : Nat} {o : ab_O} {y : MethodName} {ret' : Option FieldType} {cd : Cond} {rm : Room}
theorem ok_slen {xs : Nat → Int32} {n bb : Nat} (C : ab_cx p l e R s m args below meth c D ab_cl cA (ab_E0 b) y cc nL ret' (cd :: ab_G) rm) (hX : va_X bb n xs s s.heap) (hb0 : b.2 0 = bb) (hb1 : b.1 = s.heap.size ∧ bb < s.heap.size) (hd : decode cc pc = .ok (.arraylength, 1)) (hj : j = pc + 1) : ab_ok p l e R s m args below meth c Q b D ab_cl cA nL o (fun i => i) pc (ab_nx j (ab_slen n)) := by
  refine ab_nx_ok (pc + 1) hj fun σ σ' h k => ?_
  obtain ⟨lo, st, r⟩ := σ
  unfold ab_slen at h
  dsimp only at h
  split at h
  · obtain rfl := Option.some.inj h
    intro H locs ls hP hz hS hl
    have hk := k H locs ls hP hz hS hl
    show W p l e R s m args below meth c H locs r.1.1 r.1.2 Q (F0 m pc ls (.ref (b.2 0) :: _))
    rw [hb0]
    exact va_slen C.1 C.2.1 hX hb1.2 (by rw [hb1.1]; omega) hS hd hk
  · cases h
theorem ok_sld {xs : Nat → Int32} {n bb : Nat} (C : ab_cx p l e R s m args below meth c D ab_cl cA (ab_E0 b) y cc nL ret' (cd :: ab_G) rm) (hX : va_X bb n xs s s.heap) (hb0 : b.2 0 = bb) (hb1 : b.1 = s.heap.size ∧ bb < s.heap.size) (hd : decode cc pc = .ok (.iaload, 1)) (hj : j = pc + 1) : ab_ok p l e R s m args below meth c Q b D ab_cl cA nL o (fun i => i) pc (ab_nx j (ab_sld xs n)) := by
  refine ab_nx_ok (pc + 1) hj fun σ σ' h k => ?_
  obtain ⟨lo, st, r⟩ := σ
  unfold ab_sld at h
  dsimp only at h
  split at h
  · obtain ⟨h1, rfl⟩ := ab_cond h
    intro H locs ls hP hz hS hl
    have hk := k H locs ls hP hz hS hl
    rename_i i st'
    show W p l e R s m args below meth c H locs r.1.1 r.1.2 Q (F0 m pc ls (.int i :: .ref (b.2 0) :: _))
    rw [hb0]
    exact va_sld C.1 C.2.1 hX hb1.2 (by rw [hb1.1]; omega) hS (ab_in_ok h1) hd hk
  · cases h
theorem ok_lret {bb : Nat} (C : ab_cx p l e room_1 s m #[Value.ref bb] below meth c D ab_cl cA (ab_E0 b) y code nL ret (cd :: ab_G) room_1) (hb1 : b.1 = s.heap.size ∧ bb < s.heap.size) (hd : decode code pc = .ok (.ireturn, 1)) : ab_ok p l e room_1 s m #[Value.ref bb] below meth c (lw_Z below #[Value.ref bb] s) b D ab_cl cA nL o (fun i => i) pc ab_lret := by
  intro σ
  obtain ⟨lo, st, u, hp⟩ := σ
  unfold ab_lret
  dsimp only
  refine ⟨fun j' σ' h1 h2 => ?_, fun h1 => ?_⟩
  · split at h1
    · obtain ⟨-, h1⟩ := ab_cond h1
      cases h1
    · cases h1
  · split at h1
    · obtain ⟨h2, h1⟩ := ab_cond h1
      obtain rfl := Sum.inr.inj h1
      simp only [Bool.and_eq_true, decide_eq_true_eq] at h2
      obtain ⟨⟨rfl, h3⟩, h4⟩ := h2
      intro H locs ls hP hz hS hl
      refine va_forget (fun q hq => by rw [← hb1.1]; exact hS.2.2 q hq) ?_
      refine W.widen h3 h4 ?_
      exact lw_ret C.1 C.2.1 C.2.2.2.1 C.2.2.2.2.1 hd
    · cases h1
theorem ok_retx (C : ab_cx p l e R s m args below meth c D ab_cl cA (ab_E0 b) y cc nL ret' (cd :: ab_G) rm) (hr : ret' = some .int) (hd : decode cc pc = .ok (.ireturn, 1)) : ab_ok p l e R s m args below meth c (vx_MQ below (ab_Qy b D ab_cl cA o) (ab_Xc b D ab_cl cA o) args s rm.cells rm.slots (fun q => b.1 ≤ q)) b D ab_cl cA nL o (fun i => i) pc (ab_ret rm.cells rm.slots) := ab_retx_ok C.1 C.2.1 (C.2.2.2.1.trans hr) C.2.2.2.2.1 hd
set_option maxRecDepth 100000 in
theorem at_good : ∀ w ∈ (ab_at "LackFerry" 190).filter goodWord, w ∈ ab_G := by
  have h : ∀ w ∈ (ab_at "LackFerry" 190).filter goodWord, w ∈ lw_tbl := by decide +kernel
  exact fun w hw => List.mem_filter.mpr ⟨h w hw, (List.mem_filter.mp hw).2⟩
set_option maxRecDepth 100000 in
theorem at_bad : ∀ w ∈ (ab_at "LackFerry" 190).filter (fun w => !goodWord w), w ∈ Cond.castable ab_NS ab_NS :: ab_Ed.map Cond.declares := by decide +kernel
set_option maxRecDepth 100000 in
theorem at_ot : ∀ w ∈ Cond.classLink "LackFerry" 186 ab_NS :: Cond.initialized ab_NS :: ab_at "LackFerry" 190, vx_ot w = true := by decide +kernel
set_option maxRecDepth 100000 in
theorem at_186 : Cond.classLink "LackFerry" 186 ab_NS ∈ ab_G := List.mem_filter.mpr ⟨by decide +kernel, rfl⟩
set_option maxRecDepth 100000 in
theorem at_ini : Cond.initialized ab_NS ∈ ab_G := List.mem_filter.mpr ⟨by decide +kernel, rfl⟩
theorem ok_thr (C : ab_cx p l e R s m args below meth c D ab_cl cA (ab_E0 b) yX10_man cc nL ret' (cd :: ab_G) ({ frames := 8, cells := 1, slots := 6, locals := 800 } : Room)) (htr : l.stackTraces = false) (hout : ∀ x ∈ c.exceptionTable.toList, False) {t is : Nat} {text : String} (hstr : vk_R "LackFerry" is text (b.2 t) s)
    (d0 : decode cc pc = .ok (.new 186, 3)) (d3 : decode cc (pc + 3) = .ok (.dup, 1)) (d4 : decode cc (pc + 4) = .ok (.ldc is, 2)) (d6 : decode cc (pc + 6) = .ok (.invokespecial 190, 3)) (d9 : decode cc (pc + 9) = .ok (.athrow, 1)) : ab_ok p l e R s m args below meth c (vx_MQ below (ab_Qy b D ab_cl cA o) (ab_Xc b D ab_cl cA o) args s 1 6 (fun q => b.1 ≤ q)) b D ab_cl cA nL o (fun i => i) pc ab_thr := by
  have hE := cx_E C
  have hG : ∀ w ∈ ab_G, w.before args s = true := fun w h => C.2.2.2.2.2.1 w (gm h)
  refine ab_thr_ok C.1 C.2.1 C.2.2.1 C.2.2.2.2.1 htr C.2.2.2.2.2.2.1 C.2.2.2.2.2.2.2.1 rfl (hG _ at_186) (hG _ at_ini) hstr (vx_hat (fun w h => hG w (at_good w h)) at_bad (vx_c (va_Nw.use rfl hE.2.2.2.1) (fun w hw => by
    obtain ⟨x, hx, rfl⟩ := List.mem_map.mp hw
    exact va_Nw.use rfl (hE.2.2.2.2.2.2.2.2.1 x hx)))) at_ot hE.2.2.2.2.2.2.1 hE.2.2.2.2.2.2.2.1 d0 d3 d4 d6 d9 hout ?_ ⟨Nat.le_refl _, Nat.le_refl _⟩
  rw [cx_R C]
  exact ⟨by decide, by decide, by decide, by decide⟩
theorem ok_callX (C : ab_cx p l e R s m args below meth c D ab_cl cA (ab_E0 b) y cc nL ret' (cd :: ab_G) rm) {Cn : String} {T : u_T} {N ci n i hj nA index maxL : Nat} {X : List Value → ab_H → Option ab_O} {z : MethodName} {bytes : ByteArray} {rz : Option FieldType} {rc : Room} {x : ExceptionTableEntry}
    (hM : ∀ (as : List Value) (hp : ab_H) (o : ab_O), X as hp = some o → vx_Met l z (Cond.code z bytes maxL rz :: ab_G) rc (ab_Px b D ab_cl cA (ab_E0 b) as hp) (ab_Qy b D ab_cl cA o) (ab_Xc b D ab_cl cA o) rc.cells rc.slots (fun q => b.1 ≤ q)) (htab : c.exceptionTable.toList = [x]) (hc : ab_cl[ci]? = some (Cn, T, N)) (hcode : Cond.code z bytes maxL rz ∈ ab_G) (hlink : Cond.methodLink y.cls index z ∈ ab_G) (hinst : Cond.instanceMethod z ∈ ab_G) (hsel : Cond.selects Cn z z ∈ ab_G) (hini : Cond.initialized z.cls ∈ ab_G)
    (hds : z.cls ≠ "java/lang/invoke/MethodHandle" ∧ z.cls ≠ "java/lang/invoke/VarHandle" ∧ (parseMethodDescriptor z.desc).map (fun d => d.parameters.length) = some n) (hrm : rc.frames + 1 ≤ rm.frames ∧ 8 + (maxL + 11) + rc.locals ≤ rm.locals) (hcl : Cond.classLink y.cls x.catchType ab_NS ∈ ab_G) (hd2 : decode cc x.handlerPc = .ok (.astore i, 2)) (hhj : hj = x.handlerPc + 2)
    (hd : decode cc pc = .ok (.invokevirtual index, 3)) (hjj : j = pc + 3) (hn : nA = n + 1 := by rfl) (hcov : covers x pc = true := by rfl) (h0 : x.catchType ≠ 0 := by decide) (hi : i < nL := by decide) : ab_ok p l e R s m args below meth c Q b D ab_cl cA nL o (fun i => i) pc (ab_callX j hj i nA ci X rc.cells rc.slots rm.cells rm.slots) :=
  ab_callX_ok C.1 C.2.1 C.2.2.1 C.2.2.2.2.2.1 C.2.2.2.2.2.2.1 C.2.2.2.2.2.2.2.1 (cx_cells C) (cx_E C) (ab_E0k b) (ab_E0b b) hM ⟨rfl, rfl⟩ hc (ab_good hcode) rfl (gm hlink) (gm hinst) (gm hsel) (gm hini) hn hds (by rw [cx_R C]; exact hrm) htab hcov h0 (C.2.2.2.2.2.1 _ (gm hcl)) (va_Nw.use rfl (cx_E C).2.2.2.1) hi hd2 hhj hd hjj
theorem ok_callSW (C : ab_cx p l e R s m args below meth c D ab_cl cA (ab_E0 b) y cc nL ret' (cd :: ab_G) rm) {nA mc ms maxL index : Nat} {X : List Value → ab_H → Option ab_O} {z : MethodName} {bytes : ByteArray} {rz : Option FieldType} {rc : Room} {hh : List (Nat × Nat × Nat × Nat)} (hM : ab_M l b D ab_cl cA (ab_E0 b) z (Cond.codeWith z bytes maxL rz hh :: ab_G) rc X) (hm : rc.cells = mc ∧ rc.slots = ms) (hcode : Cond.codeWith z bytes maxL rz hh ∈ ab_G) (hlink : Cond.methodLink y.cls index z ∈ ab_G) (hstat : Cond.static z ∈ ab_G) (hini : Cond.initialized z.cls ∈ ab_G)
    (hds : z.cls ≠ "java/lang/invoke/MethodHandle" ∧ z.cls ≠ "java/lang/invoke/VarHandle" ∧ (parseMethodDescriptor z.desc).map (fun d => d.parameters.length) = some nA) (hrm : rc.frames + 1 ≤ rm.frames ∧ 8 + (maxL + 11) + rc.locals ≤ rm.locals) (hd : decode cc pc = .ok (.invokestatic index, 3)) (hj : j = pc + 3) : ab_ok p l e R s m args below meth c Q b D ab_cl cA nL o (fun i => i) pc (ab_nx j (ab_call nA X mc ms rm.cells rm.slots)) := by
  refine ab_call_ok hj fun as hp o2 H locs u ls rest hlen hX h2 h3 h4 hP hz hS hl => ?_
  have hM2 := hM _ hp o2 hX
  rw [hm.1, hm.2] at hM2
  have hR := cx_cells C
  have hG : GoodIn (cd :: ab_G) (va_wsS y.cls index z (Cond.codeWith z bytes maxL rz hh :: ab_G)) := fun w hw => by
    rcases List.mem_append.mp hw with h | h
    · have hw2 : w ∈ ab_G := by
        rcases List.mem_cons.mp h with h | h
        · rw [h]; exact hlink
        · rcases List.mem_cons.mp h with h | h
          · rw [h]; exact hstat
          · rw [List.mem_singleton.mp h]; exact hini
      exact ⟨gm hw2, good_of_word (List.mem_filter.mp hw2).2⟩
    · exact ab_good hcode w h
  exact vx_runSW (As := as.map (ab_v b)) (n := nA) ⟨C.1, C.2.1, C.2.2.1, C.2.2.2.2.2.2.1, C.2.2.2.2.2.1⟩ hM2 (vx_cwSW nA C.2.2.2.2.2.1 hG rfl hm.1 hm.2 hds (by rw [cx_R C]; exact hrm)) ⟨ab_blind (ab_E0b b) _ _, fun U hU hW => ⟨rfl, by rw [hU]; exact hz, by rw [hU]; exact hP, va_K.moved hW.alike C.2.2.2.2.2.2.2.1, ab_E0k b s U hW (fun q h1 h2 => by rw [hU]; exact hS.2.1 q h1 h2) (cx_E C)⟩⟩ rfl (by simpa using hlen) hl.1 rfl (lv_room (by rw [ab_cats_v]; exact h2)) hd (by rw [hR.1, hR.2]; exact ⟨h3, h4⟩)
end AB
end
-- 20.m00.lean.txt
section
def L_X0_init : List (Nat × ab_A) := [
  (0, ab_nx 1 (ab_aload 0)),
  (1, ab_nx 4 ab_obj),
  (4, ab_vret 0 0)]
set_option maxRecDepth 100000 in
theorem dq20_0 : ([(0, .aload_n 0, 1), (1, .invokespecial 1, 3), (4, .return_, 1)] : List (Nat × Instr × Nat)).all (fun q => decide (decode cX0_init q.1 = .ok q.2)) = true := by decide +kernel
set_option maxRecDepth 100000 in
set_option maxHeartbeats 4000000 in
theorem M_X0_init {l : Launch} {b : ab_B} {D : va_G} {cA : Nat → ClassId} : ab_M l b D ab_cl cA (ab_E0 b) yX0_init (Cond.code yX0_init cX0_init 1 none :: ab_G) ({ frames := 2, cells := 0, slots := 0, locals := 200 } : Room) (ab_X (ab_T L_X0_init) 1) := by
  refine ab_meth (ret := none) L_X0_init (by decide) rfl fun p e R s m args below meth c o C => ?_
  unfold L_X0_init
  refine List.forall_mem_cons.mpr ⟨ok_aload_n C (show decode cX0_init 0 = .ok (.aload_n 0, 1) from dk_at dq20_0 (i := 0) rfl) rfl rfl, ?_⟩
  refine List.forall_mem_cons.mpr ⟨ok_obj C kw_220 kw_30 kw_31 ⟨by decide, by decide⟩ (show decode cX0_init 1 = .ok (.invokespecial 1, 3) from dk_at dq20_0 (i := 1) rfl) rfl, ?_⟩
  refine List.forall_mem_cons.mpr ⟨ok_vret C rfl (show decode cX0_init 4 = .ok (.return_, 1) from dk_at dq20_0 (i := 2) rfl), ?_⟩
  exact fun _ h => absurd h List.not_mem_nil
def L_X0_drawOf : List (Nat × ab_A) := [
  (0, ab_nx 1 (ab_aload 0)),
  (1, ab_nx 2 (ab_aload 0)),
  (2, ab_nx 5 (ab_getf 0 0)),
  (5, ab_nx 7 (ab_lit (.int 1103515245))),
  (7, ab_nx 8 (ab_bin (fun x y => x * y))),
  (8, ab_nx 11 (ab_lit (.int 12345))),
  (11, ab_nx 12 (ab_bin (fun x y => x + y))),
  (12, ab_nx 15 (ab_putf 0 0 0)),
  (15, ab_nx 16 (ab_iload 1)),
  (16, ab_if 19 31 (fun x => decide (x ≤ 0))),
  (19, ab_nx 20 (ab_aload 0)),
  (20, ab_nx 23 (ab_getf 0 0)),
  (23, ab_nx 25 (ab_lit (.int 8))),
  (25, ab_nx 26 (ab_bin (fun x y => (x.toUInt32 >>> (y.toUInt32 &&& Int32.toUInt32 31)).toInt32))),
  (26, ab_nx 27 (ab_iload 1)),
  (27, ab_nx 28 ab_irem),
  (28, ab_goto 32),
  (31, ab_nx 32 (ab_lit (.int 0))),
  (32, ab_ret 0 0)]
set_option maxRecDepth 100000 in
theorem dq20_1 : ([(0, .aload_n 0, 1), (1, .aload_n 0, 1), (2, .getfield 7, 3), (5, .ldc 13, 2), (7, .imul, 1), (8, .sipush 12345, 3), (11, .iadd, 1), (12, .putfield 7, 3), (15, .iload_n 1, 1), (16, .ifCond .le 15, 3), (19, .aload_n 0, 1), (20, .getfield 7, 3), (23, .bipush 8, 2), (25, .iushr, 1), (26, .iload_n 1, 1), (27, .irem, 1)] : List (Nat × Instr × Nat)).all (fun q => decide (decode cX0_drawOf q.1 = .ok q.2)) = true := by decide +kernel
set_option maxRecDepth 100000 in
theorem dq20_2 : ([(28, .goto 4, 3), (31, .iconst 0, 1), (32, .ireturn, 1)] : List (Nat × Instr × Nat)).all (fun q => decide (decode cX0_drawOf q.1 = .ok q.2)) = true := by decide +kernel
set_option maxRecDepth 100000 in
set_option maxHeartbeats 4000000 in
theorem M_X0_drawOf {l : Launch} {b : ab_B} {D : va_G} {cA : Nat → ClassId} : ab_M l b D ab_cl cA (ab_E0 b) yX0_drawOf (Cond.code yX0_drawOf cX0_drawOf 2 (some .int) :: ab_G) ({ frames := 1, cells := 0, slots := 0, locals := 100 } : Room) (ab_X (ab_T L_X0_drawOf) 2) := by
  refine ab_meth (ret := (some .int)) L_X0_drawOf (by decide) rfl fun p e R s m args below meth c o C => ?_
  unfold L_X0_drawOf
  refine List.forall_mem_cons.mpr ⟨ok_aload_n C (show decode cX0_drawOf 0 = .ok (.aload_n 0, 1) from dk_at dq20_1 (i := 0) rfl) rfl rfl, ?_⟩
  refine List.forall_mem_cons.mpr ⟨ok_aload_n C (show decode cX0_drawOf 1 = .ok (.aload_n 0, 1) from dk_at dq20_1 (i := 1) rfl) rfl rfl, ?_⟩
  refine List.forall_mem_cons.mpr ⟨ok_getf C (wi_X0) rfl (by decide) kw_221 (show decode cX0_drawOf 2 = .ok (.getfield 7, 3) from dk_at dq20_1 (i := 2) rfl) rfl, ?_⟩
  refine List.forall_mem_cons.mpr ⟨ok_ldc C (show decode cX0_drawOf 5 = .ok (.ldc 13, 2) from dk_at dq20_1 (i := 3) rfl) (gm kw_891) rfl, ?_⟩
  refine List.forall_mem_cons.mpr ⟨ok_imul C (show decode cX0_drawOf 7 = .ok (.imul, 1) from dk_at dq20_1 (i := 4) rfl) rfl, ?_⟩
  refine List.forall_mem_cons.mpr ⟨ok_sipush C (show decode cX0_drawOf 8 = .ok (.sipush 12345, 3) from dk_at dq20_1 (i := 5) rfl) (by decide) rfl, ?_⟩
  refine List.forall_mem_cons.mpr ⟨ok_iadd C (show decode cX0_drawOf 11 = .ok (.iadd, 1) from dk_at dq20_1 (i := 6) rfl) rfl, ?_⟩
  refine List.forall_mem_cons.mpr ⟨ok_putf C (wi_X0) tyX0 tyX0_ok nmX0 rfl (by decide) kw_221 (Or.inl rfl) (Or.inl ⟨rfl, rfl⟩) (show decode cX0_drawOf 12 = .ok (.putfield 7, 3) from dk_at dq20_1 (i := 7) rfl) rfl, ?_⟩
  refine List.forall_mem_cons.mpr ⟨ok_iload_n C (show decode cX0_drawOf 15 = .ok (.iload_n 1, 1) from dk_at dq20_1 (i := 8) rfl) rfl rfl, ?_⟩
  refine List.forall_mem_cons.mpr ⟨ok_ifle C (show decode cX0_drawOf 16 = .ok (.ifCond .le 15, 3) from dk_at dq20_1 (i := 9) rfl) (tg := 31) (by decide) rfl rfl, ?_⟩
  refine List.forall_mem_cons.mpr ⟨ok_aload_n C (show decode cX0_drawOf 19 = .ok (.aload_n 0, 1) from dk_at dq20_1 (i := 10) rfl) rfl rfl, ?_⟩
  refine List.forall_mem_cons.mpr ⟨ok_getf C (wi_X0) rfl (by decide) kw_221 (show decode cX0_drawOf 20 = .ok (.getfield 7, 3) from dk_at dq20_1 (i := 11) rfl) rfl, ?_⟩
  refine List.forall_mem_cons.mpr ⟨ok_bipush C (show decode cX0_drawOf 23 = .ok (.bipush 8, 2) from dk_at dq20_1 (i := 12) rfl) (by decide) rfl, ?_⟩
  refine List.forall_mem_cons.mpr ⟨ok_iushr C (show decode cX0_drawOf 25 = .ok (.iushr, 1) from dk_at dq20_1 (i := 13) rfl) rfl, ?_⟩
  refine List.forall_mem_cons.mpr ⟨ok_iload_n C (show decode cX0_drawOf 26 = .ok (.iload_n 1, 1) from dk_at dq20_1 (i := 14) rfl) rfl rfl, ?_⟩
  refine List.forall_mem_cons.mpr ⟨ok_irem C (show decode cX0_drawOf 27 = .ok (.irem, 1) from dk_at dq20_1 (i := 15) rfl) rfl, ?_⟩
  refine List.forall_mem_cons.mpr ⟨ok_goto C (show decode cX0_drawOf 28 = .ok (.goto 4, 3) from dk_at dq20_2 (i := 0) rfl) (tg := 32) (by decide) rfl, ?_⟩
  refine List.forall_mem_cons.mpr ⟨ok_iconst C (show decode cX0_drawOf 31 = .ok (.iconst 0, 1) from dk_at dq20_2 (i := 1) rfl) (by decide) rfl, ?_⟩
  refine List.forall_mem_cons.mpr ⟨ok_ret C rfl (show decode cX0_drawOf 32 = .ok (.ireturn, 1) from dk_at dq20_2 (i := 2) rfl), ?_⟩
  exact fun _ h => absurd h List.not_mem_nil
def L_X1_init : List (Nat × ab_A) := [
  (0, ab_nx 1 (ab_aload 0)),
  (1, ab_nx 4 ab_obj),
  (4, ab_nx 5 (ab_aload 0)),
  (5, ab_nx 7 (ab_lit (.int 6))),
  (7, ab_nx 9 (ab_newa 1 (fun n => (n, .inl (fun _ => 0))) 2 12)),
  (9, ab_nx 12 (ab_putf 1 0 2)),
  (12, ab_nx 13 (ab_aload 0)),
  (13, ab_nx 15 (ab_lit (.int 6))),
  (15, ab_nx 17 (ab_newa 1 (fun n => (n, .inl (fun _ => 0))) 2 12)),
  (17, ab_nx 20 (ab_putf 1 1 2)),
  (20, ab_vret 2 12)]
set_option maxRecDepth 100000 in
theorem dq20_3 : ([(0, .aload_n 0, 1), (1, .invokespecial 3, 3), (4, .aload_n 0, 1), (5, .bipush 6, 2), (7, .newarray .int, 2), (9, .putfield 9, 3), (12, .aload_n 0, 1), (13, .bipush 6, 2), (15, .newarray .int, 2), (17, .putfield 15, 3), (20, .return_, 1)] : List (Nat × Instr × Nat)).all (fun q => decide (decode cX1_init q.1 = .ok q.2)) = true := by decide +kernel
set_option maxRecDepth 100000 in
set_option maxHeartbeats 4000000 in
theorem M_X1_init {l : Launch} {b : ab_B} {D : va_G} {cA : Nat → ClassId} : ab_M l b D ab_cl cA (ab_E0 b) yX1_init (Cond.code yX1_init cX1_init 1 none :: ab_G) ({ frames := 2, cells := 2, slots := 12, locals := 200 } : Room) (ab_X (ab_T L_X1_init) 1) := by
  refine ab_meth (ret := none) L_X1_init (by decide) rfl fun p e R s m args below meth c o C => ?_
  unfold L_X1_init
  refine List.forall_mem_cons.mpr ⟨ok_aload_n C (show decode cX1_init 0 = .ok (.aload_n 0, 1) from dk_at dq20_3 (i := 0) rfl) rfl rfl, ?_⟩
  refine List.forall_mem_cons.mpr ⟨ok_obj C kw_104 kw_30 kw_31 ⟨by decide, by decide⟩ (show decode cX1_init 1 = .ok (.invokespecial 3, 3) from dk_at dq20_3 (i := 1) rfl) rfl, ?_⟩
  refine List.forall_mem_cons.mpr ⟨ok_aload_n C (show decode cX1_init 4 = .ok (.aload_n 0, 1) from dk_at dq20_3 (i := 2) rfl) rfl rfl, ?_⟩
  refine List.forall_mem_cons.mpr ⟨ok_bipush C (show decode cX1_init 5 = .ok (.bipush 6, 2) from dk_at dq20_3 (i := 3) rfl) (by decide) rfl, ?_⟩
  refine List.forall_mem_cons.mpr ⟨ok_newa_int C kw_97 (show decode cX1_init 7 = .ok (.newarray .int, 2) from dk_at dq20_3 (i := 4) rfl) rfl, ?_⟩
  refine List.forall_mem_cons.mpr ⟨ok_putf C (wi_X1) tyX1 tyX1_ok nmX1 rfl (by decide) kw_105 (Or.inr ⟨rfl, cx_name C, rfl⟩) (Or.inr (Or.inr (Or.inl ⟨rfl, Or.inr ⟨_, rfl⟩⟩))) (show decode cX1_init 9 = .ok (.putfield 9, 3) from dk_at dq20_3 (i := 5) rfl) rfl, ?_⟩
  refine List.forall_mem_cons.mpr ⟨ok_aload_n C (show decode cX1_init 12 = .ok (.aload_n 0, 1) from dk_at dq20_3 (i := 6) rfl) rfl rfl, ?_⟩
  refine List.forall_mem_cons.mpr ⟨ok_bipush C (show decode cX1_init 13 = .ok (.bipush 6, 2) from dk_at dq20_3 (i := 7) rfl) (by decide) rfl, ?_⟩
  refine List.forall_mem_cons.mpr ⟨ok_newa_int C kw_97 (show decode cX1_init 15 = .ok (.newarray .int, 2) from dk_at dq20_3 (i := 8) rfl) rfl, ?_⟩
  refine List.forall_mem_cons.mpr ⟨ok_putf C (wi_X1) tyX1 tyX1_ok nmX1 rfl (by decide) kw_107 (Or.inr ⟨rfl, cx_name C, rfl⟩) (Or.inr (Or.inr (Or.inl ⟨rfl, Or.inr ⟨_, rfl⟩⟩))) (show decode cX1_init 17 = .ok (.putfield 15, 3) from dk_at dq20_3 (i := 9) rfl) rfl, ?_⟩
  refine List.forall_mem_cons.mpr ⟨ok_vret C rfl (show decode cX1_init 20 = .ok (.return_, 1) from dk_at dq20_3 (i := 10) rfl), ?_⟩
  exact fun _ h => absurd h List.not_mem_nil
def L_X1_amountMoved : List (Nat × ab_A) := [
  (0, ab_nx 1 (ab_lit (.int 0))),
  (1, ab_nx 2 (ab_iload 0)),
  (2, ab_nx 3 (ab_iload 1)),
  (3, ab_nx 4 (ab_iload 2)),
  (4, ab_nx 7 (ab_mm ab_min 0 0)),
  (7, ab_nx 10 (ab_mm ab_min 0 0)),
  (10, ab_nx 13 (ab_mm ab_max 0 0)),
  (13, ab_ret 0 0)]
set_option maxRecDepth 100000 in
theorem dq20_4 : ([(0, .iconst 0, 1), (1, .iload_n 0, 1), (2, .iload_n 1, 1), (3, .iload_n 2, 1), (4, .invokestatic 18, 3), (7, .invokestatic 18, 3), (10, .invokestatic 24, 3), (13, .ireturn, 1)] : List (Nat × Instr × Nat)).all (fun q => decide (decode cX1_amountMoved q.1 = .ok q.2)) = true := by decide +kernel
set_option maxRecDepth 100000 in
set_option maxHeartbeats 4000000 in
theorem M_X1_amountMoved {l : Launch} {b : ab_B} {D : va_G} {cA : Nat → ClassId} : ab_M l b D ab_cl cA (ab_E0 b) yX1_amountMoved (Cond.code yX1_amountMoved cX1_amountMoved 3 (some .int) :: ab_G) ({ frames := 2, cells := 0, slots := 0, locals := 200 } : Room) (ab_X (ab_T L_X1_amountMoved) 3) := by
  refine ab_meth (ret := (some .int)) L_X1_amountMoved (by decide) rfl fun p e R s m args below meth c o C => ?_
  unfold L_X1_amountMoved
  refine List.forall_mem_cons.mpr ⟨ok_iconst C (show decode cX1_amountMoved 0 = .ok (.iconst 0, 1) from dk_at dq20_4 (i := 0) rfl) (by decide) rfl, ?_⟩
  refine List.forall_mem_cons.mpr ⟨ok_iload_n C (show decode cX1_amountMoved 1 = .ok (.iload_n 0, 1) from dk_at dq20_4 (i := 1) rfl) rfl rfl, ?_⟩
  refine List.forall_mem_cons.mpr ⟨ok_iload_n C (show decode cX1_amountMoved 2 = .ok (.iload_n 1, 1) from dk_at dq20_4 (i := 2) rfl) rfl rfl, ?_⟩
  refine List.forall_mem_cons.mpr ⟨ok_iload_n C (show decode cX1_amountMoved 3 = .ok (.iload_n 2, 1) from dk_at dq20_4 (i := 3) rfl) rfl rfl, ?_⟩
  refine List.forall_mem_cons.mpr ⟨ok_mmin C kw_766 kw_486 kw_16 kw_487 ⟨by decide, by decide⟩ (show decode cX1_amountMoved 4 = .ok (.invokestatic 18, 3) from dk_at dq20_4 (i := 4) rfl) rfl, ?_⟩
  refine List.forall_mem_cons.mpr ⟨ok_mmin C kw_766 kw_486 kw_16 kw_487 ⟨by decide, by decide⟩ (show decode cX1_amountMoved 7 = .ok (.invokestatic 18, 3) from dk_at dq20_4 (i := 5) rfl) rfl, ?_⟩
  refine List.forall_mem_cons.mpr ⟨ok_mmax C kw_767 kw_607 kw_16 kw_608 ⟨by decide, by decide⟩ (show decode cX1_amountMoved 10 = .ok (.invokestatic 24, 3) from dk_at dq20_4 (i := 6) rfl) rfl, ?_⟩
  refine List.forall_mem_cons.mpr ⟨ok_ret C rfl (show decode cX1_amountMoved 13 = .ok (.ireturn, 1) from dk_at dq20_4 (i := 7) rfl), ?_⟩
  exact fun _ h => absurd h List.not_mem_nil
def L_X6_ferryShore : List (Nat × ab_A) := [
  (0, ab_nx 1 (ab_aload 0)),
  (1, ab_nx 4 (ab_getf 6 7)),
  (4, ab_nx 5 (ab_lit (.int 2))),
  (5, ab_nx 6 ab_irem),
  (6, ab_ret 0 0)]
set_option maxRecDepth 100000 in
theorem dq20_5 : ([(0, .aload_n 0, 1), (1, .getfield 42, 3), (4, .iconst 2, 1), (5, .irem, 1), (6, .ireturn, 1)] : List (Nat × Instr × Nat)).all (fun q => decide (decode cX6_ferryShore q.1 = .ok q.2)) = true := by decide +kernel
set_option maxRecDepth 100000 in
set_option maxHeartbeats 4000000 in
theorem M_X6_ferryShore {l : Launch} {b : ab_B} {D : va_G} {cA : Nat → ClassId} : ab_M l b D ab_cl cA (ab_E0 b) yX6_ferryShore (Cond.code yX6_ferryShore cX6_ferryShore 1 (some .int) :: ab_G) ({ frames := 1, cells := 0, slots := 0, locals := 100 } : Room) (ab_X (ab_T L_X6_ferryShore) 1) := by
  refine ab_meth (ret := (some .int)) L_X6_ferryShore (by decide) rfl fun p e R s m args below meth c o C => ?_
  unfold L_X6_ferryShore
  refine List.forall_mem_cons.mpr ⟨ok_aload_n C (show decode cX6_ferryShore 0 = .ok (.aload_n 0, 1) from dk_at dq20_5 (i := 0) rfl) rfl rfl, ?_⟩
  refine List.forall_mem_cons.mpr ⟨ok_getf C (wi_X6) rfl (by decide) kw_162 (show decode cX6_ferryShore 1 = .ok (.getfield 42, 3) from dk_at dq20_5 (i := 1) rfl) rfl, ?_⟩
  refine List.forall_mem_cons.mpr ⟨ok_iconst C (show decode cX6_ferryShore 4 = .ok (.iconst 2, 1) from dk_at dq20_5 (i := 2) rfl) (by decide) rfl, ?_⟩
  refine List.forall_mem_cons.mpr ⟨ok_irem C (show decode cX6_ferryShore 5 = .ok (.irem, 1) from dk_at dq20_5 (i := 3) rfl) rfl, ?_⟩
  refine List.forall_mem_cons.mpr ⟨ok_ret C rfl (show decode cX6_ferryShore 6 = .ok (.ireturn, 1) from dk_at dq20_5 (i := 4) rfl), ?_⟩
  exact fun _ h => absurd h List.not_mem_nil
def L_X6_apartOf : List (Nat × ab_A) := [
  (0, ab_nx 1 (ab_iload 1)),
  (1, ab_nx 2 (ab_iload 2)),
  (2, ab_icmp 5 19 (fun x y => decide (x ≤ y))),
  (5, ab_nx 6 (ab_aload 0)),
  (6, ab_nx 9 (ab_getf 6 6)),
  (9, ab_nx 10 (ab_iload 1)),
  (10, ab_nx 12 (ab_lit (.int 8))),
  (12, ab_nx 13 (ab_bin (fun x y => x * y))),
  (13, ab_nx 14 (ab_iload 2)),
  (14, ab_nx 15 (ab_bin (fun x y => x + y))),
  (15, ab_nx 16 (ab_ald 1)),
  (16, ab_goto 30),
  (19, ab_nx 20 (ab_aload 0)),
  (20, ab_nx 23 (ab_getf 6 6)),
  (23, ab_nx 24 (ab_iload 2)),
  (24, ab_nx 26 (ab_lit (.int 8))),
  (26, ab_nx 27 (ab_bin (fun x y => x * y))),
  (27, ab_nx 28 (ab_iload 1)),
  (28, ab_nx 29 (ab_bin (fun x y => x + y))),
  (29, ab_nx 30 (ab_ald 1)),
  (30, ab_ret 0 0)]
set_option maxRecDepth 100000 in
theorem dq20_6 : ([(0, .iload_n 1, 1), (1, .iload_n 2, 1), (2, .if_icmp .le 17, 3), (5, .aload_n 0, 1), (6, .getfield 30, 3), (9, .iload_n 1, 1), (10, .bipush 8, 2), (12, .imul, 1), (13, .iload_n 2, 1), (14, .iadd, 1), (15, .iaload, 1), (16, .goto 14, 3), (19, .aload_n 0, 1), (20, .getfield 30, 3), (23, .iload_n 2, 1), (24, .bipush 8, 2)] : List (Nat × Instr × Nat)).all (fun q => decide (decode cX6_apartOf q.1 = .ok q.2)) = true := by decide +kernel
set_option maxRecDepth 100000 in
theorem dq20_7 : ([(26, .imul, 1), (27, .iload_n 1, 1), (28, .iadd, 1), (29, .iaload, 1), (30, .ireturn, 1)] : List (Nat × Instr × Nat)).all (fun q => decide (decode cX6_apartOf q.1 = .ok q.2)) = true := by decide +kernel
set_option maxRecDepth 100000 in
set_option maxHeartbeats 4000000 in
theorem M_X6_apartOf {l : Launch} {b : ab_B} {D : va_G} {cA : Nat → ClassId} : ab_M l b D ab_cl cA (ab_E0 b) yX6_apartOf (Cond.code yX6_apartOf cX6_apartOf 3 (some .int) :: ab_G) ({ frames := 1, cells := 0, slots := 0, locals := 100 } : Room) (ab_X (ab_T L_X6_apartOf) 3) := by
  refine ab_meth (ret := (some .int)) L_X6_apartOf (by decide) rfl fun p e R s m args below meth c o C => ?_
  unfold L_X6_apartOf
  refine List.forall_mem_cons.mpr ⟨ok_iload_n C (show decode cX6_apartOf 0 = .ok (.iload_n 1, 1) from dk_at dq20_6 (i := 0) rfl) rfl rfl, ?_⟩
  refine List.forall_mem_cons.mpr ⟨ok_iload_n C (show decode cX6_apartOf 1 = .ok (.iload_n 2, 1) from dk_at dq20_6 (i := 1) rfl) rfl rfl, ?_⟩
  refine List.forall_mem_cons.mpr ⟨ok_icmple C (show decode cX6_apartOf 2 = .ok (.if_icmp .le 17, 3) from dk_at dq20_6 (i := 2) rfl) (tg := 19) (by decide) rfl rfl, ?_⟩
  refine List.forall_mem_cons.mpr ⟨ok_aload_n C (show decode cX6_apartOf 5 = .ok (.aload_n 0, 1) from dk_at dq20_6 (i := 3) rfl) rfl rfl, ?_⟩
  refine List.forall_mem_cons.mpr ⟨ok_getf C (wi_X6) rfl (by decide) kw_161 (show decode cX6_apartOf 6 = .ok (.getfield 30, 3) from dk_at dq20_6 (i := 4) rfl) rfl, ?_⟩
  refine List.forall_mem_cons.mpr ⟨ok_iload_n C (show decode cX6_apartOf 9 = .ok (.iload_n 1, 1) from dk_at dq20_6 (i := 5) rfl) rfl rfl, ?_⟩
  refine List.forall_mem_cons.mpr ⟨ok_bipush C (show decode cX6_apartOf 10 = .ok (.bipush 8, 2) from dk_at dq20_6 (i := 6) rfl) (by decide) rfl, ?_⟩
  refine List.forall_mem_cons.mpr ⟨ok_imul C (show decode cX6_apartOf 12 = .ok (.imul, 1) from dk_at dq20_6 (i := 7) rfl) rfl, ?_⟩
  refine List.forall_mem_cons.mpr ⟨ok_iload_n C (show decode cX6_apartOf 13 = .ok (.iload_n 2, 1) from dk_at dq20_6 (i := 8) rfl) rfl rfl, ?_⟩
  refine List.forall_mem_cons.mpr ⟨ok_iadd C (show decode cX6_apartOf 14 = .ok (.iadd, 1) from dk_at dq20_6 (i := 9) rfl) rfl, ?_⟩
  refine List.forall_mem_cons.mpr ⟨ok_iaload C (show decode cX6_apartOf 15 = .ok (.iaload, 1) from dk_at dq20_6 (i := 10) rfl) rfl, ?_⟩
  refine List.forall_mem_cons.mpr ⟨ok_goto C (show decode cX6_apartOf 16 = .ok (.goto 14, 3) from dk_at dq20_6 (i := 11) rfl) (tg := 30) (by decide) rfl, ?_⟩
  refine List.forall_mem_cons.mpr ⟨ok_aload_n C (show decode cX6_apartOf 19 = .ok (.aload_n 0, 1) from dk_at dq20_6 (i := 12) rfl) rfl rfl, ?_⟩
  refine List.forall_mem_cons.mpr ⟨ok_getf C (wi_X6) rfl (by decide) kw_161 (show decode cX6_apartOf 20 = .ok (.getfield 30, 3) from dk_at dq20_6 (i := 13) rfl) rfl, ?_⟩
  refine List.forall_mem_cons.mpr ⟨ok_iload_n C (show decode cX6_apartOf 23 = .ok (.iload_n 2, 1) from dk_at dq20_6 (i := 14) rfl) rfl rfl, ?_⟩
  refine List.forall_mem_cons.mpr ⟨ok_bipush C (show decode cX6_apartOf 24 = .ok (.bipush 8, 2) from dk_at dq20_6 (i := 15) rfl) (by decide) rfl, ?_⟩
  refine List.forall_mem_cons.mpr ⟨ok_imul C (show decode cX6_apartOf 26 = .ok (.imul, 1) from dk_at dq20_7 (i := 0) rfl) rfl, ?_⟩
  refine List.forall_mem_cons.mpr ⟨ok_iload_n C (show decode cX6_apartOf 27 = .ok (.iload_n 1, 1) from dk_at dq20_7 (i := 1) rfl) rfl rfl, ?_⟩
  refine List.forall_mem_cons.mpr ⟨ok_iadd C (show decode cX6_apartOf 28 = .ok (.iadd, 1) from dk_at dq20_7 (i := 2) rfl) rfl, ?_⟩
  refine List.forall_mem_cons.mpr ⟨ok_iaload C (show decode cX6_apartOf 29 = .ok (.iaload, 1) from dk_at dq20_7 (i := 3) rfl) rfl, ?_⟩
  refine List.forall_mem_cons.mpr ⟨ok_ret C rfl (show decode cX6_apartOf 30 = .ok (.ireturn, 1) from dk_at dq20_7 (i := 4) rfl), ?_⟩
  exact fun _ h => absurd h List.not_mem_nil
def L_X6_isFelt (f_X6_apartOf : List Value → ab_H → Option ab_O) : List (Nat × ab_A) := [
  (0, ab_nx 1 (ab_aload 1)),
  (1, ab_nx 4 (ab_getf 7 4)),
  (4, ab_nx 5 (ab_iload 2)),
  (5, ab_nx 6 (ab_ald 1)),
  (6, ab_nx 7 (ab_istore 3)),
  (7, ab_nx 8 (ab_aload 1)),
  (8, ab_nx 11 (ab_getf 7 5)),
  (11, ab_nx 12 (ab_iload 2)),
  (12, ab_nx 13 (ab_ald 1)),
  (13, ab_nx 15 (ab_istore 4)),
  (15, ab_nx 16 (ab_aload 0)),
  (16, ab_nx 19 (ab_getf 6 4)),
  (19, ab_nx 20 (ab_iload 3)),
  (20, ab_nx 21 (ab_ald 1)),
  (21, ab_nx 22 (ab_lit (.int (-1)))),
  (22, ab_icmp 25 40 (fun x y => decide (x = y))),
  (25, ab_nx 26 (ab_aload 0)),
  (26, ab_nx 29 (ab_getf 6 4)),
  (29, ab_nx 31 (ab_iload 4)),
  (31, ab_nx 32 (ab_ald 1)),
  (32, ab_nx 33 (ab_lit (.int (-1)))),
  (33, ab_icmp 36 40 (fun x y => decide (x = y))),
  (36, ab_nx 37 (ab_lit (.int 1))),
  (37, ab_goto 41),
  (40, ab_nx 41 (ab_lit (.int 0))),
  (41, ab_nx 43 (ab_istore 5)),
  (43, ab_nx 45 (ab_iload 5)),
  (45, ab_if 48 84 (fun x => decide (x = 0))),
  (48, ab_nx 49 (ab_aload 0)),
  (49, ab_nx 52 (ab_getf 6 4)),
  (52, ab_nx 53 (ab_iload 3)),
  (53, ab_nx 54 (ab_ald 1)),
  (54, ab_nx 55 (ab_aload 0)),
  (55, ab_nx 58 (ab_getf 6 4)),
  (58, ab_nx 60 (ab_iload 4)),
  (60, ab_nx 61 (ab_ald 1)),
  (61, ab_icmp 64 84 (fun x y => decide (x = y))),
  (64, ab_nx 65 (ab_aload 0)),
  (65, ab_nx 66 (ab_iload 3)),
  (66, ab_nx 68 (ab_iload 4)),
  (68, ab_nx 71 (ab_callV 3 6 f_X6_apartOf 0 0 0 0)),
  (71, ab_nx 72 (ab_aload 1)),
  (72, ab_nx 75 (ab_getf 7 6)),
  (75, ab_nx 76 (ab_iload 2)),
  (76, ab_nx 77 (ab_ald 1)),
  (77, ab_icmp 80 84 (fun x y => decide (x < y))),
  (80, ab_nx 81 (ab_lit (.int 1))),
  (81, ab_goto 85),
  (84, ab_nx 85 (ab_lit (.int 0))),
  (85, ab_zret 0 0)]
set_option maxRecDepth 100000 in
theorem dq20_8 : ([(0, .aload_n 1, 1), (1, .getfield 66, 3), (4, .iload_n 2, 1), (5, .iaload, 1), (6, .istore_n 3, 1), (7, .aload_n 1, 1), (8, .getfield 69, 3), (11, .iload_n 2, 1), (12, .iaload, 1), (13, .istore 4, 2), (15, .aload_n 0, 1), (16, .getfield 24, 3), (19, .iload_n 3, 1), (20, .iaload, 1), (21, .iconst (-1), 1), (22, .if_icmp .eq 18, 3)] : List (Nat × Instr × Nat)).all (fun q => decide (decode cX6_isFelt q.1 = .ok q.2)) = true := by decide +kernel
set_option maxRecDepth 100000 in
theorem dq20_9 : ([(25, .aload_n 0, 1), (26, .getfield 24, 3), (29, .iload 4, 2), (31, .iaload, 1), (32, .iconst (-1), 1), (33, .if_icmp .eq 7, 3), (36, .iconst 1, 1), (37, .goto 4, 3), (40, .iconst 0, 1), (41, .istore 5, 2), (43, .iload 5, 2), (45, .ifCond .eq 39, 3), (48, .aload_n 0, 1), (49, .getfield 24, 3), (52, .iload_n 3, 1), (53, .iaload, 1)] : List (Nat × Instr × Nat)).all (fun q => decide (decode cX6_isFelt q.1 = .ok q.2)) = true := by decide +kernel
set_option maxRecDepth 100000 in
theorem dq20_10 : ([(54, .aload_n 0, 1), (55, .getfield 24, 3), (58, .iload 4, 2), (60, .iaload, 1), (61, .if_icmp .eq 23, 3), (64, .aload_n 0, 1), (65, .iload_n 3, 1), (66, .iload 4, 2), (68, .invokevirtual 72, 3), (71, .aload_n 1, 1), (72, .getfield 75, 3), (75, .iload_n 2, 1), (76, .iaload, 1), (77, .if_icmp .lt 7, 3), (80, .iconst 1, 1), (81, .goto 4, 3)] : List (Nat × Instr × Nat)).all (fun q => decide (decode cX6_isFelt q.1 = .ok q.2)) = true := by decide +kernel
set_option maxRecDepth 100000 in
theorem dq20_11 : ([(84, .iconst 0, 1), (85, .ireturn, 1)] : List (Nat × Instr × Nat)).all (fun q => decide (decode cX6_isFelt q.1 = .ok q.2)) = true := by decide +kernel
set_option maxRecDepth 100000 in
set_option maxHeartbeats 4000000 in
theorem M_X6_isFelt {l : Launch} {b : ab_B} {D : va_G} {cA : Nat → ClassId} {f_X6_apartOf : List Value → ab_H → Option ab_O} (h_X6_apartOf : ab_M l b D ab_cl cA (ab_E0 b) yX6_apartOf (Cond.code yX6_apartOf cX6_apartOf 3 (some .int) :: ab_G) ({ frames := 1, cells := 0, slots := 0, locals := 100 } : Room) f_X6_apartOf) : ab_M l b D ab_cl cA (ab_E0 b) yX6_isFelt (Cond.code yX6_isFelt cX6_isFelt 6 (some .boolean) :: ab_G) ({ frames := 2, cells := 0, slots := 0, locals := 200 } : Room) (ab_X (ab_T (L_X6_isFelt f_X6_apartOf)) 6) := by
  refine ab_meth (ret := (some .boolean)) (L_X6_isFelt f_X6_apartOf) (by decide) rfl fun p e R s m args below meth c o C => ?_
  unfold L_X6_isFelt
  refine List.forall_mem_cons.mpr ⟨ok_aload_n C (show decode cX6_isFelt 0 = .ok (.aload_n 1, 1) from dk_at dq20_8 (i := 0) rfl) rfl rfl, ?_⟩
  refine List.forall_mem_cons.mpr ⟨ok_getf C (wi_X7) rfl (by decide) kw_240 (show decode cX6_isFelt 1 = .ok (.getfield 66, 3) from dk_at dq20_8 (i := 1) rfl) rfl, ?_⟩
  refine List.forall_mem_cons.mpr ⟨ok_iload_n C (show decode cX6_isFelt 4 = .ok (.iload_n 2, 1) from dk_at dq20_8 (i := 2) rfl) rfl rfl, ?_⟩
  refine List.forall_mem_cons.mpr ⟨ok_iaload C (show decode cX6_isFelt 5 = .ok (.iaload, 1) from dk_at dq20_8 (i := 3) rfl) rfl, ?_⟩
  refine List.forall_mem_cons.mpr ⟨ok_istore_n C (show decode cX6_isFelt 6 = .ok (.istore_n 3, 1) from dk_at dq20_8 (i := 4) rfl) rfl (by decide) rfl, ?_⟩
  refine List.forall_mem_cons.mpr ⟨ok_aload_n C (show decode cX6_isFelt 7 = .ok (.aload_n 1, 1) from dk_at dq20_8 (i := 5) rfl) rfl rfl, ?_⟩
  refine List.forall_mem_cons.mpr ⟨ok_getf C (wi_X7) rfl (by decide) kw_242 (show decode cX6_isFelt 8 = .ok (.getfield 69, 3) from dk_at dq20_8 (i := 6) rfl) rfl, ?_⟩
  refine List.forall_mem_cons.mpr ⟨ok_iload_n C (show decode cX6_isFelt 11 = .ok (.iload_n 2, 1) from dk_at dq20_8 (i := 7) rfl) rfl rfl, ?_⟩
  refine List.forall_mem_cons.mpr ⟨ok_iaload C (show decode cX6_isFelt 12 = .ok (.iaload, 1) from dk_at dq20_8 (i := 8) rfl) rfl, ?_⟩
  refine List.forall_mem_cons.mpr ⟨ok_istore C (show decode cX6_isFelt 13 = .ok (.istore 4, 2) from dk_at dq20_8 (i := 9) rfl) (by decide) rfl, ?_⟩
  refine List.forall_mem_cons.mpr ⟨ok_aload_n C (show decode cX6_isFelt 15 = .ok (.aload_n 0, 1) from dk_at dq20_8 (i := 10) rfl) rfl rfl, ?_⟩
  refine List.forall_mem_cons.mpr ⟨ok_getf C (wi_X6) rfl (by decide) kw_155 (show decode cX6_isFelt 16 = .ok (.getfield 24, 3) from dk_at dq20_8 (i := 11) rfl) rfl, ?_⟩
  refine List.forall_mem_cons.mpr ⟨ok_iload_n C (show decode cX6_isFelt 19 = .ok (.iload_n 3, 1) from dk_at dq20_8 (i := 12) rfl) rfl rfl, ?_⟩
  refine List.forall_mem_cons.mpr ⟨ok_iaload C (show decode cX6_isFelt 20 = .ok (.iaload, 1) from dk_at dq20_8 (i := 13) rfl) rfl, ?_⟩
  refine List.forall_mem_cons.mpr ⟨ok_iconst C (show decode cX6_isFelt 21 = .ok (.iconst (-1), 1) from dk_at dq20_8 (i := 14) rfl) (by decide) rfl, ?_⟩
  refine List.forall_mem_cons.mpr ⟨ok_icmpeq C (show decode cX6_isFelt 22 = .ok (.if_icmp .eq 18, 3) from dk_at dq20_8 (i := 15) rfl) (tg := 40) (by decide) rfl rfl, ?_⟩
  refine List.forall_mem_cons.mpr ⟨ok_aload_n C (show decode cX6_isFelt 25 = .ok (.aload_n 0, 1) from dk_at dq20_9 (i := 0) rfl) rfl rfl, ?_⟩
  refine List.forall_mem_cons.mpr ⟨ok_getf C (wi_X6) rfl (by decide) kw_155 (show decode cX6_isFelt 26 = .ok (.getfield 24, 3) from dk_at dq20_9 (i := 1) rfl) rfl, ?_⟩
  refine List.forall_mem_cons.mpr ⟨ok_iload C (show decode cX6_isFelt 29 = .ok (.iload 4, 2) from dk_at dq20_9 (i := 2) rfl) rfl, ?_⟩
  refine List.forall_mem_cons.mpr ⟨ok_iaload C (show decode cX6_isFelt 31 = .ok (.iaload, 1) from dk_at dq20_9 (i := 3) rfl) rfl, ?_⟩
  refine List.forall_mem_cons.mpr ⟨ok_iconst C (show decode cX6_isFelt 32 = .ok (.iconst (-1), 1) from dk_at dq20_9 (i := 4) rfl) (by decide) rfl, ?_⟩
  refine List.forall_mem_cons.mpr ⟨ok_icmpeq C (show decode cX6_isFelt 33 = .ok (.if_icmp .eq 7, 3) from dk_at dq20_9 (i := 5) rfl) (tg := 40) (by decide) rfl rfl, ?_⟩
  refine List.forall_mem_cons.mpr ⟨ok_iconst C (show decode cX6_isFelt 36 = .ok (.iconst 1, 1) from dk_at dq20_9 (i := 6) rfl) (by decide) rfl, ?_⟩
  refine List.forall_mem_cons.mpr ⟨ok_goto C (show decode cX6_isFelt 37 = .ok (.goto 4, 3) from dk_at dq20_9 (i := 7) rfl) (tg := 41) (by decide) rfl, ?_⟩
  refine List.forall_mem_cons.mpr ⟨ok_iconst C (show decode cX6_isFelt 40 = .ok (.iconst 0, 1) from dk_at dq20_9 (i := 8) rfl) (by decide) rfl, ?_⟩
  refine List.forall_mem_cons.mpr ⟨ok_istore C (show decode cX6_isFelt 41 = .ok (.istore 5, 2) from dk_at dq20_9 (i := 9) rfl) (by decide) rfl, ?_⟩
  refine List.forall_mem_cons.mpr ⟨ok_iload C (show decode cX6_isFelt 43 = .ok (.iload 5, 2) from dk_at dq20_9 (i := 10) rfl) rfl, ?_⟩
  refine List.forall_mem_cons.mpr ⟨ok_ifeq C (show decode cX6_isFelt 45 = .ok (.ifCond .eq 39, 3) from dk_at dq20_9 (i := 11) rfl) (tg := 84) (by decide) rfl rfl, ?_⟩
  refine List.forall_mem_cons.mpr ⟨ok_aload_n C (show decode cX6_isFelt 48 = .ok (.aload_n 0, 1) from dk_at dq20_9 (i := 12) rfl) rfl rfl, ?_⟩
  refine List.forall_mem_cons.mpr ⟨ok_getf C (wi_X6) rfl (by decide) kw_155 (show decode cX6_isFelt 49 = .ok (.getfield 24, 3) from dk_at dq20_9 (i := 13) rfl) rfl, ?_⟩
  refine List.forall_mem_cons.mpr ⟨ok_iload_n C (show decode cX6_isFelt 52 = .ok (.iload_n 3, 1) from dk_at dq20_9 (i := 14) rfl) rfl rfl, ?_⟩
  refine List.forall_mem_cons.mpr ⟨ok_iaload C (show decode cX6_isFelt 53 = .ok (.iaload, 1) from dk_at dq20_9 (i := 15) rfl) rfl, ?_⟩
  refine List.forall_mem_cons.mpr ⟨ok_aload_n C (show decode cX6_isFelt 54 = .ok (.aload_n 0, 1) from dk_at dq20_10 (i := 0) rfl) rfl rfl, ?_⟩
  refine List.forall_mem_cons.mpr ⟨ok_getf C (wi_X6) rfl (by decide) kw_155 (show decode cX6_isFelt 55 = .ok (.getfield 24, 3) from dk_at dq20_10 (i := 1) rfl) rfl, ?_⟩
  refine List.forall_mem_cons.mpr ⟨ok_iload C (show decode cX6_isFelt 58 = .ok (.iload 4, 2) from dk_at dq20_10 (i := 2) rfl) rfl, ?_⟩
  refine List.forall_mem_cons.mpr ⟨ok_iaload C (show decode cX6_isFelt 60 = .ok (.iaload, 1) from dk_at dq20_10 (i := 3) rfl) rfl, ?_⟩
  refine List.forall_mem_cons.mpr ⟨ok_icmpeq C (show decode cX6_isFelt 61 = .ok (.if_icmp .eq 23, 3) from dk_at dq20_10 (i := 4) rfl) (tg := 84) (by decide) rfl rfl, ?_⟩
  refine List.forall_mem_cons.mpr ⟨ok_aload_n C (show decode cX6_isFelt 64 = .ok (.aload_n 0, 1) from dk_at dq20_10 (i := 5) rfl) rfl rfl, ?_⟩
  refine List.forall_mem_cons.mpr ⟨ok_iload_n C (show decode cX6_isFelt 65 = .ok (.iload_n 3, 1) from dk_at dq20_10 (i := 6) rfl) rfl rfl, ?_⟩
  refine List.forall_mem_cons.mpr ⟨ok_iload C (show decode cX6_isFelt 66 = .ok (.iload 4, 2) from dk_at dq20_10 (i := 7) rfl) rfl, ?_⟩
  refine List.forall_mem_cons.mpr ⟨ok_callV C h_X6_apartOf ⟨rfl, rfl⟩ rfl kw_636 kw_673 kw_634 kw_635 kw_6 rfl ds_X6_apartOf ⟨by decide, by decide⟩ (show decode cX6_isFelt 68 = .ok (.invokevirtual 72, 3) from dk_at dq20_10 (i := 8) rfl) rfl, ?_⟩
  refine List.forall_mem_cons.mpr ⟨ok_aload_n C (show decode cX6_isFelt 71 = .ok (.aload_n 1, 1) from dk_at dq20_10 (i := 9) rfl) rfl rfl, ?_⟩
  refine List.forall_mem_cons.mpr ⟨ok_getf C (wi_X7) rfl (by decide) kw_244 (show decode cX6_isFelt 72 = .ok (.getfield 75, 3) from dk_at dq20_10 (i := 10) rfl) rfl, ?_⟩
  refine List.forall_mem_cons.mpr ⟨ok_iload_n C (show decode cX6_isFelt 75 = .ok (.iload_n 2, 1) from dk_at dq20_10 (i := 11) rfl) rfl rfl, ?_⟩
  refine List.forall_mem_cons.mpr ⟨ok_iaload C (show decode cX6_isFelt 76 = .ok (.iaload, 1) from dk_at dq20_10 (i := 12) rfl) rfl, ?_⟩
  refine List.forall_mem_cons.mpr ⟨ok_icmplt C (show decode cX6_isFelt 77 = .ok (.if_icmp .lt 7, 3) from dk_at dq20_10 (i := 13) rfl) (tg := 84) (by decide) rfl rfl, ?_⟩
  refine List.forall_mem_cons.mpr ⟨ok_iconst C (show decode cX6_isFelt 80 = .ok (.iconst 1, 1) from dk_at dq20_10 (i := 14) rfl) (by decide) rfl, ?_⟩
  refine List.forall_mem_cons.mpr ⟨ok_goto C (show decode cX6_isFelt 81 = .ok (.goto 4, 3) from dk_at dq20_10 (i := 15) rfl) (tg := 85) (by decide) rfl, ?_⟩
  refine List.forall_mem_cons.mpr ⟨ok_iconst C (show decode cX6_isFelt 84 = .ok (.iconst 0, 1) from dk_at dq20_11 (i := 0) rfl) (by decide) rfl, ?_⟩
  refine List.forall_mem_cons.mpr ⟨ok_zret C rfl (show decode cX6_isFelt 85 = .ok (.ireturn, 1) from dk_at dq20_11 (i := 1) rfl), ?_⟩
  exact fun _ h => absurd h List.not_mem_nil
def L_X6_allMissed (f_X6_isFelt : List Value → ab_H → Option ab_O) : List (Nat × ab_A) := [
  (0, ab_nx 1 (ab_lit (.int 0))),
  (1, ab_nx 2 (ab_istore 2)),
  (2, ab_nx 3 (ab_lit (.int 0))),
  (3, ab_nx 4 (ab_istore 3)),
  (4, ab_nx 5 (ab_iload 3)),
  (5, ab_nx 6 (ab_aload 1)),
  (6, ab_nx 9 (ab_getf 7 10)),
  (9, ab_icmp 12 38 (fun x y => decide (y ≤ x))),
  (12, ab_nx 13 (ab_aload 0)),
  (13, ab_nx 14 (ab_aload 1)),
  (14, ab_nx 15 (ab_iload 3)),
  (15, ab_nx 18 (ab_callV 3 6 f_X6_isFelt 0 0 0 0)),
  (18, ab_if 21 32 (fun x => decide (x = 0))),
  (21, ab_nx 22 (ab_iload 2)),
  (22, ab_nx 23 (ab_lit (.int 1))),
  (23, ab_nx 24 (ab_aload 1)),
  (24, ab_nx 27 (ab_getf 7 5)),
  (27, ab_nx 28 (ab_iload 3)),
  (28, ab_nx 29 (ab_ald 1)),
  (29, ab_nx 30 (ab_bin (fun x y => x <<< (y &&& 31)))),
  (30, ab_nx 31 (ab_bin (fun x y => x ||| y))),
  (31, ab_nx 32 (ab_istore 2)),
  (32, ab_nx 35 (ab_iinc 3 1)),
  (35, ab_goto 4),
  (38, ab_nx 39 (ab_iload 2)),
  (39, ab_ret 0 0)]
set_option maxRecDepth 100000 in
theorem dq20_12 : ([(0, .iconst 0, 1), (1, .istore_n 2, 1), (2, .iconst 0, 1), (3, .istore_n 3, 1), (4, .iload_n 3, 1), (5, .aload_n 1, 1), (6, .getfield 78, 3), (9, .if_icmp .ge 29, 3), (12, .aload_n 0, 1), (13, .aload_n 1, 1), (14, .iload_n 3, 1), (15, .invokevirtual 81, 3), (18, .ifCond .eq 14, 3), (21, .iload_n 2, 1), (22, .iconst 1, 1), (23, .aload_n 1, 1)] : List (Nat × Instr × Nat)).all (fun q => decide (decode cX6_allMissed q.1 = .ok q.2)) = true := by decide +kernel
set_option maxRecDepth 100000 in
theorem dq20_13 : ([(24, .getfield 69, 3), (27, .iload_n 3, 1), (28, .iaload, 1), (29, .ishl, 1), (30, .ior, 1), (31, .istore_n 2, 1), (32, .iinc 3 1, 3), (35, .goto (-31), 3), (38, .iload_n 2, 1), (39, .ireturn, 1)] : List (Nat × Instr × Nat)).all (fun q => decide (decode cX6_allMissed q.1 = .ok q.2)) = true := by decide +kernel
set_option maxRecDepth 100000 in
set_option maxHeartbeats 4000000 in
theorem M_X6_allMissed {l : Launch} {b : ab_B} {D : va_G} {cA : Nat → ClassId} {f_X6_isFelt : List Value → ab_H → Option ab_O} (h_X6_isFelt : ab_M l b D ab_cl cA (ab_E0 b) yX6_isFelt (Cond.code yX6_isFelt cX6_isFelt 6 (some .boolean) :: ab_G) ({ frames := 2, cells := 0, slots := 0, locals := 200 } : Room) f_X6_isFelt) : ab_M l b D ab_cl cA (ab_E0 b) yX6_allMissed (Cond.code yX6_allMissed cX6_allMissed 4 (some .int) :: ab_G) ({ frames := 3, cells := 0, slots := 0, locals := 300 } : Room) (ab_X (ab_T (L_X6_allMissed f_X6_isFelt)) 4) := by
  refine ab_meth (ret := (some .int)) (L_X6_allMissed f_X6_isFelt) (by decide) rfl fun p e R s m args below meth c o C => ?_
  unfold L_X6_allMissed
  refine List.forall_mem_cons.mpr ⟨ok_iconst C (show decode cX6_allMissed 0 = .ok (.iconst 0, 1) from dk_at dq20_12 (i := 0) rfl) (by decide) rfl, ?_⟩
  refine List.forall_mem_cons.mpr ⟨ok_istore_n C (show decode cX6_allMissed 1 = .ok (.istore_n 2, 1) from dk_at dq20_12 (i := 1) rfl) rfl (by decide) rfl, ?_⟩
  refine List.forall_mem_cons.mpr ⟨ok_iconst C (show decode cX6_allMissed 2 = .ok (.iconst 0, 1) from dk_at dq20_12 (i := 2) rfl) (by decide) rfl, ?_⟩
  refine List.forall_mem_cons.mpr ⟨ok_istore_n C (show decode cX6_allMissed 3 = .ok (.istore_n 3, 1) from dk_at dq20_12 (i := 3) rfl) rfl (by decide) rfl, ?_⟩
  refine List.forall_mem_cons.mpr ⟨ok_iload_n C (show decode cX6_allMissed 4 = .ok (.iload_n 3, 1) from dk_at dq20_12 (i := 4) rfl) rfl rfl, ?_⟩
  refine List.forall_mem_cons.mpr ⟨ok_aload_n C (show decode cX6_allMissed 5 = .ok (.aload_n 1, 1) from dk_at dq20_12 (i := 5) rfl) rfl rfl, ?_⟩
  refine List.forall_mem_cons.mpr ⟨ok_getf C (wi_X7) rfl (by decide) kw_257 (show decode cX6_allMissed 6 = .ok (.getfield 78, 3) from dk_at dq20_12 (i := 6) rfl) rfl, ?_⟩
  refine List.forall_mem_cons.mpr ⟨ok_icmpge C (show decode cX6_allMissed 9 = .ok (.if_icmp .ge 29, 3) from dk_at dq20_12 (i := 7) rfl) (tg := 38) (by decide) rfl rfl, ?_⟩
  refine List.forall_mem_cons.mpr ⟨ok_aload_n C (show decode cX6_allMissed 12 = .ok (.aload_n 0, 1) from dk_at dq20_12 (i := 8) rfl) rfl rfl, ?_⟩
  refine List.forall_mem_cons.mpr ⟨ok_aload_n C (show decode cX6_allMissed 13 = .ok (.aload_n 1, 1) from dk_at dq20_12 (i := 9) rfl) rfl rfl, ?_⟩
  refine List.forall_mem_cons.mpr ⟨ok_iload_n C (show decode cX6_allMissed 14 = .ok (.iload_n 3, 1) from dk_at dq20_12 (i := 10) rfl) rfl rfl, ?_⟩
  refine List.forall_mem_cons.mpr ⟨ok_callV C h_X6_isFelt ⟨rfl, rfl⟩ rfl kw_672 kw_669 kw_671 kp_19 kw_6 rfl ds_X6_isFelt ⟨by decide, by decide⟩ (show decode cX6_allMissed 15 = .ok (.invokevirtual 81, 3) from dk_at dq20_12 (i := 11) rfl) rfl, ?_⟩
  refine List.forall_mem_cons.mpr ⟨ok_ifeq C (show decode cX6_allMissed 18 = .ok (.ifCond .eq 14, 3) from dk_at dq20_12 (i := 12) rfl) (tg := 32) (by decide) rfl rfl, ?_⟩
  refine List.forall_mem_cons.mpr ⟨ok_iload_n C (show decode cX6_allMissed 21 = .ok (.iload_n 2, 1) from dk_at dq20_12 (i := 13) rfl) rfl rfl, ?_⟩
  refine List.forall_mem_cons.mpr ⟨ok_iconst C (show decode cX6_allMissed 22 = .ok (.iconst 1, 1) from dk_at dq20_12 (i := 14) rfl) (by decide) rfl, ?_⟩
  refine List.forall_mem_cons.mpr ⟨ok_aload_n C (show decode cX6_allMissed 23 = .ok (.aload_n 1, 1) from dk_at dq20_12 (i := 15) rfl) rfl rfl, ?_⟩
  refine List.forall_mem_cons.mpr ⟨ok_getf C (wi_X7) rfl (by decide) kw_242 (show decode cX6_allMissed 24 = .ok (.getfield 69, 3) from dk_at dq20_13 (i := 0) rfl) rfl, ?_⟩
  refine List.forall_mem_cons.mpr ⟨ok_iload_n C (show decode cX6_allMissed 27 = .ok (.iload_n 3, 1) from dk_at dq20_13 (i := 1) rfl) rfl rfl, ?_⟩
  refine List.forall_mem_cons.mpr ⟨ok_iaload C (show decode cX6_allMissed 28 = .ok (.iaload, 1) from dk_at dq20_13 (i := 2) rfl) rfl, ?_⟩
  refine List.forall_mem_cons.mpr ⟨ok_ishl C (show decode cX6_allMissed 29 = .ok (.ishl, 1) from dk_at dq20_13 (i := 3) rfl) rfl, ?_⟩
  refine List.forall_mem_cons.mpr ⟨ok_ior C (show decode cX6_allMissed 30 = .ok (.ior, 1) from dk_at dq20_13 (i := 4) rfl) rfl, ?_⟩
  refine List.forall_mem_cons.mpr ⟨ok_istore_n C (show decode cX6_allMissed 31 = .ok (.istore_n 2, 1) from dk_at dq20_13 (i := 5) rfl) rfl (by decide) rfl, ?_⟩
  refine List.forall_mem_cons.mpr ⟨ok_iinc C (show decode cX6_allMissed 32 = .ok (.iinc 3 1, 3) from dk_at dq20_13 (i := 6) rfl) (by decide) (by decide) rfl, ?_⟩
  refine List.forall_mem_cons.mpr ⟨ok_goto C (show decode cX6_allMissed 35 = .ok (.goto (-31), 3) from dk_at dq20_13 (i := 7) rfl) (tg := 4) (by decide) rfl, ?_⟩
  refine List.forall_mem_cons.mpr ⟨ok_iload_n C (show decode cX6_allMissed 38 = .ok (.iload_n 2, 1) from dk_at dq20_13 (i := 8) rfl) rfl rfl, ?_⟩
  refine List.forall_mem_cons.mpr ⟨ok_ret C rfl (show decode cX6_allMissed 39 = .ok (.ireturn, 1) from dk_at dq20_13 (i := 9) rfl), ?_⟩
  exact fun _ h => absurd h List.not_mem_nil
def L_X10_slotOf : List (Nat × ab_A) := [
  (0, ab_nx 1 (ab_lit (.int 2))),
  (1, ab_nx 2 (ab_iload 0)),
  (2, ab_nx 3 (ab_bin (fun x y => x * y))),
  (3, ab_nx 4 (ab_iload 1)),
  (4, ab_nx 5 (ab_bin (fun x y => x + y))),
  (5, ab_ret 0 0)]
set_option maxRecDepth 100000 in
theorem dq20_14 : ([(0, .iconst 2, 1), (1, .iload_n 0, 1), (2, .imul, 1), (3, .iload_n 1, 1), (4, .iadd, 1), (5, .ireturn, 1)] : List (Nat × Instr × Nat)).all (fun q => decide (decode cX10_slotOf q.1 = .ok q.2)) = true := by decide +kernel
set_option maxRecDepth 100000 in
set_option maxHeartbeats 4000000 in
theorem M_X10_slotOf {l : Launch} {b : ab_B} {D : va_G} {cA : Nat → ClassId} : ab_M l b D ab_cl cA (ab_E0 b) yX10_slotOf (Cond.code yX10_slotOf cX10_slotOf 2 (some .int) :: ab_G) ({ frames := 1, cells := 0, slots := 0, locals := 100 } : Room) (ab_X (ab_T L_X10_slotOf) 2) := by
  refine ab_meth (ret := (some .int)) L_X10_slotOf (by decide) rfl fun p e R s m args below meth c o C => ?_
  unfold L_X10_slotOf
  refine List.forall_mem_cons.mpr ⟨ok_iconst C (show decode cX10_slotOf 0 = .ok (.iconst 2, 1) from dk_at dq20_14 (i := 0) rfl) (by decide) rfl, ?_⟩
  refine List.forall_mem_cons.mpr ⟨ok_iload_n C (show decode cX10_slotOf 1 = .ok (.iload_n 0, 1) from dk_at dq20_14 (i := 1) rfl) rfl rfl, ?_⟩
  refine List.forall_mem_cons.mpr ⟨ok_imul C (show decode cX10_slotOf 2 = .ok (.imul, 1) from dk_at dq20_14 (i := 2) rfl) rfl, ?_⟩
  refine List.forall_mem_cons.mpr ⟨ok_iload_n C (show decode cX10_slotOf 3 = .ok (.iload_n 1, 1) from dk_at dq20_14 (i := 3) rfl) rfl rfl, ?_⟩
  refine List.forall_mem_cons.mpr ⟨ok_iadd C (show decode cX10_slotOf 4 = .ok (.iadd, 1) from dk_at dq20_14 (i := 4) rfl) rfl, ?_⟩
  refine List.forall_mem_cons.mpr ⟨ok_ret C rfl (show decode cX10_slotOf 5 = .ok (.ireturn, 1) from dk_at dq20_14 (i := 5) rfl), ?_⟩
  exact fun _ h => absurd h List.not_mem_nil
def L_X7_amountOf : List (Nat × ab_A) := [
  (0, ab_nx 1 (ab_aload 0)),
  (1, ab_nx 4 (ab_getf 7 3)),
  (4, ab_nx 5 (ab_iload 1)),
  (5, ab_nx 7 (ab_lit (.int 12))),
  (7, ab_nx 8 (ab_bin (fun x y => x * y))),
  (8, ab_nx 9 (ab_iload 2)),
  (9, ab_nx 10 (ab_bin (fun x y => x + y))),
  (10, ab_nx 11 (ab_ald 1)),
  (11, ab_ret 0 0)]
set_option maxRecDepth 100000 in
theorem dq20_15 : ([(0, .aload_n 0, 1), (1, .getfield 22, 3), (4, .iload_n 1, 1), (5, .bipush 12, 2), (7, .imul, 1), (8, .iload_n 2, 1), (9, .iadd, 1), (10, .iaload, 1), (11, .ireturn, 1)] : List (Nat × Instr × Nat)).all (fun q => decide (decode cX7_amountOf q.1 = .ok q.2)) = true := by decide +kernel
set_option maxRecDepth 100000 in
set_option maxHeartbeats 4000000 in
theorem M_X7_amountOf {l : Launch} {b : ab_B} {D : va_G} {cA : Nat → ClassId} : ab_M l b D ab_cl cA (ab_E0 b) yX7_amountOf (Cond.code yX7_amountOf cX7_amountOf 3 (some .int) :: ab_G) ({ frames := 1, cells := 0, slots := 0, locals := 100 } : Room) (ab_X (ab_T L_X7_amountOf) 3) := by
  refine ab_meth (ret := (some .int)) L_X7_amountOf (by decide) rfl fun p e R s m args below meth c o C => ?_
  unfold L_X7_amountOf
  refine List.forall_mem_cons.mpr ⟨ok_aload_n C (show decode cX7_amountOf 0 = .ok (.aload_n 0, 1) from dk_at dq20_15 (i := 0) rfl) rfl rfl, ?_⟩
  refine List.forall_mem_cons.mpr ⟨ok_getf C (wi_X7) rfl (by decide) kw_238 (show decode cX7_amountOf 1 = .ok (.getfield 22, 3) from dk_at dq20_15 (i := 1) rfl) rfl, ?_⟩
  refine List.forall_mem_cons.mpr ⟨ok_iload_n C (show decode cX7_amountOf 4 = .ok (.iload_n 1, 1) from dk_at dq20_15 (i := 2) rfl) rfl rfl, ?_⟩
  refine List.forall_mem_cons.mpr ⟨ok_bipush C (show decode cX7_amountOf 5 = .ok (.bipush 12, 2) from dk_at dq20_15 (i := 3) rfl) (by decide) rfl, ?_⟩
  refine List.forall_mem_cons.mpr ⟨ok_imul C (show decode cX7_amountOf 7 = .ok (.imul, 1) from dk_at dq20_15 (i := 4) rfl) rfl, ?_⟩
  refine List.forall_mem_cons.mpr ⟨ok_iload_n C (show decode cX7_amountOf 8 = .ok (.iload_n 2, 1) from dk_at dq20_15 (i := 5) rfl) rfl rfl, ?_⟩
  refine List.forall_mem_cons.mpr ⟨ok_iadd C (show decode cX7_amountOf 9 = .ok (.iadd, 1) from dk_at dq20_15 (i := 6) rfl) rfl, ?_⟩
  refine List.forall_mem_cons.mpr ⟨ok_iaload C (show decode cX7_amountOf 10 = .ok (.iaload, 1) from dk_at dq20_15 (i := 7) rfl) rfl, ?_⟩
  refine List.forall_mem_cons.mpr ⟨ok_ret C rfl (show decode cX7_amountOf 11 = .ok (.ireturn, 1) from dk_at dq20_15 (i := 8) rfl), ?_⟩
  exact fun _ h => absurd h List.not_mem_nil
def L_X6_lackAt (f_X7_amountOf : List Value → ab_H → Option ab_O) : List (Nat × ab_A) := [
  (0, ab_nx 1 (ab_lit (.int 0))),
  (1, ab_nx 2 (ab_aload 1)),
  (2, ab_nx 3 (ab_lit (.int 1))),
  (3, ab_nx 4 (ab_iload 2)),
  (4, ab_nx 7 (ab_callV 3 7 f_X7_amountOf 0 0 0 0)),
  (7, ab_nx 8 (ab_aload 0)),
  (8, ab_nx 11 (ab_getf 6 0)),
  (11, ab_nx 12 (ab_iload 2)),
  (12, ab_nx 13 (ab_ald 1)),
  (13, ab_nx 14 (ab_bin (fun x y => x - y))),
  (14, ab_nx 17 (ab_mm ab_max 0 0)),
  (17, ab_ret 0 0)]
set_option maxRecDepth 100000 in
theorem dq20_16 : ([(0, .iconst 0, 1), (1, .aload_n 1, 1), (2, .iconst 1, 1), (3, .iload_n 2, 1), (4, .invokevirtual 33, 3), (7, .aload_n 0, 1), (8, .getfield 9, 3), (11, .iload_n 2, 1), (12, .iaload, 1), (13, .isub, 1), (14, .invokestatic 58, 3), (17, .ireturn, 1)] : List (Nat × Instr × Nat)).all (fun q => decide (decode cX6_lackAt q.1 = .ok q.2)) = true := by decide +kernel
set_option maxRecDepth 100000 in
set_option maxHeartbeats 4000000 in
theorem M_X6_lackAt {l : Launch} {b : ab_B} {D : va_G} {cA : Nat → ClassId} {f_X7_amountOf : List Value → ab_H → Option ab_O} (h_X7_amountOf : ab_M l b D ab_cl cA (ab_E0 b) yX7_amountOf (Cond.code yX7_amountOf cX7_amountOf 3 (some .int) :: ab_G) ({ frames := 1, cells := 0, slots := 0, locals := 100 } : Room) f_X7_amountOf) : ab_M l b D ab_cl cA (ab_E0 b) yX6_lackAt (Cond.code yX6_lackAt cX6_lackAt 3 (some .int) :: ab_G) ({ frames := 2, cells := 0, slots := 0, locals := 200 } : Room) (ab_X (ab_T (L_X6_lackAt f_X7_amountOf)) 3) := by
  refine ab_meth (ret := (some .int)) (L_X6_lackAt f_X7_amountOf) (by decide) rfl fun p e R s m args below meth c o C => ?_
  unfold L_X6_lackAt
  refine List.forall_mem_cons.mpr ⟨ok_iconst C (show decode cX6_lackAt 0 = .ok (.iconst 0, 1) from dk_at dq20_16 (i := 0) rfl) (by decide) rfl, ?_⟩
  refine List.forall_mem_cons.mpr ⟨ok_aload_n C (show decode cX6_lackAt 1 = .ok (.aload_n 1, 1) from dk_at dq20_16 (i := 1) rfl) rfl rfl, ?_⟩
  refine List.forall_mem_cons.mpr ⟨ok_iconst C (show decode cX6_lackAt 2 = .ok (.iconst 1, 1) from dk_at dq20_16 (i := 2) rfl) (by decide) rfl, ?_⟩
  refine List.forall_mem_cons.mpr ⟨ok_iload_n C (show decode cX6_lackAt 3 = .ok (.iload_n 2, 1) from dk_at dq20_16 (i := 3) rfl) rfl rfl, ?_⟩
  refine List.forall_mem_cons.mpr ⟨ok_callV C h_X7_amountOf ⟨rfl, rfl⟩ rfl kw_576 kw_573 kw_574 kw_575 kw_9 rfl ds_X7_amountOf ⟨by decide, by decide⟩ (show decode cX6_lackAt 4 = .ok (.invokevirtual 33, 3) from dk_at dq20_16 (i := 4) rfl) rfl, ?_⟩
  refine List.forall_mem_cons.mpr ⟨ok_aload_n C (show decode cX6_lackAt 7 = .ok (.aload_n 0, 1) from dk_at dq20_16 (i := 5) rfl) rfl rfl, ?_⟩
  refine List.forall_mem_cons.mpr ⟨ok_getf C (wi_X6) rfl (by decide) kw_142 (show decode cX6_lackAt 8 = .ok (.getfield 9, 3) from dk_at dq20_16 (i := 6) rfl) rfl, ?_⟩
  refine List.forall_mem_cons.mpr ⟨ok_iload_n C (show decode cX6_lackAt 11 = .ok (.iload_n 2, 1) from dk_at dq20_16 (i := 7) rfl) rfl rfl, ?_⟩
  refine List.forall_mem_cons.mpr ⟨ok_iaload C (show decode cX6_lackAt 12 = .ok (.iaload, 1) from dk_at dq20_16 (i := 8) rfl) rfl, ?_⟩
  refine List.forall_mem_cons.mpr ⟨ok_isub C (show decode cX6_lackAt 13 = .ok (.isub, 1) from dk_at dq20_16 (i := 9) rfl) rfl, ?_⟩
  refine List.forall_mem_cons.mpr ⟨ok_mmax C kw_606 kw_607 kw_16 kw_608 ⟨by decide, by decide⟩ (show decode cX6_lackAt 14 = .ok (.invokestatic 58, 3) from dk_at dq20_16 (i := 10) rfl) rfl, ?_⟩
  refine List.forall_mem_cons.mpr ⟨ok_ret C rfl (show decode cX6_lackAt 17 = .ok (.ireturn, 1) from dk_at dq20_16 (i := 11) rfl), ?_⟩
  exact fun _ h => absurd h List.not_mem_nil
def L_X1_plan (f_X6_ferryShore : List Value → ab_H → Option ab_O) (f_X6_allMissed : List Value → ab_H → Option ab_O) (f_X10_slotOf : List Value → ab_H → Option ab_O) (f_X6_lackAt : List Value → ab_H → Option ab_O) (f_X1_amountMoved : List Value → ab_H → Option ab_O) : List (Nat × ab_A) := [
  (0, ab_nx 1 (ab_aload 2)),
  (1, ab_nx 4 (ab_callV 1 6 f_X6_ferryShore 0 0 0 0)),
  (4, ab_nx 5 (ab_istore 3)),
  (5, ab_nx 6 (ab_aload 2)),
  (6, ab_nx 9 (ab_getf 6 7)),
  (9, ab_nx 12 (ab_lit (.int 400))),
  (12, ab_icmp 15 22 (fun x y => decide (y ≤ x))),
  (15, ab_nx 16 (ab_aload 1)),
  (16, ab_nx 19 (ab_getf 7 7)),
  (19, ab_goto 23),
  (22, ab_nx 23 (ab_lit (.int 0))),
  (23, ab_nx 25 (ab_istore 4)),
  (25, ab_nx 26 (ab_aload 0)),
  (26, ab_nx 27 (ab_lit (.int 0))),
  (27, ab_nx 30 (ab_putf 1 3 0)),
  (30, ab_nx 31 (ab_aload 0)),
  (31, ab_nx 32 (ab_lit (.int 0))),
  (32, ab_nx 35 (ab_putf 1 2 0)),
  (35, ab_nx 36 (ab_aload 2)),
  (36, ab_nx 37 (ab_aload 1)),
  (37, ab_nx 40 (ab_callV 2 6 f_X6_allMissed 0 0 0 0)),
  (40, ab_nx 42 (ab_istore 5)),
  (42, ab_nx 43 (ab_lit (.int 0))),
  (43, ab_nx 45 (ab_istore 6)),
  (45, ab_nx 47 (ab_iload 6)),
  (47, ab_nx 48 (ab_aload 1)),
  (48, ab_nx 51 (ab_getf 7 9)),
  (51, ab_icmp 54 115 (fun x y => decide (y ≤ x))),
  (54, ab_nx 56 (ab_iload 4)),
  (56, ab_nx 57 (ab_aload 0)),
  (57, ab_nx 60 (ab_getf 1 3)),
  (60, ab_nx 61 (ab_bin (fun x y => x - y))),
  (61, ab_nx 62 (ab_lit (.int 2))),
  (62, ab_icmp 65 115 (fun x y => decide (x < y))),
  (65, ab_nx 66 (ab_aload 2)),
  (66, ab_nx 69 (ab_getf 6 4)),
  (69, ab_nx 71 (ab_iload 6)),
  (71, ab_nx 72 (ab_ald 1)),
  (72, ab_nx 73 (ab_iload 3)),
  (73, ab_icmp 76 109 (fun x y => !decide (x = y))),
  (76, ab_nx 78 (ab_iload 5)),
  (78, ab_nx 79 (ab_lit (.int 1))),
  (79, ab_nx 81 (ab_iload 6)),
  (81, ab_nx 82 (ab_bin (fun x y => x <<< (y &&& 31)))),
  (82, ab_nx 83 (ab_bin (fun x y => x &&& y))),
  (83, ab_if 86 109 (fun x => decide (x = 0))),
  (86, ab_nx 87 (ab_aload 0)),
  (87, ab_nx 88 ab_dup),
  (88, ab_nx 91 (ab_getf 1 2)),
  (91, ab_nx 92 (ab_lit (.int 1))),
  (92, ab_nx 94 (ab_iload 6)),
  (94, ab_nx 95 (ab_bin (fun x y => x <<< (y &&& 31)))),
  (95, ab_nx 96 (ab_bin (fun x y => x ||| y))),
  (96, ab_nx 99 (ab_putf 1 2 0)),
  (99, ab_nx 100 (ab_aload 0)),
  (100, ab_nx 101 ab_dup),
  (101, ab_nx 104 (ab_getf 1 3)),
  (104, ab_nx 105 (ab_lit (.int 2))),
  (105, ab_nx 106 (ab_bin (fun x y => x + y))),
  (106, ab_nx 109 (ab_putf 1 3 0)),
  (109, ab_nx 112 (ab_iinc 6 1)),
  (112, ab_goto 45),
  (115, ab_nx 116 (ab_lit (.int 0))),
  (116, ab_nx 118 (ab_istore 6)),
  (118, ab_nx 120 (ab_iload 6)),
  (120, ab_nx 121 (ab_aload 1)),
  (121, ab_nx 124 (ab_getf 7 8)),
  (124, ab_icmp 127 208 (fun x y => decide (y ≤ x))),
  (127, ab_nx 128 (ab_aload 2)),
  (128, ab_nx 129 (ab_aload 1)),
  (129, ab_nx 131 (ab_iload 6)),
  (131, ab_nx 132 (ab_lit (.int 1))),
  (132, ab_nx 133 (ab_iload 3)),
  (133, ab_nx 134 (ab_bin (fun x y => x - y))),
  (134, ab_nx 137 (ab_call 2 f_X10_slotOf 0 0 0 0)),
  (137, ab_nx 140 (ab_callV 3 6 f_X6_lackAt 0 0 0 0)),
  (140, ab_nx 142 (ab_istore 7)),
  (142, ab_nx 143 (ab_aload 0)),
  (143, ab_nx 146 (ab_getf 1 1)),
  (146, ab_nx 148 (ab_iload 6)),
  (148, ab_nx 150 (ab_iload 4)),
  (150, ab_nx 151 (ab_aload 0)),
  (151, ab_nx 154 (ab_getf 1 3)),
  (154, ab_nx 155 (ab_bin (fun x y => x - y))),
  (155, ab_nx 156 (ab_ast 1)),
  (156, ab_nx 157 (ab_aload 0)),
  (157, ab_nx 160 (ab_getf 1 0)),
  (160, ab_nx 162 (ab_iload 6)),
  (162, ab_nx 163 (ab_aload 2)),
  (163, ab_nx 166 (ab_getf 6 0)),
  (166, ab_nx 168 (ab_iload 6)),
  (168, ab_nx 169 (ab_iload 3)),
  (169, ab_nx 172 (ab_call 2 f_X10_slotOf 0 0 0 0)),
  (172, ab_nx 173 (ab_ald 1)),
  (173, ab_nx 175 (ab_iload 7)),
  (175, ab_nx 176 (ab_aload 0)),
  (176, ab_nx 179 (ab_getf 1 1)),
  (179, ab_nx 181 (ab_iload 6)),
  (181, ab_nx 182 (ab_ald 1)),
  (182, ab_nx 185 (ab_call 3 f_X1_amountMoved 0 0 0 0)),
  (185, ab_nx 186 (ab_ast 1)),
  (186, ab_nx 187 (ab_aload 0)),
  (187, ab_nx 188 ab_dup),
  (188, ab_nx 191 (ab_getf 1 3)),
  (191, ab_nx 192 (ab_aload 0)),
  (192, ab_nx 195 (ab_getf 1 0)),
  (195, ab_nx 197 (ab_iload 6)),
  (197, ab_nx 198 (ab_ald 1)),
  (198, ab_nx 199 (ab_bin (fun x y => x + y))),
  (199, ab_nx 202 (ab_putf 1 3 0)),
  (202, ab_nx 205 (ab_iinc 6 1)),
  (205, ab_goto 118),
  (208, ab_vret 0 0)]
set_option maxRecDepth 100000 in
theorem dq20_17 : ([(0, .aload_n 2, 1), (1, .invokevirtual 27, 3), (4, .istore_n 3, 1), (5, .aload_n 2, 1), (6, .getfield 33, 3), (9, .sipush 400, 3), (12, .if_icmp .ge 10, 3), (15, .aload_n 1, 1), (16, .getfield 37, 3), (19, .goto 4, 3), (22, .iconst 0, 1), (23, .istore 4, 2), (25, .aload_n 0, 1), (26, .iconst 0, 1), (27, .putfield 42, 3), (30, .aload_n 0, 1)] : List (Nat × Instr × Nat)).all (fun q => decide (decode cX1_plan q.1 = .ok q.2)) = true := by decide +kernel
set_option maxRecDepth 100000 in
theorem dq20_18 : ([(31, .iconst 0, 1), (32, .putfield 45, 3), (35, .aload_n 2, 1), (36, .aload_n 1, 1), (37, .invokevirtual 48, 3), (40, .istore 5, 2), (42, .iconst 0, 1), (43, .istore 6, 2), (45, .iload 6, 2), (47, .aload_n 1, 1), (48, .getfield 52, 3), (51, .if_icmp .ge 64, 3), (54, .iload 4, 2), (56, .aload_n 0, 1), (57, .getfield 42, 3), (60, .isub, 1)] : List (Nat × Instr × Nat)).all (fun q => decide (decode cX1_plan q.1 = .ok q.2)) = true := by decide +kernel
set_option maxRecDepth 100000 in
theorem dq20_19 : ([(61, .iconst 2, 1), (62, .if_icmp .lt 53, 3), (65, .aload_n 2, 1), (66, .getfield 55, 3), (69, .iload 6, 2), (71, .iaload, 1), (72, .iload_n 3, 1), (73, .if_icmp .ne 36, 3), (76, .iload 5, 2), (78, .iconst 1, 1), (79, .iload 6, 2), (81, .ishl, 1), (82, .iand, 1), (83, .ifCond .eq 26, 3), (86, .aload_n 0, 1), (87, .dup, 1)] : List (Nat × Instr × Nat)).all (fun q => decide (decode cX1_plan q.1 = .ok q.2)) = true := by decide +kernel
set_option maxRecDepth 100000 in
theorem dq20_20 : ([(88, .getfield 45, 3), (91, .iconst 1, 1), (92, .iload 6, 2), (94, .ishl, 1), (95, .ior, 1), (96, .putfield 45, 3), (99, .aload_n 0, 1), (100, .dup, 1), (101, .getfield 42, 3), (104, .iconst 2, 1), (105, .iadd, 1), (106, .putfield 42, 3), (109, .iinc 6 1, 3), (112, .goto (-67), 3), (115, .iconst 0, 1), (116, .istore 6, 2)] : List (Nat × Instr × Nat)).all (fun q => decide (decode cX1_plan q.1 = .ok q.2)) = true := by decide +kernel
set_option maxRecDepth 100000 in
theorem dq20_21 : ([(118, .iload 6, 2), (120, .aload_n 1, 1), (121, .getfield 58, 3), (124, .if_icmp .ge 84, 3), (127, .aload_n 2, 1), (128, .aload_n 1, 1), (129, .iload 6, 2), (131, .iconst 1, 1), (132, .iload_n 3, 1), (133, .isub, 1), (134, .invokestatic 61, 3), (137, .invokevirtual 64, 3), (140, .istore 7, 2), (142, .aload_n 0, 1), (143, .getfield 15, 3), (146, .iload 6, 2)] : List (Nat × Instr × Nat)).all (fun q => decide (decode cX1_plan q.1 = .ok q.2)) = true := by decide +kernel
set_option maxRecDepth 100000 in
theorem dq20_22 : ([(148, .iload 4, 2), (150, .aload_n 0, 1), (151, .getfield 42, 3), (154, .isub, 1), (155, .iastore, 1), (156, .aload_n 0, 1), (157, .getfield 9, 3), (160, .iload 6, 2), (162, .aload_n 2, 1), (163, .getfield 68, 3), (166, .iload 6, 2), (168, .iload_n 3, 1), (169, .invokestatic 61, 3), (172, .iaload, 1), (173, .iload 7, 2), (175, .aload_n 0, 1)] : List (Nat × Instr × Nat)).all (fun q => decide (decode cX1_plan q.1 = .ok q.2)) = true := by decide +kernel
set_option maxRecDepth 100000 in
theorem dq20_23 : ([(176, .getfield 15, 3), (179, .iload 6, 2), (181, .iaload, 1), (182, .invokestatic 71, 3), (185, .iastore, 1), (186, .aload_n 0, 1), (187, .dup, 1), (188, .getfield 42, 3), (191, .aload_n 0, 1), (192, .getfield 9, 3), (195, .iload 6, 2), (197, .iaload, 1), (198, .iadd, 1), (199, .putfield 42, 3), (202, .iinc 6 1, 3), (205, .goto (-87), 3)] : List (Nat × Instr × Nat)).all (fun q => decide (decode cX1_plan q.1 = .ok q.2)) = true := by decide +kernel
set_option maxRecDepth 100000 in
theorem dq20_24 : ([(208, .return_, 1)] : List (Nat × Instr × Nat)).all (fun q => decide (decode cX1_plan q.1 = .ok q.2)) = true := by decide +kernel
set_option maxRecDepth 100000 in
set_option maxHeartbeats 4000000 in
theorem M_X1_plan {l : Launch} {b : ab_B} {D : va_G} {cA : Nat → ClassId} {f_X6_ferryShore : List Value → ab_H → Option ab_O} (h_X6_ferryShore : ab_M l b D ab_cl cA (ab_E0 b) yX6_ferryShore (Cond.code yX6_ferryShore cX6_ferryShore 1 (some .int) :: ab_G) ({ frames := 1, cells := 0, slots := 0, locals := 100 } : Room) f_X6_ferryShore) {f_X6_allMissed : List Value → ab_H → Option ab_O} (h_X6_allMissed : ab_M l b D ab_cl cA (ab_E0 b) yX6_allMissed (Cond.code yX6_allMissed cX6_allMissed 4 (some .int) :: ab_G) ({ frames := 3, cells := 0, slots := 0, locals := 300 } : Room) f_X6_allMissed) {f_X10_slotOf : List Value → ab_H → Option ab_O} (h_X10_slotOf : ab_M l b D ab_cl cA (ab_E0 b) yX10_slotOf (Cond.code yX10_slotOf cX10_slotOf 2 (some .int) :: ab_G) ({ frames := 1, cells := 0, slots := 0, locals := 100 } : Room) f_X10_slotOf) {f_X6_lackAt : List Value → ab_H → Option ab_O} (h_X6_lackAt : ab_M l b D ab_cl cA (ab_E0 b) yX6_lackAt (Cond.code yX6_lackAt cX6_lackAt 3 (some .int) :: ab_G) ({ frames := 2, cells := 0, slots := 0, locals := 200 } : Room) f_X6_lackAt) {f_X1_amountMoved : List Value → ab_H → Option ab_O} (h_X1_amountMoved : ab_M l b D ab_cl cA (ab_E0 b) yX1_amountMoved (Cond.code yX1_amountMoved cX1_amountMoved 3 (some .int) :: ab_G) ({ frames := 2, cells := 0, slots := 0, locals := 200 } : Room) f_X1_amountMoved) : ab_M l b D ab_cl cA (ab_E0 b) yX1_plan (Cond.code yX1_plan cX1_plan 8 none :: ab_G) ({ frames := 4, cells := 0, slots := 0, locals := 400 } : Room) (ab_X (ab_T (L_X1_plan f_X6_ferryShore f_X6_allMissed f_X10_slotOf f_X6_lackAt f_X1_amountMoved)) 8) := by
  refine ab_meth (ret := none) (L_X1_plan f_X6_ferryShore f_X6_allMissed f_X10_slotOf f_X6_lackAt f_X1_amountMoved) (by decide) rfl fun p e R s m args below meth c o C => ?_
  unfold L_X1_plan
  refine List.forall_mem_cons.mpr ⟨ok_aload_n C (show decode cX1_plan 0 = .ok (.aload_n 2, 1) from dk_at dq20_17 (i := 0) rfl) rfl rfl, ?_⟩
  refine List.forall_mem_cons.mpr ⟨ok_callV C h_X6_ferryShore ⟨rfl, rfl⟩ rfl kw_644 kw_756 kw_642 kw_643 kw_6 rfl ds_X6_ferryShore ⟨by decide, by decide⟩ (show decode cX1_plan 1 = .ok (.invokevirtual 27, 3) from dk_at dq20_17 (i := 1) rfl) rfl, ?_⟩
  refine List.forall_mem_cons.mpr ⟨ok_istore_n C (show decode cX1_plan 4 = .ok (.istore_n 3, 1) from dk_at dq20_17 (i := 2) rfl) rfl (by decide) rfl, ?_⟩
  refine List.forall_mem_cons.mpr ⟨ok_aload_n C (show decode cX1_plan 5 = .ok (.aload_n 2, 1) from dk_at dq20_17 (i := 3) rfl) rfl rfl, ?_⟩
  refine List.forall_mem_cons.mpr ⟨ok_getf C (wi_X6) rfl (by decide) kw_163 (show decode cX1_plan 6 = .ok (.getfield 33, 3) from dk_at dq20_17 (i := 4) rfl) rfl, ?_⟩
  refine List.forall_mem_cons.mpr ⟨ok_sipush C (show decode cX1_plan 9 = .ok (.sipush 400, 3) from dk_at dq20_17 (i := 5) rfl) (by decide) rfl, ?_⟩
  refine List.forall_mem_cons.mpr ⟨ok_icmpge C (show decode cX1_plan 12 = .ok (.if_icmp .ge 10, 3) from dk_at dq20_17 (i := 6) rfl) (tg := 22) (by decide) rfl rfl, ?_⟩
  refine List.forall_mem_cons.mpr ⟨ok_aload_n C (show decode cX1_plan 15 = .ok (.aload_n 1, 1) from dk_at dq20_17 (i := 7) rfl) rfl rfl, ?_⟩
  refine List.forall_mem_cons.mpr ⟨ok_getf C (wi_X7) rfl (by decide) kw_246 (show decode cX1_plan 16 = .ok (.getfield 37, 3) from dk_at dq20_17 (i := 8) rfl) rfl, ?_⟩
  refine List.forall_mem_cons.mpr ⟨ok_goto C (show decode cX1_plan 19 = .ok (.goto 4, 3) from dk_at dq20_17 (i := 9) rfl) (tg := 23) (by decide) rfl, ?_⟩
  refine List.forall_mem_cons.mpr ⟨ok_iconst C (show decode cX1_plan 22 = .ok (.iconst 0, 1) from dk_at dq20_17 (i := 10) rfl) (by decide) rfl, ?_⟩
  refine List.forall_mem_cons.mpr ⟨ok_istore C (show decode cX1_plan 23 = .ok (.istore 4, 2) from dk_at dq20_17 (i := 11) rfl) (by decide) rfl, ?_⟩
  refine List.forall_mem_cons.mpr ⟨ok_aload_n C (show decode cX1_plan 25 = .ok (.aload_n 0, 1) from dk_at dq20_17 (i := 12) rfl) rfl rfl, ?_⟩
  refine List.forall_mem_cons.mpr ⟨ok_iconst C (show decode cX1_plan 26 = .ok (.iconst 0, 1) from dk_at dq20_17 (i := 13) rfl) (by decide) rfl, ?_⟩
  refine List.forall_mem_cons.mpr ⟨ok_putf C (wi_X1) tyX1 tyX1_ok nmX1 rfl (by decide) kw_111 (Or.inl rfl) (Or.inl ⟨rfl, rfl⟩) (show decode cX1_plan 27 = .ok (.putfield 42, 3) from dk_at dq20_17 (i := 14) rfl) rfl, ?_⟩
  refine List.forall_mem_cons.mpr ⟨ok_aload_n C (show decode cX1_plan 30 = .ok (.aload_n 0, 1) from dk_at dq20_17 (i := 15) rfl) rfl rfl, ?_⟩
  refine List.forall_mem_cons.mpr ⟨ok_iconst C (show decode cX1_plan 31 = .ok (.iconst 0, 1) from dk_at dq20_18 (i := 0) rfl) (by decide) rfl, ?_⟩
  refine List.forall_mem_cons.mpr ⟨ok_putf C (wi_X1) tyX1 tyX1_ok nmX1 rfl (by decide) kw_109 (Or.inl rfl) (Or.inl ⟨rfl, rfl⟩) (show decode cX1_plan 32 = .ok (.putfield 45, 3) from dk_at dq20_18 (i := 1) rfl) rfl, ?_⟩
  refine List.forall_mem_cons.mpr ⟨ok_aload_n C (show decode cX1_plan 35 = .ok (.aload_n 2, 1) from dk_at dq20_18 (i := 2) rfl) rfl rfl, ?_⟩
  refine List.forall_mem_cons.mpr ⟨ok_aload_n C (show decode cX1_plan 36 = .ok (.aload_n 1, 1) from dk_at dq20_18 (i := 3) rfl) rfl rfl, ?_⟩
  refine List.forall_mem_cons.mpr ⟨ok_callV C h_X6_allMissed ⟨rfl, rfl⟩ rfl kw_760 kw_757 kw_758 kw_759 kw_6 rfl ds_X6_allMissed ⟨by decide, by decide⟩ (show decode cX1_plan 37 = .ok (.invokevirtual 48, 3) from dk_at dq20_18 (i := 4) rfl) rfl, ?_⟩
  refine List.forall_mem_cons.mpr ⟨ok_istore C (show decode cX1_plan 40 = .ok (.istore 5, 2) from dk_at dq20_18 (i := 5) rfl) (by decide) rfl, ?_⟩
  refine List.forall_mem_cons.mpr ⟨ok_iconst C (show decode cX1_plan 42 = .ok (.iconst 0, 1) from dk_at dq20_18 (i := 6) rfl) (by decide) rfl, ?_⟩
  refine List.forall_mem_cons.mpr ⟨ok_istore C (show decode cX1_plan 43 = .ok (.istore 6, 2) from dk_at dq20_18 (i := 7) rfl) (by decide) rfl, ?_⟩
  refine List.forall_mem_cons.mpr ⟨ok_iload C (show decode cX1_plan 45 = .ok (.iload 6, 2) from dk_at dq20_18 (i := 8) rfl) rfl, ?_⟩
  refine List.forall_mem_cons.mpr ⟨ok_aload_n C (show decode cX1_plan 47 = .ok (.aload_n 1, 1) from dk_at dq20_18 (i := 9) rfl) rfl rfl, ?_⟩
  refine List.forall_mem_cons.mpr ⟨ok_getf C (wi_X7) rfl (by decide) kw_252 (show decode cX1_plan 48 = .ok (.getfield 52, 3) from dk_at dq20_18 (i := 10) rfl) rfl, ?_⟩
  refine List.forall_mem_cons.mpr ⟨ok_icmpge C (show decode cX1_plan 51 = .ok (.if_icmp .ge 64, 3) from dk_at dq20_18 (i := 11) rfl) (tg := 115) (by decide) rfl rfl, ?_⟩
  refine List.forall_mem_cons.mpr ⟨ok_iload C (show decode cX1_plan 54 = .ok (.iload 4, 2) from dk_at dq20_18 (i := 12) rfl) rfl, ?_⟩
  refine List.forall_mem_cons.mpr ⟨ok_aload_n C (show decode cX1_plan 56 = .ok (.aload_n 0, 1) from dk_at dq20_18 (i := 13) rfl) rfl rfl, ?_⟩
  refine List.forall_mem_cons.mpr ⟨ok_getf C (wi_X1) rfl (by decide) kw_111 (show decode cX1_plan 57 = .ok (.getfield 42, 3) from dk_at dq20_18 (i := 14) rfl) rfl, ?_⟩
  refine List.forall_mem_cons.mpr ⟨ok_isub C (show decode cX1_plan 60 = .ok (.isub, 1) from dk_at dq20_18 (i := 15) rfl) rfl, ?_⟩
  refine List.forall_mem_cons.mpr ⟨ok_iconst C (show decode cX1_plan 61 = .ok (.iconst 2, 1) from dk_at dq20_19 (i := 0) rfl) (by decide) rfl, ?_⟩
  refine List.forall_mem_cons.mpr ⟨ok_icmplt C (show decode cX1_plan 62 = .ok (.if_icmp .lt 53, 3) from dk_at dq20_19 (i := 1) rfl) (tg := 115) (by decide) rfl rfl, ?_⟩
  refine List.forall_mem_cons.mpr ⟨ok_aload_n C (show decode cX1_plan 65 = .ok (.aload_n 2, 1) from dk_at dq20_19 (i := 2) rfl) rfl rfl, ?_⟩
  refine List.forall_mem_cons.mpr ⟨ok_getf C (wi_X6) rfl (by decide) kw_156 (show decode cX1_plan 66 = .ok (.getfield 55, 3) from dk_at dq20_19 (i := 3) rfl) rfl, ?_⟩
  refine List.forall_mem_cons.mpr ⟨ok_iload C (show decode cX1_plan 69 = .ok (.iload 6, 2) from dk_at dq20_19 (i := 4) rfl) rfl, ?_⟩
  refine List.forall_mem_cons.mpr ⟨ok_iaload C (show decode cX1_plan 71 = .ok (.iaload, 1) from dk_at dq20_19 (i := 5) rfl) rfl, ?_⟩
  refine List.forall_mem_cons.mpr ⟨ok_iload_n C (show decode cX1_plan 72 = .ok (.iload_n 3, 1) from dk_at dq20_19 (i := 6) rfl) rfl rfl, ?_⟩
  refine List.forall_mem_cons.mpr ⟨ok_icmpne C (show decode cX1_plan 73 = .ok (.if_icmp .ne 36, 3) from dk_at dq20_19 (i := 7) rfl) (tg := 109) (by decide) rfl rfl, ?_⟩
  refine List.forall_mem_cons.mpr ⟨ok_iload C (show decode cX1_plan 76 = .ok (.iload 5, 2) from dk_at dq20_19 (i := 8) rfl) rfl, ?_⟩
  refine List.forall_mem_cons.mpr ⟨ok_iconst C (show decode cX1_plan 78 = .ok (.iconst 1, 1) from dk_at dq20_19 (i := 9) rfl) (by decide) rfl, ?_⟩
  refine List.forall_mem_cons.mpr ⟨ok_iload C (show decode cX1_plan 79 = .ok (.iload 6, 2) from dk_at dq20_19 (i := 10) rfl) rfl, ?_⟩
  refine List.forall_mem_cons.mpr ⟨ok_ishl C (show decode cX1_plan 81 = .ok (.ishl, 1) from dk_at dq20_19 (i := 11) rfl) rfl, ?_⟩
  refine List.forall_mem_cons.mpr ⟨ok_iand C (show decode cX1_plan 82 = .ok (.iand, 1) from dk_at dq20_19 (i := 12) rfl) rfl, ?_⟩
  refine List.forall_mem_cons.mpr ⟨ok_ifeq C (show decode cX1_plan 83 = .ok (.ifCond .eq 26, 3) from dk_at dq20_19 (i := 13) rfl) (tg := 109) (by decide) rfl rfl, ?_⟩
  refine List.forall_mem_cons.mpr ⟨ok_aload_n C (show decode cX1_plan 86 = .ok (.aload_n 0, 1) from dk_at dq20_19 (i := 14) rfl) rfl rfl, ?_⟩
  refine List.forall_mem_cons.mpr ⟨ok_dup C (show decode cX1_plan 87 = .ok (.dup, 1) from dk_at dq20_19 (i := 15) rfl) rfl, ?_⟩
  refine List.forall_mem_cons.mpr ⟨ok_getf C (wi_X1) rfl (by decide) kw_109 (show decode cX1_plan 88 = .ok (.getfield 45, 3) from dk_at dq20_20 (i := 0) rfl) rfl, ?_⟩
  refine List.forall_mem_cons.mpr ⟨ok_iconst C (show decode cX1_plan 91 = .ok (.iconst 1, 1) from dk_at dq20_20 (i := 1) rfl) (by decide) rfl, ?_⟩
  refine List.forall_mem_cons.mpr ⟨ok_iload C (show decode cX1_plan 92 = .ok (.iload 6, 2) from dk_at dq20_20 (i := 2) rfl) rfl, ?_⟩
  refine List.forall_mem_cons.mpr ⟨ok_ishl C (show decode cX1_plan 94 = .ok (.ishl, 1) from dk_at dq20_20 (i := 3) rfl) rfl, ?_⟩
  refine List.forall_mem_cons.mpr ⟨ok_ior C (show decode cX1_plan 95 = .ok (.ior, 1) from dk_at dq20_20 (i := 4) rfl) rfl, ?_⟩
  refine List.forall_mem_cons.mpr ⟨ok_putf C (wi_X1) tyX1 tyX1_ok nmX1 rfl (by decide) kw_109 (Or.inl rfl) (Or.inl ⟨rfl, rfl⟩) (show decode cX1_plan 96 = .ok (.putfield 45, 3) from dk_at dq20_20 (i := 5) rfl) rfl, ?_⟩
  refine List.forall_mem_cons.mpr ⟨ok_aload_n C (show decode cX1_plan 99 = .ok (.aload_n 0, 1) from dk_at dq20_20 (i := 6) rfl) rfl rfl, ?_⟩
  refine List.forall_mem_cons.mpr ⟨ok_dup C (show decode cX1_plan 100 = .ok (.dup, 1) from dk_at dq20_20 (i := 7) rfl) rfl, ?_⟩
  refine List.forall_mem_cons.mpr ⟨ok_getf C (wi_X1) rfl (by decide) kw_111 (show decode cX1_plan 101 = .ok (.getfield 42, 3) from dk_at dq20_20 (i := 8) rfl) rfl, ?_⟩
  refine List.forall_mem_cons.mpr ⟨ok_iconst C (show decode cX1_plan 104 = .ok (.iconst 2, 1) from dk_at dq20_20 (i := 9) rfl) (by decide) rfl, ?_⟩
  refine List.forall_mem_cons.mpr ⟨ok_iadd C (show decode cX1_plan 105 = .ok (.iadd, 1) from dk_at dq20_20 (i := 10) rfl) rfl, ?_⟩
  refine List.forall_mem_cons.mpr ⟨ok_putf C (wi_X1) tyX1 tyX1_ok nmX1 rfl (by decide) kw_111 (Or.inl rfl) (Or.inl ⟨rfl, rfl⟩) (show decode cX1_plan 106 = .ok (.putfield 42, 3) from dk_at dq20_20 (i := 11) rfl) rfl, ?_⟩
  refine List.forall_mem_cons.mpr ⟨ok_iinc C (show decode cX1_plan 109 = .ok (.iinc 6 1, 3) from dk_at dq20_20 (i := 12) rfl) (by decide) (by decide) rfl, ?_⟩
  refine List.forall_mem_cons.mpr ⟨ok_goto C (show decode cX1_plan 112 = .ok (.goto (-67), 3) from dk_at dq20_20 (i := 13) rfl) (tg := 45) (by decide) rfl, ?_⟩
  refine List.forall_mem_cons.mpr ⟨ok_iconst C (show decode cX1_plan 115 = .ok (.iconst 0, 1) from dk_at dq20_20 (i := 14) rfl) (by decide) rfl, ?_⟩
  refine List.forall_mem_cons.mpr ⟨ok_istore C (show decode cX1_plan 116 = .ok (.istore 6, 2) from dk_at dq20_20 (i := 15) rfl) (by decide) rfl, ?_⟩
  refine List.forall_mem_cons.mpr ⟨ok_iload C (show decode cX1_plan 118 = .ok (.iload 6, 2) from dk_at dq20_21 (i := 0) rfl) rfl, ?_⟩
  refine List.forall_mem_cons.mpr ⟨ok_aload_n C (show decode cX1_plan 120 = .ok (.aload_n 1, 1) from dk_at dq20_21 (i := 1) rfl) rfl rfl, ?_⟩
  refine List.forall_mem_cons.mpr ⟨ok_getf C (wi_X7) rfl (by decide) kw_248 (show decode cX1_plan 121 = .ok (.getfield 58, 3) from dk_at dq20_21 (i := 2) rfl) rfl, ?_⟩
  refine List.forall_mem_cons.mpr ⟨ok_icmpge C (show decode cX1_plan 124 = .ok (.if_icmp .ge 84, 3) from dk_at dq20_21 (i := 3) rfl) (tg := 208) (by decide) rfl rfl, ?_⟩
  refine List.forall_mem_cons.mpr ⟨ok_aload_n C (show decode cX1_plan 127 = .ok (.aload_n 2, 1) from dk_at dq20_21 (i := 4) rfl) rfl rfl, ?_⟩
  refine List.forall_mem_cons.mpr ⟨ok_aload_n C (show decode cX1_plan 128 = .ok (.aload_n 1, 1) from dk_at dq20_21 (i := 5) rfl) rfl rfl, ?_⟩
  refine List.forall_mem_cons.mpr ⟨ok_iload C (show decode cX1_plan 129 = .ok (.iload 6, 2) from dk_at dq20_21 (i := 6) rfl) rfl, ?_⟩
  refine List.forall_mem_cons.mpr ⟨ok_iconst C (show decode cX1_plan 131 = .ok (.iconst 1, 1) from dk_at dq20_21 (i := 7) rfl) (by decide) rfl, ?_⟩
  refine List.forall_mem_cons.mpr ⟨ok_iload_n C (show decode cX1_plan 132 = .ok (.iload_n 3, 1) from dk_at dq20_21 (i := 8) rfl) rfl rfl, ?_⟩
  refine List.forall_mem_cons.mpr ⟨ok_isub C (show decode cX1_plan 133 = .ok (.isub, 1) from dk_at dq20_21 (i := 9) rfl) rfl, ?_⟩
  refine List.forall_mem_cons.mpr ⟨ok_callSN C h_X10_slotOf ⟨rfl, rfl⟩ kw_532 (host := "LackFerry") (by decide +kernel) kw_531 kw_1 ds_X10_slotOf ⟨by decide, by decide⟩ (show decode cX1_plan 134 = .ok (.invokestatic 61, 3) from dk_at dq20_21 (i := 10) rfl) rfl, ?_⟩
  refine List.forall_mem_cons.mpr ⟨ok_callV C h_X6_lackAt ⟨rfl, rfl⟩ rfl kw_605 kw_762 kw_603 kw_604 kw_6 rfl ds_X6_lackAt ⟨by decide, by decide⟩ (show decode cX1_plan 137 = .ok (.invokevirtual 64, 3) from dk_at dq20_21 (i := 11) rfl) rfl, ?_⟩
  refine List.forall_mem_cons.mpr ⟨ok_istore C (show decode cX1_plan 140 = .ok (.istore 7, 2) from dk_at dq20_21 (i := 12) rfl) (by decide) rfl, ?_⟩
  refine List.forall_mem_cons.mpr ⟨ok_aload_n C (show decode cX1_plan 142 = .ok (.aload_n 0, 1) from dk_at dq20_21 (i := 13) rfl) rfl rfl, ?_⟩
  refine List.forall_mem_cons.mpr ⟨ok_getf C (wi_X1) rfl (by decide) kw_107 (show decode cX1_plan 143 = .ok (.getfield 15, 3) from dk_at dq20_21 (i := 14) rfl) rfl, ?_⟩
  refine List.forall_mem_cons.mpr ⟨ok_iload C (show decode cX1_plan 146 = .ok (.iload 6, 2) from dk_at dq20_21 (i := 15) rfl) rfl, ?_⟩
  refine List.forall_mem_cons.mpr ⟨ok_iload C (show decode cX1_plan 148 = .ok (.iload 4, 2) from dk_at dq20_22 (i := 0) rfl) rfl, ?_⟩
  refine List.forall_mem_cons.mpr ⟨ok_aload_n C (show decode cX1_plan 150 = .ok (.aload_n 0, 1) from dk_at dq20_22 (i := 1) rfl) rfl rfl, ?_⟩
  refine List.forall_mem_cons.mpr ⟨ok_getf C (wi_X1) rfl (by decide) kw_111 (show decode cX1_plan 151 = .ok (.getfield 42, 3) from dk_at dq20_22 (i := 2) rfl) rfl, ?_⟩
  refine List.forall_mem_cons.mpr ⟨ok_isub C (show decode cX1_plan 154 = .ok (.isub, 1) from dk_at dq20_22 (i := 3) rfl) rfl, ?_⟩
  refine List.forall_mem_cons.mpr ⟨ok_iastore C (show decode cX1_plan 155 = .ok (.iastore, 1) from dk_at dq20_22 (i := 4) rfl) rfl, ?_⟩
  refine List.forall_mem_cons.mpr ⟨ok_aload_n C (show decode cX1_plan 156 = .ok (.aload_n 0, 1) from dk_at dq20_22 (i := 5) rfl) rfl rfl, ?_⟩
  refine List.forall_mem_cons.mpr ⟨ok_getf C (wi_X1) rfl (by decide) kw_105 (show decode cX1_plan 157 = .ok (.getfield 9, 3) from dk_at dq20_22 (i := 6) rfl) rfl, ?_⟩
  refine List.forall_mem_cons.mpr ⟨ok_iload C (show decode cX1_plan 160 = .ok (.iload 6, 2) from dk_at dq20_22 (i := 7) rfl) rfl, ?_⟩
  refine List.forall_mem_cons.mpr ⟨ok_aload_n C (show decode cX1_plan 162 = .ok (.aload_n 2, 1) from dk_at dq20_22 (i := 8) rfl) rfl rfl, ?_⟩
  refine List.forall_mem_cons.mpr ⟨ok_getf C (wi_X6) rfl (by decide) kw_143 (show decode cX1_plan 163 = .ok (.getfield 68, 3) from dk_at dq20_22 (i := 9) rfl) rfl, ?_⟩
  refine List.forall_mem_cons.mpr ⟨ok_iload C (show decode cX1_plan 166 = .ok (.iload 6, 2) from dk_at dq20_22 (i := 10) rfl) rfl, ?_⟩
  refine List.forall_mem_cons.mpr ⟨ok_iload_n C (show decode cX1_plan 168 = .ok (.iload_n 3, 1) from dk_at dq20_22 (i := 11) rfl) rfl rfl, ?_⟩
  refine List.forall_mem_cons.mpr ⟨ok_callSN C h_X10_slotOf ⟨rfl, rfl⟩ kw_532 (host := "LackFerry") (by decide +kernel) kw_531 kw_1 ds_X10_slotOf ⟨by decide, by decide⟩ (show decode cX1_plan 169 = .ok (.invokestatic 61, 3) from dk_at dq20_22 (i := 12) rfl) rfl, ?_⟩
  refine List.forall_mem_cons.mpr ⟨ok_iaload C (show decode cX1_plan 172 = .ok (.iaload, 1) from dk_at dq20_22 (i := 13) rfl) rfl, ?_⟩
  refine List.forall_mem_cons.mpr ⟨ok_iload C (show decode cX1_plan 173 = .ok (.iload 7, 2) from dk_at dq20_22 (i := 14) rfl) rfl, ?_⟩
  refine List.forall_mem_cons.mpr ⟨ok_aload_n C (show decode cX1_plan 175 = .ok (.aload_n 0, 1) from dk_at dq20_22 (i := 15) rfl) rfl rfl, ?_⟩
  refine List.forall_mem_cons.mpr ⟨ok_getf C (wi_X1) rfl (by decide) kw_107 (show decode cX1_plan 176 = .ok (.getfield 15, 3) from dk_at dq20_23 (i := 0) rfl) rfl, ?_⟩
  refine List.forall_mem_cons.mpr ⟨ok_iload C (show decode cX1_plan 179 = .ok (.iload 6, 2) from dk_at dq20_23 (i := 1) rfl) rfl, ?_⟩
  refine List.forall_mem_cons.mpr ⟨ok_iaload C (show decode cX1_plan 181 = .ok (.iaload, 1) from dk_at dq20_23 (i := 2) rfl) rfl, ?_⟩
  refine List.forall_mem_cons.mpr ⟨ok_callS C h_X1_amountMoved ⟨rfl, rfl⟩ kw_765 kw_763 kw_764 kw_4 ds_X1_amountMoved ⟨by decide, by decide⟩ (show decode cX1_plan 182 = .ok (.invokestatic 71, 3) from dk_at dq20_23 (i := 3) rfl) rfl, ?_⟩
  refine List.forall_mem_cons.mpr ⟨ok_iastore C (show decode cX1_plan 185 = .ok (.iastore, 1) from dk_at dq20_23 (i := 4) rfl) rfl, ?_⟩
  refine List.forall_mem_cons.mpr ⟨ok_aload_n C (show decode cX1_plan 186 = .ok (.aload_n 0, 1) from dk_at dq20_23 (i := 5) rfl) rfl rfl, ?_⟩
  refine List.forall_mem_cons.mpr ⟨ok_dup C (show decode cX1_plan 187 = .ok (.dup, 1) from dk_at dq20_23 (i := 6) rfl) rfl, ?_⟩
  refine List.forall_mem_cons.mpr ⟨ok_getf C (wi_X1) rfl (by decide) kw_111 (show decode cX1_plan 188 = .ok (.getfield 42, 3) from dk_at dq20_23 (i := 7) rfl) rfl, ?_⟩
  refine List.forall_mem_cons.mpr ⟨ok_aload_n C (show decode cX1_plan 191 = .ok (.aload_n 0, 1) from dk_at dq20_23 (i := 8) rfl) rfl rfl, ?_⟩
  refine List.forall_mem_cons.mpr ⟨ok_getf C (wi_X1) rfl (by decide) kw_105 (show decode cX1_plan 192 = .ok (.getfield 9, 3) from dk_at dq20_23 (i := 9) rfl) rfl, ?_⟩
  refine List.forall_mem_cons.mpr ⟨ok_iload C (show decode cX1_plan 195 = .ok (.iload 6, 2) from dk_at dq20_23 (i := 10) rfl) rfl, ?_⟩
  refine List.forall_mem_cons.mpr ⟨ok_iaload C (show decode cX1_plan 197 = .ok (.iaload, 1) from dk_at dq20_23 (i := 11) rfl) rfl, ?_⟩
  refine List.forall_mem_cons.mpr ⟨ok_iadd C (show decode cX1_plan 198 = .ok (.iadd, 1) from dk_at dq20_23 (i := 12) rfl) rfl, ?_⟩
  refine List.forall_mem_cons.mpr ⟨ok_putf C (wi_X1) tyX1 tyX1_ok nmX1 rfl (by decide) kw_111 (Or.inl rfl) (Or.inl ⟨rfl, rfl⟩) (show decode cX1_plan 199 = .ok (.putfield 42, 3) from dk_at dq20_23 (i := 13) rfl) rfl, ?_⟩
  refine List.forall_mem_cons.mpr ⟨ok_iinc C (show decode cX1_plan 202 = .ok (.iinc 6 1, 3) from dk_at dq20_23 (i := 14) rfl) (by decide) (by decide) rfl, ?_⟩
  refine List.forall_mem_cons.mpr ⟨ok_goto C (show decode cX1_plan 205 = .ok (.goto (-87), 3) from dk_at dq20_23 (i := 15) rfl) (tg := 118) (by decide) rfl, ?_⟩
  refine List.forall_mem_cons.mpr ⟨ok_vret C rfl (show decode cX1_plan 208 = .ok (.return_, 1) from dk_at dq20_24 (i := 0) rfl), ?_⟩
  exact fun _ h => absurd h List.not_mem_nil
def L_X1_carry (f_X6_ferryShore : List Value → ab_H → Option ab_O) (f_X10_slotOf : List Value → ab_H → Option ab_O) : List (Nat × ab_A) := [
  (0, ab_nx 1 (ab_aload 2)),
  (1, ab_nx 4 (ab_callV 1 6 f_X6_ferryShore 0 0 0 0)),
  (4, ab_nx 5 (ab_istore 3)),
  (5, ab_nx 6 (ab_lit (.int 0))),
  (6, ab_nx 8 (ab_istore 4)),
  (8, ab_nx 10 (ab_iload 4)),
  (10, ab_nx 11 (ab_aload 1)),
  (11, ab_nx 14 (ab_getf 7 9)),
  (14, ab_icmp 17 56 (fun x y => decide (y ≤ x))),
  (17, ab_nx 18 (ab_aload 0)),
  (18, ab_nx 21 (ab_getf 1 2)),
  (21, ab_nx 22 (ab_lit (.int 1))),
  (22, ab_nx 24 (ab_iload 4)),
  (24, ab_nx 25 (ab_bin (fun x y => x <<< (y &&& 31)))),
  (25, ab_nx 26 (ab_bin (fun x y => x &&& y))),
  (26, ab_if 29 50 (fun x => decide (x = 0))),
  (29, ab_nx 30 (ab_aload 2)),
  (30, ab_nx 33 (ab_getf 6 4)),
  (33, ab_nx 35 (ab_iload 4)),
  (35, ab_nx 36 (ab_lit (.int 1))),
  (36, ab_nx 37 (ab_iload 3)),
  (37, ab_nx 38 (ab_bin (fun x y => x - y))),
  (38, ab_nx 39 (ab_ast 1)),
  (39, ab_nx 40 (ab_aload 2)),
  (40, ab_nx 43 (ab_getf 6 5)),
  (43, ab_nx 45 (ab_iload 4)),
  (45, ab_nx 46 ab_dup2),
  (46, ab_nx 47 (ab_ald 1)),
  (47, ab_nx 48 (ab_lit (.int 1))),
  (48, ab_nx 49 (ab_bin (fun x y => x + y))),
  (49, ab_nx 50 (ab_ast 1)),
  (50, ab_nx 53 (ab_iinc 4 1)),
  (53, ab_goto 8),
  (56, ab_nx 57 (ab_lit (.int 0))),
  (57, ab_nx 59 (ab_istore 4)),
  (59, ab_nx 61 (ab_iload 4)),
  (61, ab_nx 62 (ab_aload 1)),
  (62, ab_nx 65 (ab_getf 7 8)),
  (65, ab_icmp 68 141 (fun x y => decide (y ≤ x))),
  (68, ab_nx 69 (ab_aload 2)),
  (69, ab_nx 72 (ab_getf 6 0)),
  (72, ab_nx 74 (ab_iload 4)),
  (74, ab_nx 75 (ab_iload 3)),
  (75, ab_nx 78 (ab_call 2 f_X10_slotOf 0 0 0 0)),
  (78, ab_nx 79 ab_dup2),
  (79, ab_nx 80 (ab_ald 1)),
  (80, ab_nx 81 (ab_aload 0)),
  (81, ab_nx 84 (ab_getf 1 0)),
  (84, ab_nx 86 (ab_iload 4)),
  (86, ab_nx 87 (ab_ald 1)),
  (87, ab_nx 88 (ab_bin (fun x y => x - y))),
  (88, ab_nx 89 (ab_ast 1)),
  (89, ab_nx 90 (ab_aload 2)),
  (90, ab_nx 93 (ab_getf 6 0)),
  (93, ab_nx 95 (ab_iload 4)),
  (95, ab_nx 96 (ab_lit (.int 1))),
  (96, ab_nx 97 (ab_iload 3)),
  (97, ab_nx 98 (ab_bin (fun x y => x - y))),
  (98, ab_nx 101 (ab_call 2 f_X10_slotOf 0 0 0 0)),
  (101, ab_nx 102 ab_dup2),
  (102, ab_nx 103 (ab_ald 1)),
  (103, ab_nx 104 (ab_aload 0)),
  (104, ab_nx 107 (ab_getf 1 0)),
  (107, ab_nx 109 (ab_iload 4)),
  (109, ab_nx 110 (ab_ald 1)),
  (110, ab_nx 111 (ab_bin (fun x y => x + y))),
  (111, ab_nx 112 (ab_ast 1)),
  (112, ab_nx 113 (ab_aload 2)),
  (113, ab_nx 116 (ab_getf 6 3)),
  (116, ab_nx 118 (ab_iload 4)),
  (118, ab_nx 119 (ab_lit (.int 1))),
  (119, ab_nx 120 (ab_iload 3)),
  (120, ab_nx 121 (ab_bin (fun x y => x - y))),
  (121, ab_nx 124 (ab_call 2 f_X10_slotOf 0 0 0 0)),
  (124, ab_nx 125 ab_dup2),
  (125, ab_nx 126 (ab_ald 1)),
  (126, ab_nx 127 (ab_aload 0)),
  (127, ab_nx 130 (ab_getf 1 0)),
  (130, ab_nx 132 (ab_iload 4)),
  (132, ab_nx 133 (ab_ald 1)),
  (133, ab_nx 134 (ab_bin (fun x y => x + y))),
  (134, ab_nx 135 (ab_ast 1)),
  (135, ab_nx 138 (ab_iinc 4 1)),
  (138, ab_goto 59),
  (141, ab_nx 142 (ab_aload 2)),
  (142, ab_nx 143 ab_dup),
  (143, ab_nx 146 (ab_getf 6 9)),
  (146, ab_nx 147 (ab_aload 0)),
  (147, ab_nx 150 (ab_getf 1 3)),
  (150, ab_nx 151 (ab_bin (fun x y => x + y))),
  (151, ab_nx 154 (ab_putf 6 9 0)),
  (154, ab_nx 155 (ab_aload 0)),
  (155, ab_nx 158 (ab_getf 1 3)),
  (158, ab_if 161 171 (fun x => !decide (x = 0))),
  (161, ab_nx 162 (ab_aload 2)),
  (162, ab_nx 163 ab_dup),
  (163, ab_nx 166 (ab_getf 6 8)),
  (166, ab_nx 167 (ab_lit (.int 1))),
  (167, ab_nx 168 (ab_bin (fun x y => x + y))),
  (168, ab_nx 171 (ab_putf 6 8 0)),
  (171, ab_vret 0 0)]
set_option maxRecDepth 100000 in
theorem dq20_25 : ([(0, .aload_n 2, 1), (1, .invokevirtual 27, 3), (4, .istore_n 3, 1), (5, .iconst 0, 1), (6, .istore 4, 2), (8, .iload 4, 2), (10, .aload_n 1, 1), (11, .getfield 52, 3), (14, .if_icmp .ge 42, 3), (17, .aload_n 0, 1), (18, .getfield 45, 3), (21, .iconst 1, 1), (22, .iload 4, 2), (24, .ishl, 1), (25, .iand, 1), (26, .ifCond .eq 24, 3)] : List (Nat × Instr × Nat)).all (fun q => decide (decode cX1_carry q.1 = .ok q.2)) = true := by decide +kernel
set_option maxRecDepth 100000 in
theorem dq20_26 : ([(29, .aload_n 2, 1), (30, .getfield 55, 3), (33, .iload 4, 2), (35, .iconst 1, 1), (36, .iload_n 3, 1), (37, .isub, 1), (38, .iastore, 1), (39, .aload_n 2, 1), (40, .getfield 89, 3), (43, .iload 4, 2), (45, .dup2, 1), (46, .iaload, 1), (47, .iconst 1, 1), (48, .iadd, 1), (49, .iastore, 1), (50, .iinc 4 1, 3)] : List (Nat × Instr × Nat)).all (fun q => decide (decode cX1_carry q.1 = .ok q.2)) = true := by decide +kernel
set_option maxRecDepth 100000 in
theorem dq20_27 : ([(53, .goto (-45), 3), (56, .iconst 0, 1), (57, .istore 4, 2), (59, .iload 4, 2), (61, .aload_n 1, 1), (62, .getfield 58, 3), (65, .if_icmp .ge 76, 3), (68, .aload_n 2, 1), (69, .getfield 68, 3), (72, .iload 4, 2), (74, .iload_n 3, 1), (75, .invokestatic 61, 3), (78, .dup2, 1), (79, .iaload, 1), (80, .aload_n 0, 1), (81, .getfield 9, 3)] : List (Nat × Instr × Nat)).all (fun q => decide (decode cX1_carry q.1 = .ok q.2)) = true := by decide +kernel
set_option maxRecDepth 100000 in
theorem dq20_28 : ([(84, .iload 4, 2), (86, .iaload, 1), (87, .isub, 1), (88, .iastore, 1), (89, .aload_n 2, 1), (90, .getfield 68, 3), (93, .iload 4, 2), (95, .iconst 1, 1), (96, .iload_n 3, 1), (97, .isub, 1), (98, .invokestatic 61, 3), (101, .dup2, 1), (102, .iaload, 1), (103, .aload_n 0, 1), (104, .getfield 9, 3), (107, .iload 4, 2)] : List (Nat × Instr × Nat)).all (fun q => decide (decode cX1_carry q.1 = .ok q.2)) = true := by decide +kernel
set_option maxRecDepth 100000 in
theorem dq20_29 : ([(109, .iaload, 1), (110, .iadd, 1), (111, .iastore, 1), (112, .aload_n 2, 1), (113, .getfield 92, 3), (116, .iload 4, 2), (118, .iconst 1, 1), (119, .iload_n 3, 1), (120, .isub, 1), (121, .invokestatic 61, 3), (124, .dup2, 1), (125, .iaload, 1), (126, .aload_n 0, 1), (127, .getfield 9, 3), (130, .iload 4, 2), (132, .iaload, 1)] : List (Nat × Instr × Nat)).all (fun q => decide (decode cX1_carry q.1 = .ok q.2)) = true := by decide +kernel
set_option maxRecDepth 100000 in
theorem dq20_30 : ([(133, .iadd, 1), (134, .iastore, 1), (135, .iinc 4 1, 3), (138, .goto (-79), 3), (141, .aload_n 2, 1), (142, .dup, 1), (143, .getfield 95, 3), (146, .aload_n 0, 1), (147, .getfield 42, 3), (150, .iadd, 1), (151, .putfield 95, 3), (154, .aload_n 0, 1), (155, .getfield 42, 3), (158, .ifCond .ne 13, 3), (161, .aload_n 2, 1), (162, .dup, 1)] : List (Nat × Instr × Nat)).all (fun q => decide (decode cX1_carry q.1 = .ok q.2)) = true := by decide +kernel
set_option maxRecDepth 100000 in
theorem dq20_31 : ([(163, .getfield 98, 3), (166, .iconst 1, 1), (167, .iadd, 1), (168, .putfield 98, 3), (171, .return_, 1)] : List (Nat × Instr × Nat)).all (fun q => decide (decode cX1_carry q.1 = .ok q.2)) = true := by decide +kernel
set_option maxRecDepth 100000 in
set_option maxHeartbeats 4000000 in
theorem M_X1_carry {l : Launch} {b : ab_B} {D : va_G} {cA : Nat → ClassId} {f_X6_ferryShore : List Value → ab_H → Option ab_O} (h_X6_ferryShore : ab_M l b D ab_cl cA (ab_E0 b) yX6_ferryShore (Cond.code yX6_ferryShore cX6_ferryShore 1 (some .int) :: ab_G) ({ frames := 1, cells := 0, slots := 0, locals := 100 } : Room) f_X6_ferryShore) {f_X10_slotOf : List Value → ab_H → Option ab_O} (h_X10_slotOf : ab_M l b D ab_cl cA (ab_E0 b) yX10_slotOf (Cond.code yX10_slotOf cX10_slotOf 2 (some .int) :: ab_G) ({ frames := 1, cells := 0, slots := 0, locals := 100 } : Room) f_X10_slotOf) : ab_M l b D ab_cl cA (ab_E0 b) yX1_carry (Cond.code yX1_carry cX1_carry 5 none :: ab_G) ({ frames := 2, cells := 0, slots := 0, locals := 200 } : Room) (ab_X (ab_T (L_X1_carry f_X6_ferryShore f_X10_slotOf)) 5) := by
  refine ab_meth (ret := none) (L_X1_carry f_X6_ferryShore f_X10_slotOf) (by decide) rfl fun p e R s m args below meth c o C => ?_
  unfold L_X1_carry
  refine List.forall_mem_cons.mpr ⟨ok_aload_n C (show decode cX1_carry 0 = .ok (.aload_n 2, 1) from dk_at dq20_25 (i := 0) rfl) rfl rfl, ?_⟩
  refine List.forall_mem_cons.mpr ⟨ok_callV C h_X6_ferryShore ⟨rfl, rfl⟩ rfl kw_644 kw_756 kw_642 kw_643 kw_6 rfl ds_X6_ferryShore ⟨by decide, by decide⟩ (show decode cX1_carry 1 = .ok (.invokevirtual 27, 3) from dk_at dq20_25 (i := 1) rfl) rfl, ?_⟩
  refine List.forall_mem_cons.mpr ⟨ok_istore_n C (show decode cX1_carry 4 = .ok (.istore_n 3, 1) from dk_at dq20_25 (i := 2) rfl) rfl (by decide) rfl, ?_⟩
  refine List.forall_mem_cons.mpr ⟨ok_iconst C (show decode cX1_carry 5 = .ok (.iconst 0, 1) from dk_at dq20_25 (i := 3) rfl) (by decide) rfl, ?_⟩
  refine List.forall_mem_cons.mpr ⟨ok_istore C (show decode cX1_carry 6 = .ok (.istore 4, 2) from dk_at dq20_25 (i := 4) rfl) (by decide) rfl, ?_⟩
  refine List.forall_mem_cons.mpr ⟨ok_iload C (show decode cX1_carry 8 = .ok (.iload 4, 2) from dk_at dq20_25 (i := 5) rfl) rfl, ?_⟩
  refine List.forall_mem_cons.mpr ⟨ok_aload_n C (show decode cX1_carry 10 = .ok (.aload_n 1, 1) from dk_at dq20_25 (i := 6) rfl) rfl rfl, ?_⟩
  refine List.forall_mem_cons.mpr ⟨ok_getf C (wi_X7) rfl (by decide) kw_252 (show decode cX1_carry 11 = .ok (.getfield 52, 3) from dk_at dq20_25 (i := 7) rfl) rfl, ?_⟩
  refine List.forall_mem_cons.mpr ⟨ok_icmpge C (show decode cX1_carry 14 = .ok (.if_icmp .ge 42, 3) from dk_at dq20_25 (i := 8) rfl) (tg := 56) (by decide) rfl rfl, ?_⟩
  refine List.forall_mem_cons.mpr ⟨ok_aload_n C (show decode cX1_carry 17 = .ok (.aload_n 0, 1) from dk_at dq20_25 (i := 9) rfl) rfl rfl, ?_⟩
  refine List.forall_mem_cons.mpr ⟨ok_getf C (wi_X1) rfl (by decide) kw_109 (show decode cX1_carry 18 = .ok (.getfield 45, 3) from dk_at dq20_25 (i := 10) rfl) rfl, ?_⟩
  refine List.forall_mem_cons.mpr ⟨ok_iconst C (show decode cX1_carry 21 = .ok (.iconst 1, 1) from dk_at dq20_25 (i := 11) rfl) (by decide) rfl, ?_⟩
  refine List.forall_mem_cons.mpr ⟨ok_iload C (show decode cX1_carry 22 = .ok (.iload 4, 2) from dk_at dq20_25 (i := 12) rfl) rfl, ?_⟩
  refine List.forall_mem_cons.mpr ⟨ok_ishl C (show decode cX1_carry 24 = .ok (.ishl, 1) from dk_at dq20_25 (i := 13) rfl) rfl, ?_⟩
  refine List.forall_mem_cons.mpr ⟨ok_iand C (show decode cX1_carry 25 = .ok (.iand, 1) from dk_at dq20_25 (i := 14) rfl) rfl, ?_⟩
  refine List.forall_mem_cons.mpr ⟨ok_ifeq C (show decode cX1_carry 26 = .ok (.ifCond .eq 24, 3) from dk_at dq20_25 (i := 15) rfl) (tg := 50) (by decide) rfl rfl, ?_⟩
  refine List.forall_mem_cons.mpr ⟨ok_aload_n C (show decode cX1_carry 29 = .ok (.aload_n 2, 1) from dk_at dq20_26 (i := 0) rfl) rfl rfl, ?_⟩
  refine List.forall_mem_cons.mpr ⟨ok_getf C (wi_X6) rfl (by decide) kw_156 (show decode cX1_carry 30 = .ok (.getfield 55, 3) from dk_at dq20_26 (i := 1) rfl) rfl, ?_⟩
  refine List.forall_mem_cons.mpr ⟨ok_iload C (show decode cX1_carry 33 = .ok (.iload 4, 2) from dk_at dq20_26 (i := 2) rfl) rfl, ?_⟩
  refine List.forall_mem_cons.mpr ⟨ok_iconst C (show decode cX1_carry 35 = .ok (.iconst 1, 1) from dk_at dq20_26 (i := 3) rfl) (by decide) rfl, ?_⟩
  refine List.forall_mem_cons.mpr ⟨ok_iload_n C (show decode cX1_carry 36 = .ok (.iload_n 3, 1) from dk_at dq20_26 (i := 4) rfl) rfl rfl, ?_⟩
  refine List.forall_mem_cons.mpr ⟨ok_isub C (show decode cX1_carry 37 = .ok (.isub, 1) from dk_at dq20_26 (i := 5) rfl) rfl, ?_⟩
  refine List.forall_mem_cons.mpr ⟨ok_iastore C (show decode cX1_carry 38 = .ok (.iastore, 1) from dk_at dq20_26 (i := 6) rfl) rfl, ?_⟩
  refine List.forall_mem_cons.mpr ⟨ok_aload_n C (show decode cX1_carry 39 = .ok (.aload_n 2, 1) from dk_at dq20_26 (i := 7) rfl) rfl rfl, ?_⟩
  refine List.forall_mem_cons.mpr ⟨ok_getf C (wi_X6) rfl (by decide) kw_159 (show decode cX1_carry 40 = .ok (.getfield 89, 3) from dk_at dq20_26 (i := 8) rfl) rfl, ?_⟩
  refine List.forall_mem_cons.mpr ⟨ok_iload C (show decode cX1_carry 43 = .ok (.iload 4, 2) from dk_at dq20_26 (i := 9) rfl) rfl, ?_⟩
  refine List.forall_mem_cons.mpr ⟨ok_dup2 C (show decode cX1_carry 45 = .ok (.dup2, 1) from dk_at dq20_26 (i := 10) rfl) rfl, ?_⟩
  refine List.forall_mem_cons.mpr ⟨ok_iaload C (show decode cX1_carry 46 = .ok (.iaload, 1) from dk_at dq20_26 (i := 11) rfl) rfl, ?_⟩
  refine List.forall_mem_cons.mpr ⟨ok_iconst C (show decode cX1_carry 47 = .ok (.iconst 1, 1) from dk_at dq20_26 (i := 12) rfl) (by decide) rfl, ?_⟩
  refine List.forall_mem_cons.mpr ⟨ok_iadd C (show decode cX1_carry 48 = .ok (.iadd, 1) from dk_at dq20_26 (i := 13) rfl) rfl, ?_⟩
  refine List.forall_mem_cons.mpr ⟨ok_iastore C (show decode cX1_carry 49 = .ok (.iastore, 1) from dk_at dq20_26 (i := 14) rfl) rfl, ?_⟩
  refine List.forall_mem_cons.mpr ⟨ok_iinc C (show decode cX1_carry 50 = .ok (.iinc 4 1, 3) from dk_at dq20_26 (i := 15) rfl) (by decide) (by decide) rfl, ?_⟩
  refine List.forall_mem_cons.mpr ⟨ok_goto C (show decode cX1_carry 53 = .ok (.goto (-45), 3) from dk_at dq20_27 (i := 0) rfl) (tg := 8) (by decide) rfl, ?_⟩
  refine List.forall_mem_cons.mpr ⟨ok_iconst C (show decode cX1_carry 56 = .ok (.iconst 0, 1) from dk_at dq20_27 (i := 1) rfl) (by decide) rfl, ?_⟩
  refine List.forall_mem_cons.mpr ⟨ok_istore C (show decode cX1_carry 57 = .ok (.istore 4, 2) from dk_at dq20_27 (i := 2) rfl) (by decide) rfl, ?_⟩
  refine List.forall_mem_cons.mpr ⟨ok_iload C (show decode cX1_carry 59 = .ok (.iload 4, 2) from dk_at dq20_27 (i := 3) rfl) rfl, ?_⟩
  refine List.forall_mem_cons.mpr ⟨ok_aload_n C (show decode cX1_carry 61 = .ok (.aload_n 1, 1) from dk_at dq20_27 (i := 4) rfl) rfl rfl, ?_⟩
  refine List.forall_mem_cons.mpr ⟨ok_getf C (wi_X7) rfl (by decide) kw_248 (show decode cX1_carry 62 = .ok (.getfield 58, 3) from dk_at dq20_27 (i := 5) rfl) rfl, ?_⟩
  refine List.forall_mem_cons.mpr ⟨ok_icmpge C (show decode cX1_carry 65 = .ok (.if_icmp .ge 76, 3) from dk_at dq20_27 (i := 6) rfl) (tg := 141) (by decide) rfl rfl, ?_⟩
  refine List.forall_mem_cons.mpr ⟨ok_aload_n C (show decode cX1_carry 68 = .ok (.aload_n 2, 1) from dk_at dq20_27 (i := 7) rfl) rfl rfl, ?_⟩
  refine List.forall_mem_cons.mpr ⟨ok_getf C (wi_X6) rfl (by decide) kw_143 (show decode cX1_carry 69 = .ok (.getfield 68, 3) from dk_at dq20_27 (i := 8) rfl) rfl, ?_⟩
  refine List.forall_mem_cons.mpr ⟨ok_iload C (show decode cX1_carry 72 = .ok (.iload 4, 2) from dk_at dq20_27 (i := 9) rfl) rfl, ?_⟩
  refine List.forall_mem_cons.mpr ⟨ok_iload_n C (show decode cX1_carry 74 = .ok (.iload_n 3, 1) from dk_at dq20_27 (i := 10) rfl) rfl rfl, ?_⟩
  refine List.forall_mem_cons.mpr ⟨ok_callSN C h_X10_slotOf ⟨rfl, rfl⟩ kw_532 (host := "LackFerry") (by decide +kernel) kw_531 kw_1 ds_X10_slotOf ⟨by decide, by decide⟩ (show decode cX1_carry 75 = .ok (.invokestatic 61, 3) from dk_at dq20_27 (i := 11) rfl) rfl, ?_⟩
  refine List.forall_mem_cons.mpr ⟨ok_dup2 C (show decode cX1_carry 78 = .ok (.dup2, 1) from dk_at dq20_27 (i := 12) rfl) rfl, ?_⟩
  refine List.forall_mem_cons.mpr ⟨ok_iaload C (show decode cX1_carry 79 = .ok (.iaload, 1) from dk_at dq20_27 (i := 13) rfl) rfl, ?_⟩
  refine List.forall_mem_cons.mpr ⟨ok_aload_n C (show decode cX1_carry 80 = .ok (.aload_n 0, 1) from dk_at dq20_27 (i := 14) rfl) rfl rfl, ?_⟩
  refine List.forall_mem_cons.mpr ⟨ok_getf C (wi_X1) rfl (by decide) kw_105 (show decode cX1_carry 81 = .ok (.getfield 9, 3) from dk_at dq20_27 (i := 15) rfl) rfl, ?_⟩
  refine List.forall_mem_cons.mpr ⟨ok_iload C (show decode cX1_carry 84 = .ok (.iload 4, 2) from dk_at dq20_28 (i := 0) rfl) rfl, ?_⟩
  refine List.forall_mem_cons.mpr ⟨ok_iaload C (show decode cX1_carry 86 = .ok (.iaload, 1) from dk_at dq20_28 (i := 1) rfl) rfl, ?_⟩
  refine List.forall_mem_cons.mpr ⟨ok_isub C (show decode cX1_carry 87 = .ok (.isub, 1) from dk_at dq20_28 (i := 2) rfl) rfl, ?_⟩
  refine List.forall_mem_cons.mpr ⟨ok_iastore C (show decode cX1_carry 88 = .ok (.iastore, 1) from dk_at dq20_28 (i := 3) rfl) rfl, ?_⟩
  refine List.forall_mem_cons.mpr ⟨ok_aload_n C (show decode cX1_carry 89 = .ok (.aload_n 2, 1) from dk_at dq20_28 (i := 4) rfl) rfl rfl, ?_⟩
  refine List.forall_mem_cons.mpr ⟨ok_getf C (wi_X6) rfl (by decide) kw_143 (show decode cX1_carry 90 = .ok (.getfield 68, 3) from dk_at dq20_28 (i := 5) rfl) rfl, ?_⟩
  refine List.forall_mem_cons.mpr ⟨ok_iload C (show decode cX1_carry 93 = .ok (.iload 4, 2) from dk_at dq20_28 (i := 6) rfl) rfl, ?_⟩
  refine List.forall_mem_cons.mpr ⟨ok_iconst C (show decode cX1_carry 95 = .ok (.iconst 1, 1) from dk_at dq20_28 (i := 7) rfl) (by decide) rfl, ?_⟩
  refine List.forall_mem_cons.mpr ⟨ok_iload_n C (show decode cX1_carry 96 = .ok (.iload_n 3, 1) from dk_at dq20_28 (i := 8) rfl) rfl rfl, ?_⟩
  refine List.forall_mem_cons.mpr ⟨ok_isub C (show decode cX1_carry 97 = .ok (.isub, 1) from dk_at dq20_28 (i := 9) rfl) rfl, ?_⟩
  refine List.forall_mem_cons.mpr ⟨ok_callSN C h_X10_slotOf ⟨rfl, rfl⟩ kw_532 (host := "LackFerry") (by decide +kernel) kw_531 kw_1 ds_X10_slotOf ⟨by decide, by decide⟩ (show decode cX1_carry 98 = .ok (.invokestatic 61, 3) from dk_at dq20_28 (i := 10) rfl) rfl, ?_⟩
  refine List.forall_mem_cons.mpr ⟨ok_dup2 C (show decode cX1_carry 101 = .ok (.dup2, 1) from dk_at dq20_28 (i := 11) rfl) rfl, ?_⟩
  refine List.forall_mem_cons.mpr ⟨ok_iaload C (show decode cX1_carry 102 = .ok (.iaload, 1) from dk_at dq20_28 (i := 12) rfl) rfl, ?_⟩
  refine List.forall_mem_cons.mpr ⟨ok_aload_n C (show decode cX1_carry 103 = .ok (.aload_n 0, 1) from dk_at dq20_28 (i := 13) rfl) rfl rfl, ?_⟩
  refine List.forall_mem_cons.mpr ⟨ok_getf C (wi_X1) rfl (by decide) kw_105 (show decode cX1_carry 104 = .ok (.getfield 9, 3) from dk_at dq20_28 (i := 14) rfl) rfl, ?_⟩
  refine List.forall_mem_cons.mpr ⟨ok_iload C (show decode cX1_carry 107 = .ok (.iload 4, 2) from dk_at dq20_28 (i := 15) rfl) rfl, ?_⟩
  refine List.forall_mem_cons.mpr ⟨ok_iaload C (show decode cX1_carry 109 = .ok (.iaload, 1) from dk_at dq20_29 (i := 0) rfl) rfl, ?_⟩
  refine List.forall_mem_cons.mpr ⟨ok_iadd C (show decode cX1_carry 110 = .ok (.iadd, 1) from dk_at dq20_29 (i := 1) rfl) rfl, ?_⟩
  refine List.forall_mem_cons.mpr ⟨ok_iastore C (show decode cX1_carry 111 = .ok (.iastore, 1) from dk_at dq20_29 (i := 2) rfl) rfl, ?_⟩
  refine List.forall_mem_cons.mpr ⟨ok_aload_n C (show decode cX1_carry 112 = .ok (.aload_n 2, 1) from dk_at dq20_29 (i := 3) rfl) rfl rfl, ?_⟩
  refine List.forall_mem_cons.mpr ⟨ok_getf C (wi_X6) rfl (by decide) kw_152 (show decode cX1_carry 113 = .ok (.getfield 92, 3) from dk_at dq20_29 (i := 4) rfl) rfl, ?_⟩
  refine List.forall_mem_cons.mpr ⟨ok_iload C (show decode cX1_carry 116 = .ok (.iload 4, 2) from dk_at dq20_29 (i := 5) rfl) rfl, ?_⟩
  refine List.forall_mem_cons.mpr ⟨ok_iconst C (show decode cX1_carry 118 = .ok (.iconst 1, 1) from dk_at dq20_29 (i := 6) rfl) (by decide) rfl, ?_⟩
  refine List.forall_mem_cons.mpr ⟨ok_iload_n C (show decode cX1_carry 119 = .ok (.iload_n 3, 1) from dk_at dq20_29 (i := 7) rfl) rfl rfl, ?_⟩
  refine List.forall_mem_cons.mpr ⟨ok_isub C (show decode cX1_carry 120 = .ok (.isub, 1) from dk_at dq20_29 (i := 8) rfl) rfl, ?_⟩
  refine List.forall_mem_cons.mpr ⟨ok_callSN C h_X10_slotOf ⟨rfl, rfl⟩ kw_532 (host := "LackFerry") (by decide +kernel) kw_531 kw_1 ds_X10_slotOf ⟨by decide, by decide⟩ (show decode cX1_carry 121 = .ok (.invokestatic 61, 3) from dk_at dq20_29 (i := 9) rfl) rfl, ?_⟩
  refine List.forall_mem_cons.mpr ⟨ok_dup2 C (show decode cX1_carry 124 = .ok (.dup2, 1) from dk_at dq20_29 (i := 10) rfl) rfl, ?_⟩
  refine List.forall_mem_cons.mpr ⟨ok_iaload C (show decode cX1_carry 125 = .ok (.iaload, 1) from dk_at dq20_29 (i := 11) rfl) rfl, ?_⟩
  refine List.forall_mem_cons.mpr ⟨ok_aload_n C (show decode cX1_carry 126 = .ok (.aload_n 0, 1) from dk_at dq20_29 (i := 12) rfl) rfl rfl, ?_⟩
  refine List.forall_mem_cons.mpr ⟨ok_getf C (wi_X1) rfl (by decide) kw_105 (show decode cX1_carry 127 = .ok (.getfield 9, 3) from dk_at dq20_29 (i := 13) rfl) rfl, ?_⟩
  refine List.forall_mem_cons.mpr ⟨ok_iload C (show decode cX1_carry 130 = .ok (.iload 4, 2) from dk_at dq20_29 (i := 14) rfl) rfl, ?_⟩
  refine List.forall_mem_cons.mpr ⟨ok_iaload C (show decode cX1_carry 132 = .ok (.iaload, 1) from dk_at dq20_29 (i := 15) rfl) rfl, ?_⟩
  refine List.forall_mem_cons.mpr ⟨ok_iadd C (show decode cX1_carry 133 = .ok (.iadd, 1) from dk_at dq20_30 (i := 0) rfl) rfl, ?_⟩
  refine List.forall_mem_cons.mpr ⟨ok_iastore C (show decode cX1_carry 134 = .ok (.iastore, 1) from dk_at dq20_30 (i := 1) rfl) rfl, ?_⟩
  refine List.forall_mem_cons.mpr ⟨ok_iinc C (show decode cX1_carry 135 = .ok (.iinc 4 1, 3) from dk_at dq20_30 (i := 2) rfl) (by decide) (by decide) rfl, ?_⟩
  refine List.forall_mem_cons.mpr ⟨ok_goto C (show decode cX1_carry 138 = .ok (.goto (-79), 3) from dk_at dq20_30 (i := 3) rfl) (tg := 59) (by decide) rfl, ?_⟩
  refine List.forall_mem_cons.mpr ⟨ok_aload_n C (show decode cX1_carry 141 = .ok (.aload_n 2, 1) from dk_at dq20_30 (i := 4) rfl) rfl rfl, ?_⟩
  refine List.forall_mem_cons.mpr ⟨ok_dup C (show decode cX1_carry 142 = .ok (.dup, 1) from dk_at dq20_30 (i := 5) rfl) rfl, ?_⟩
  refine List.forall_mem_cons.mpr ⟨ok_getf C (wi_X6) rfl (by decide) kw_169 (show decode cX1_carry 143 = .ok (.getfield 95, 3) from dk_at dq20_30 (i := 6) rfl) rfl, ?_⟩
  refine List.forall_mem_cons.mpr ⟨ok_aload_n C (show decode cX1_carry 146 = .ok (.aload_n 0, 1) from dk_at dq20_30 (i := 7) rfl) rfl rfl, ?_⟩
  refine List.forall_mem_cons.mpr ⟨ok_getf C (wi_X1) rfl (by decide) kw_111 (show decode cX1_carry 147 = .ok (.getfield 42, 3) from dk_at dq20_30 (i := 8) rfl) rfl, ?_⟩
  refine List.forall_mem_cons.mpr ⟨ok_iadd C (show decode cX1_carry 150 = .ok (.iadd, 1) from dk_at dq20_30 (i := 9) rfl) rfl, ?_⟩
  refine List.forall_mem_cons.mpr ⟨ok_putf C (wi_X6) tyX6 tyX6_ok nmX6 rfl (by decide) kw_169 (Or.inl rfl) (Or.inl ⟨rfl, rfl⟩) (show decode cX1_carry 151 = .ok (.putfield 95, 3) from dk_at dq20_30 (i := 10) rfl) rfl, ?_⟩
  refine List.forall_mem_cons.mpr ⟨ok_aload_n C (show decode cX1_carry 154 = .ok (.aload_n 0, 1) from dk_at dq20_30 (i := 11) rfl) rfl rfl, ?_⟩
  refine List.forall_mem_cons.mpr ⟨ok_getf C (wi_X1) rfl (by decide) kw_111 (show decode cX1_carry 155 = .ok (.getfield 42, 3) from dk_at dq20_30 (i := 12) rfl) rfl, ?_⟩
  refine List.forall_mem_cons.mpr ⟨ok_ifne C (show decode cX1_carry 158 = .ok (.ifCond .ne 13, 3) from dk_at dq20_30 (i := 13) rfl) (tg := 171) (by decide) rfl rfl, ?_⟩
  refine List.forall_mem_cons.mpr ⟨ok_aload_n C (show decode cX1_carry 161 = .ok (.aload_n 2, 1) from dk_at dq20_30 (i := 14) rfl) rfl rfl, ?_⟩
  refine List.forall_mem_cons.mpr ⟨ok_dup C (show decode cX1_carry 162 = .ok (.dup, 1) from dk_at dq20_30 (i := 15) rfl) rfl, ?_⟩
  refine List.forall_mem_cons.mpr ⟨ok_getf C (wi_X6) rfl (by decide) kw_166 (show decode cX1_carry 163 = .ok (.getfield 98, 3) from dk_at dq20_31 (i := 0) rfl) rfl, ?_⟩
  refine List.forall_mem_cons.mpr ⟨ok_iconst C (show decode cX1_carry 166 = .ok (.iconst 1, 1) from dk_at dq20_31 (i := 1) rfl) (by decide) rfl, ?_⟩
  refine List.forall_mem_cons.mpr ⟨ok_iadd C (show decode cX1_carry 167 = .ok (.iadd, 1) from dk_at dq20_31 (i := 2) rfl) rfl, ?_⟩
  refine List.forall_mem_cons.mpr ⟨ok_putf C (wi_X6) tyX6 tyX6_ok nmX6 rfl (by decide) kw_166 (Or.inl rfl) (Or.inl ⟨rfl, rfl⟩) (show decode cX1_carry 168 = .ok (.putfield 98, 3) from dk_at dq20_31 (i := 3) rfl) rfl, ?_⟩
  refine List.forall_mem_cons.mpr ⟨ok_vret C rfl (show decode cX1_carry 171 = .ok (.return_, 1) from dk_at dq20_31 (i := 4) rfl), ?_⟩
  exact fun _ h => absurd h List.not_mem_nil
def L_X7_leftAfter : List (Nat × ab_A) := [
  (0, ab_nx 3 (ab_lit (.int 999))),
  (3, ab_nx 4 (ab_iload 2)),
  (4, ab_nx 5 (ab_aload 0)),
  (5, ab_nx 8 (ab_getf 7 3)),
  (8, ab_nx 10 (ab_lit (.int 36))),
  (10, ab_nx 11 (ab_iload 1)),
  (11, ab_nx 12 (ab_bin (fun x y => x + y))),
  (12, ab_nx 13 (ab_ald 1)),
  (13, ab_nx 14 (ab_bin (fun x y => x + y))),
  (14, ab_nx 17 (ab_mm ab_min 0 0)),
  (17, ab_nx 18 (ab_istore 3)),
  (18, ab_nx 19 (ab_iload 3)),
  (19, ab_nx 20 (ab_aload 0)),
  (20, ab_nx 23 (ab_getf 7 3)),
  (23, ab_nx 25 (ab_lit (.int 24))),
  (25, ab_nx 26 (ab_iload 1)),
  (26, ab_nx 27 (ab_bin (fun x y => x + y))),
  (27, ab_nx 28 (ab_ald 1)),
  (28, ab_nx 29 (ab_bin (fun x y => x - y))),
  (29, ab_ret 0 0)]
set_option maxRecDepth 100000 in
theorem dq20_32 : ([(0, .sipush 999, 3), (3, .iload_n 2, 1), (4, .aload_n 0, 1), (5, .getfield 22, 3), (8, .bipush 36, 2), (10, .iload_n 1, 1), (11, .iadd, 1), (12, .iaload, 1), (13, .iadd, 1), (14, .invokestatic 38, 3), (17, .istore_n 3, 1), (18, .iload_n 3, 1), (19, .aload_n 0, 1), (20, .getfield 22, 3), (23, .bipush 24, 2), (25, .iload_n 1, 1)] : List (Nat × Instr × Nat)).all (fun q => decide (decode cX7_leftAfter q.1 = .ok q.2)) = true := by decide +kernel
set_option maxRecDepth 100000 in
theorem dq20_33 : ([(26, .iadd, 1), (27, .iaload, 1), (28, .isub, 1), (29, .ireturn, 1)] : List (Nat × Instr × Nat)).all (fun q => decide (decode cX7_leftAfter q.1 = .ok q.2)) = true := by decide +kernel
set_option maxRecDepth 100000 in
set_option maxHeartbeats 4000000 in
theorem M_X7_leftAfter {l : Launch} {b : ab_B} {D : va_G} {cA : Nat → ClassId} : ab_M l b D ab_cl cA (ab_E0 b) yX7_leftAfter (Cond.code yX7_leftAfter cX7_leftAfter 4 (some .int) :: ab_G) ({ frames := 2, cells := 0, slots := 0, locals := 200 } : Room) (ab_X (ab_T L_X7_leftAfter) 4) := by
  refine ab_meth (ret := (some .int)) L_X7_leftAfter (by decide) rfl fun p e R s m args below meth c o C => ?_
  unfold L_X7_leftAfter
  refine List.forall_mem_cons.mpr ⟨ok_sipush C (show decode cX7_leftAfter 0 = .ok (.sipush 999, 3) from dk_at dq20_32 (i := 0) rfl) (by decide) rfl, ?_⟩
  refine List.forall_mem_cons.mpr ⟨ok_iload_n C (show decode cX7_leftAfter 3 = .ok (.iload_n 2, 1) from dk_at dq20_32 (i := 1) rfl) rfl rfl, ?_⟩
  refine List.forall_mem_cons.mpr ⟨ok_aload_n C (show decode cX7_leftAfter 4 = .ok (.aload_n 0, 1) from dk_at dq20_32 (i := 2) rfl) rfl rfl, ?_⟩
  refine List.forall_mem_cons.mpr ⟨ok_getf C (wi_X7) rfl (by decide) kw_238 (show decode cX7_leftAfter 5 = .ok (.getfield 22, 3) from dk_at dq20_32 (i := 3) rfl) rfl, ?_⟩
  refine List.forall_mem_cons.mpr ⟨ok_bipush C (show decode cX7_leftAfter 8 = .ok (.bipush 36, 2) from dk_at dq20_32 (i := 4) rfl) (by decide) rfl, ?_⟩
  refine List.forall_mem_cons.mpr ⟨ok_iload_n C (show decode cX7_leftAfter 10 = .ok (.iload_n 1, 1) from dk_at dq20_32 (i := 5) rfl) rfl rfl, ?_⟩
  refine List.forall_mem_cons.mpr ⟨ok_iadd C (show decode cX7_leftAfter 11 = .ok (.iadd, 1) from dk_at dq20_32 (i := 6) rfl) rfl, ?_⟩
  refine List.forall_mem_cons.mpr ⟨ok_iaload C (show decode cX7_leftAfter 12 = .ok (.iaload, 1) from dk_at dq20_32 (i := 7) rfl) rfl, ?_⟩
  refine List.forall_mem_cons.mpr ⟨ok_iadd C (show decode cX7_leftAfter 13 = .ok (.iadd, 1) from dk_at dq20_32 (i := 8) rfl) rfl, ?_⟩
  refine List.forall_mem_cons.mpr ⟨ok_mmin C kw_780 kw_486 kw_16 kw_487 ⟨by decide, by decide⟩ (show decode cX7_leftAfter 14 = .ok (.invokestatic 38, 3) from dk_at dq20_32 (i := 9) rfl) rfl, ?_⟩
  refine List.forall_mem_cons.mpr ⟨ok_istore_n C (show decode cX7_leftAfter 17 = .ok (.istore_n 3, 1) from dk_at dq20_32 (i := 10) rfl) rfl (by decide) rfl, ?_⟩
  refine List.forall_mem_cons.mpr ⟨ok_iload_n C (show decode cX7_leftAfter 18 = .ok (.iload_n 3, 1) from dk_at dq20_32 (i := 11) rfl) rfl rfl, ?_⟩
  refine List.forall_mem_cons.mpr ⟨ok_aload_n C (show decode cX7_leftAfter 19 = .ok (.aload_n 0, 1) from dk_at dq20_32 (i := 12) rfl) rfl rfl, ?_⟩
  refine List.forall_mem_cons.mpr ⟨ok_getf C (wi_X7) rfl (by decide) kw_238 (show decode cX7_leftAfter 20 = .ok (.getfield 22, 3) from dk_at dq20_32 (i := 13) rfl) rfl, ?_⟩
  refine List.forall_mem_cons.mpr ⟨ok_bipush C (show decode cX7_leftAfter 23 = .ok (.bipush 24, 2) from dk_at dq20_32 (i := 14) rfl) (by decide) rfl, ?_⟩
  refine List.forall_mem_cons.mpr ⟨ok_iload_n C (show decode cX7_leftAfter 25 = .ok (.iload_n 1, 1) from dk_at dq20_32 (i := 15) rfl) rfl rfl, ?_⟩
  refine List.forall_mem_cons.mpr ⟨ok_iadd C (show decode cX7_leftAfter 26 = .ok (.iadd, 1) from dk_at dq20_33 (i := 0) rfl) rfl, ?_⟩
  refine List.forall_mem_cons.mpr ⟨ok_iaload C (show decode cX7_leftAfter 27 = .ok (.iaload, 1) from dk_at dq20_33 (i := 1) rfl) rfl, ?_⟩
  refine List.forall_mem_cons.mpr ⟨ok_isub C (show decode cX7_leftAfter 28 = .ok (.isub, 1) from dk_at dq20_33 (i := 2) rfl) rfl, ?_⟩
  refine List.forall_mem_cons.mpr ⟨ok_ret C rfl (show decode cX7_leftAfter 29 = .ok (.ireturn, 1) from dk_at dq20_33 (i := 3) rfl), ?_⟩
  exact fun _ h => absurd h List.not_mem_nil
def L_X6_makeAndEat (f_X7_leftAfter : List Value → ab_H → Option ab_O) : List (Nat × ab_A) := [
  (0, ab_nx 1 (ab_lit (.int 0))),
  (1, ab_nx 2 (ab_istore 2)),
  (2, ab_nx 3 (ab_iload 2)),
  (3, ab_nx 4 (ab_lit (.int 2))),
  (4, ab_nx 5 (ab_aload 1)),
  (5, ab_nx 8 (ab_getf 7 8)),
  (8, ab_nx 9 (ab_bin (fun x y => x * y))),
  (9, ab_icmp 12 55 (fun x y => decide (y ≤ x))),
  (12, ab_nx 13 (ab_aload 1)),
  (13, ab_nx 14 (ab_iload 2)),
  (14, ab_nx 15 (ab_aload 0)),
  (15, ab_nx 18 (ab_getf 6 0)),
  (18, ab_nx 19 (ab_iload 2)),
  (19, ab_nx 20 (ab_ald 1)),
  (20, ab_nx 23 (ab_callV 3 7 f_X7_leftAfter 0 0 0 0)),
  (23, ab_nx 24 (ab_istore 3)),
  (24, ab_nx 25 (ab_iload 3)),
  (25, ab_if 28 38 (fun x => decide (0 ≤ x))),
  (28, ab_nx 29 (ab_aload 0)),
  (29, ab_nx 32 (ab_getf 6 2)),
  (32, ab_nx 33 (ab_iload 2)),
  (33, ab_nx 34 ab_dup2),
  (34, ab_nx 35 (ab_ald 1)),
  (35, ab_nx 36 (ab_iload 3)),
  (36, ab_nx 37 (ab_bin (fun x y => x - y))),
  (37, ab_nx 38 (ab_ast 1)),
  (38, ab_nx 39 (ab_aload 0)),
  (39, ab_nx 42 (ab_getf 6 0)),
  (42, ab_nx 43 (ab_iload 2)),
  (43, ab_nx 44 (ab_lit (.int 0))),
  (44, ab_nx 45 (ab_iload 3)),
  (45, ab_nx 48 (ab_mm ab_max 0 0)),
  (48, ab_nx 49 (ab_ast 1)),
  (49, ab_nx 52 (ab_iinc 2 1)),
  (52, ab_goto 2),
  (55, ab_vret 0 0)]
set_option maxRecDepth 100000 in
theorem dq20_34 : ([(0, .iconst 0, 1), (1, .istore_n 2, 1), (2, .iload_n 2, 1), (3, .iconst 2, 1), (4, .aload_n 1, 1), (5, .getfield 97, 3), (8, .imul, 1), (9, .if_icmp .ge 46, 3), (12, .aload_n 1, 1), (13, .iload_n 2, 1), (14, .aload_n 0, 1), (15, .getfield 9, 3), (18, .iload_n 2, 1), (19, .iaload, 1), (20, .invokevirtual 100, 3), (23, .istore_n 3, 1)] : List (Nat × Instr × Nat)).all (fun q => decide (decode cX6_makeAndEat q.1 = .ok q.2)) = true := by decide +kernel
set_option maxRecDepth 100000 in
theorem dq20_35 : ([(24, .iload_n 3, 1), (25, .ifCond .ge 13, 3), (28, .aload_n 0, 1), (29, .getfield 18, 3), (32, .iload_n 2, 1), (33, .dup2, 1), (34, .iaload, 1), (35, .iload_n 3, 1), (36, .isub, 1), (37, .iastore, 1), (38, .aload_n 0, 1), (39, .getfield 9, 3), (42, .iload_n 2, 1), (43, .iconst 0, 1), (44, .iload_n 3, 1), (45, .invokestatic 58, 3)] : List (Nat × Instr × Nat)).all (fun q => decide (decode cX6_makeAndEat q.1 = .ok q.2)) = true := by decide +kernel
set_option maxRecDepth 100000 in
theorem dq20_36 : ([(48, .iastore, 1), (49, .iinc 2 1, 3), (52, .goto (-50), 3), (55, .return_, 1)] : List (Nat × Instr × Nat)).all (fun q => decide (decode cX6_makeAndEat q.1 = .ok q.2)) = true := by decide +kernel
set_option maxRecDepth 100000 in
set_option maxHeartbeats 4000000 in
theorem M_X6_makeAndEat {l : Launch} {b : ab_B} {D : va_G} {cA : Nat → ClassId} {f_X7_leftAfter : List Value → ab_H → Option ab_O} (h_X7_leftAfter : ab_M l b D ab_cl cA (ab_E0 b) yX7_leftAfter (Cond.code yX7_leftAfter cX7_leftAfter 4 (some .int) :: ab_G) ({ frames := 2, cells := 0, slots := 0, locals := 200 } : Room) f_X7_leftAfter) : ab_M l b D ab_cl cA (ab_E0 b) yX6_makeAndEat (Cond.code yX6_makeAndEat cX6_makeAndEat 4 none :: ab_G) ({ frames := 3, cells := 0, slots := 0, locals := 300 } : Room) (ab_X (ab_T (L_X6_makeAndEat f_X7_leftAfter)) 4) := by
  refine ab_meth (ret := none) (L_X6_makeAndEat f_X7_leftAfter) (by decide) rfl fun p e R s m args below meth c o C => ?_
  unfold L_X6_makeAndEat
  refine List.forall_mem_cons.mpr ⟨ok_iconst C (show decode cX6_makeAndEat 0 = .ok (.iconst 0, 1) from dk_at dq20_34 (i := 0) rfl) (by decide) rfl, ?_⟩
  refine List.forall_mem_cons.mpr ⟨ok_istore_n C (show decode cX6_makeAndEat 1 = .ok (.istore_n 2, 1) from dk_at dq20_34 (i := 1) rfl) rfl (by decide) rfl, ?_⟩
  refine List.forall_mem_cons.mpr ⟨ok_iload_n C (show decode cX6_makeAndEat 2 = .ok (.iload_n 2, 1) from dk_at dq20_34 (i := 2) rfl) rfl rfl, ?_⟩
  refine List.forall_mem_cons.mpr ⟨ok_iconst C (show decode cX6_makeAndEat 3 = .ok (.iconst 2, 1) from dk_at dq20_34 (i := 3) rfl) (by decide) rfl, ?_⟩
  refine List.forall_mem_cons.mpr ⟨ok_aload_n C (show decode cX6_makeAndEat 4 = .ok (.aload_n 1, 1) from dk_at dq20_34 (i := 4) rfl) rfl rfl, ?_⟩
  refine List.forall_mem_cons.mpr ⟨ok_getf C (wi_X7) rfl (by decide) kw_251 (show decode cX6_makeAndEat 5 = .ok (.getfield 97, 3) from dk_at dq20_34 (i := 5) rfl) rfl, ?_⟩
  refine List.forall_mem_cons.mpr ⟨ok_imul C (show decode cX6_makeAndEat 8 = .ok (.imul, 1) from dk_at dq20_34 (i := 6) rfl) rfl, ?_⟩
  refine List.forall_mem_cons.mpr ⟨ok_icmpge C (show decode cX6_makeAndEat 9 = .ok (.if_icmp .ge 46, 3) from dk_at dq20_34 (i := 7) rfl) (tg := 55) (by decide) rfl rfl, ?_⟩
  refine List.forall_mem_cons.mpr ⟨ok_aload_n C (show decode cX6_makeAndEat 12 = .ok (.aload_n 1, 1) from dk_at dq20_34 (i := 8) rfl) rfl rfl, ?_⟩
  refine List.forall_mem_cons.mpr ⟨ok_iload_n C (show decode cX6_makeAndEat 13 = .ok (.iload_n 2, 1) from dk_at dq20_34 (i := 9) rfl) rfl rfl, ?_⟩
  refine List.forall_mem_cons.mpr ⟨ok_aload_n C (show decode cX6_makeAndEat 14 = .ok (.aload_n 0, 1) from dk_at dq20_34 (i := 10) rfl) rfl rfl, ?_⟩
  refine List.forall_mem_cons.mpr ⟨ok_getf C (wi_X6) rfl (by decide) kw_142 (show decode cX6_makeAndEat 15 = .ok (.getfield 9, 3) from dk_at dq20_34 (i := 11) rfl) rfl, ?_⟩
  refine List.forall_mem_cons.mpr ⟨ok_iload_n C (show decode cX6_makeAndEat 18 = .ok (.iload_n 2, 1) from dk_at dq20_34 (i := 12) rfl) rfl rfl, ?_⟩
  refine List.forall_mem_cons.mpr ⟨ok_iaload C (show decode cX6_makeAndEat 19 = .ok (.iaload, 1) from dk_at dq20_34 (i := 13) rfl) rfl, ?_⟩
  refine List.forall_mem_cons.mpr ⟨ok_callV C h_X7_leftAfter ⟨rfl, rfl⟩ rfl kw_779 kw_776 kw_777 kw_778 kw_9 rfl ds_X7_leftAfter ⟨by decide, by decide⟩ (show decode cX6_makeAndEat 20 = .ok (.invokevirtual 100, 3) from dk_at dq20_34 (i := 14) rfl) rfl, ?_⟩
  refine List.forall_mem_cons.mpr ⟨ok_istore_n C (show decode cX6_makeAndEat 23 = .ok (.istore_n 3, 1) from dk_at dq20_34 (i := 15) rfl) rfl (by decide) rfl, ?_⟩
  refine List.forall_mem_cons.mpr ⟨ok_iload_n C (show decode cX6_makeAndEat 24 = .ok (.iload_n 3, 1) from dk_at dq20_35 (i := 0) rfl) rfl rfl, ?_⟩
  refine List.forall_mem_cons.mpr ⟨ok_ifge C (show decode cX6_makeAndEat 25 = .ok (.ifCond .ge 13, 3) from dk_at dq20_35 (i := 1) rfl) (tg := 38) (by decide) rfl rfl, ?_⟩
  refine List.forall_mem_cons.mpr ⟨ok_aload_n C (show decode cX6_makeAndEat 28 = .ok (.aload_n 0, 1) from dk_at dq20_35 (i := 2) rfl) rfl rfl, ?_⟩
  refine List.forall_mem_cons.mpr ⟨ok_getf C (wi_X6) rfl (by decide) kw_149 (show decode cX6_makeAndEat 29 = .ok (.getfield 18, 3) from dk_at dq20_35 (i := 3) rfl) rfl, ?_⟩
  refine List.forall_mem_cons.mpr ⟨ok_iload_n C (show decode cX6_makeAndEat 32 = .ok (.iload_n 2, 1) from dk_at dq20_35 (i := 4) rfl) rfl rfl, ?_⟩
  refine List.forall_mem_cons.mpr ⟨ok_dup2 C (show decode cX6_makeAndEat 33 = .ok (.dup2, 1) from dk_at dq20_35 (i := 5) rfl) rfl, ?_⟩
  refine List.forall_mem_cons.mpr ⟨ok_iaload C (show decode cX6_makeAndEat 34 = .ok (.iaload, 1) from dk_at dq20_35 (i := 6) rfl) rfl, ?_⟩
  refine List.forall_mem_cons.mpr ⟨ok_iload_n C (show decode cX6_makeAndEat 35 = .ok (.iload_n 3, 1) from dk_at dq20_35 (i := 7) rfl) rfl rfl, ?_⟩
  refine List.forall_mem_cons.mpr ⟨ok_isub C (show decode cX6_makeAndEat 36 = .ok (.isub, 1) from dk_at dq20_35 (i := 8) rfl) rfl, ?_⟩
  refine List.forall_mem_cons.mpr ⟨ok_iastore C (show decode cX6_makeAndEat 37 = .ok (.iastore, 1) from dk_at dq20_35 (i := 9) rfl) rfl, ?_⟩
  refine List.forall_mem_cons.mpr ⟨ok_aload_n C (show decode cX6_makeAndEat 38 = .ok (.aload_n 0, 1) from dk_at dq20_35 (i := 10) rfl) rfl rfl, ?_⟩
  refine List.forall_mem_cons.mpr ⟨ok_getf C (wi_X6) rfl (by decide) kw_142 (show decode cX6_makeAndEat 39 = .ok (.getfield 9, 3) from dk_at dq20_35 (i := 11) rfl) rfl, ?_⟩
  refine List.forall_mem_cons.mpr ⟨ok_iload_n C (show decode cX6_makeAndEat 42 = .ok (.iload_n 2, 1) from dk_at dq20_35 (i := 12) rfl) rfl rfl, ?_⟩
  refine List.forall_mem_cons.mpr ⟨ok_iconst C (show decode cX6_makeAndEat 43 = .ok (.iconst 0, 1) from dk_at dq20_35 (i := 13) rfl) (by decide) rfl, ?_⟩
  refine List.forall_mem_cons.mpr ⟨ok_iload_n C (show decode cX6_makeAndEat 44 = .ok (.iload_n 3, 1) from dk_at dq20_35 (i := 14) rfl) rfl rfl, ?_⟩
  refine List.forall_mem_cons.mpr ⟨ok_mmax C kw_606 kw_607 kw_16 kw_608 ⟨by decide, by decide⟩ (show decode cX6_makeAndEat 45 = .ok (.invokestatic 58, 3) from dk_at dq20_35 (i := 15) rfl) rfl, ?_⟩
  refine List.forall_mem_cons.mpr ⟨ok_iastore C (show decode cX6_makeAndEat 48 = .ok (.iastore, 1) from dk_at dq20_36 (i := 0) rfl) rfl, ?_⟩
  refine List.forall_mem_cons.mpr ⟨ok_iinc C (show decode cX6_makeAndEat 49 = .ok (.iinc 2 1, 3) from dk_at dq20_36 (i := 1) rfl) (by decide) (by decide) rfl, ?_⟩
  refine List.forall_mem_cons.mpr ⟨ok_goto C (show decode cX6_makeAndEat 52 = .ok (.goto (-50), 3) from dk_at dq20_36 (i := 2) rfl) (tg := 2) (by decide) rfl, ?_⟩
  refine List.forall_mem_cons.mpr ⟨ok_vret C rfl (show decode cX6_makeAndEat 55 = .ok (.return_, 1) from dk_at dq20_36 (i := 3) rfl), ?_⟩
  exact fun _ h => absurd h List.not_mem_nil
end
-- 21.m01.lean.txt
section
def L_X6_countApart : List (Nat × ab_A) := [
  (0, ab_nx 1 (ab_lit (.int 0))),
  (1, ab_nx 2 (ab_istore 2)),
  (2, ab_nx 3 (ab_iload 2)),
  (3, ab_nx 4 (ab_aload 1)),
  (4, ab_nx 7 (ab_getf 7 9)),
  (7, ab_icmp 10 74 (fun x y => decide (y ≤ x))),
  (10, ab_nx 11 (ab_lit (.int 0))),
  (11, ab_nx 12 (ab_istore 3)),
  (12, ab_nx 13 (ab_iload 3)),
  (13, ab_nx 14 (ab_iload 2)),
  (14, ab_icmp 17 68 (fun x y => decide (y ≤ x))),
  (17, ab_nx 18 (ab_iload 2)),
  (18, ab_nx 20 (ab_lit (.int 8))),
  (20, ab_nx 21 (ab_bin (fun x y => x * y))),
  (21, ab_nx 22 (ab_iload 3)),
  (22, ab_nx 23 (ab_bin (fun x y => x + y))),
  (23, ab_nx 25 (ab_istore 4)),
  (25, ab_nx 26 (ab_aload 0)),
  (26, ab_nx 29 (ab_getf 6 4)),
  (29, ab_nx 30 (ab_iload 2)),
  (30, ab_nx 31 (ab_ald 1)),
  (31, ab_nx 32 (ab_aload 0)),
  (32, ab_nx 35 (ab_getf 6 4)),
  (35, ab_nx 36 (ab_iload 3)),
  (36, ab_nx 37 (ab_ald 1)),
  (37, ab_icmp 40 51 (fun x y => !decide (x = y))),
  (40, ab_nx 41 (ab_aload 0)),
  (41, ab_nx 44 (ab_getf 6 6)),
  (44, ab_nx 46 (ab_iload 4)),
  (46, ab_nx 47 (ab_lit (.int 0))),
  (47, ab_nx 48 (ab_ast 1)),
  (48, ab_goto 62),
  (51, ab_nx 52 (ab_aload 0)),
  (52, ab_nx 55 (ab_getf 6 6)),
  (55, ab_nx 57 (ab_iload 4)),
  (57, ab_nx 58 ab_dup2),
  (58, ab_nx 59 (ab_ald 1)),
  (59, ab_nx 60 (ab_lit (.int 1))),
  (60, ab_nx 61 (ab_bin (fun x y => x + y))),
  (61, ab_nx 62 (ab_ast 1)),
  (62, ab_nx 65 (ab_iinc 3 1)),
  (65, ab_goto 12),
  (68, ab_nx 71 (ab_iinc 2 1)),
  (71, ab_goto 2),
  (74, ab_vret 0 0)]
set_option maxRecDepth 100000 in
theorem dq21_0 : ([(0, .iconst 0, 1), (1, .istore_n 2, 1), (2, .iload_n 2, 1), (3, .aload_n 1, 1), (4, .getfield 63, 3), (7, .if_icmp .ge 67, 3), (10, .iconst 0, 1), (11, .istore_n 3, 1), (12, .iload_n 3, 1), (13, .iload_n 2, 1), (14, .if_icmp .ge 54, 3), (17, .iload_n 2, 1), (18, .bipush 8, 2), (20, .imul, 1), (21, .iload_n 3, 1), (22, .iadd, 1)] : List (Nat × Instr × Nat)).all (fun q => decide (decode cX6_countApart q.1 = .ok q.2)) = true := by decide +kernel
set_option maxRecDepth 100000 in
theorem dq21_1 : ([(23, .istore 4, 2), (25, .aload_n 0, 1), (26, .getfield 24, 3), (29, .iload_n 2, 1), (30, .iaload, 1), (31, .aload_n 0, 1), (32, .getfield 24, 3), (35, .iload_n 3, 1), (36, .iaload, 1), (37, .if_icmp .ne 14, 3), (40, .aload_n 0, 1), (41, .getfield 30, 3), (44, .iload 4, 2), (46, .iconst 0, 1), (47, .iastore, 1), (48, .goto 14, 3)] : List (Nat × Instr × Nat)).all (fun q => decide (decode cX6_countApart q.1 = .ok q.2)) = true := by decide +kernel
set_option maxRecDepth 100000 in
theorem dq21_2 : ([(51, .aload_n 0, 1), (52, .getfield 30, 3), (55, .iload 4, 2), (57, .dup2, 1), (58, .iaload, 1), (59, .iconst 1, 1), (60, .iadd, 1), (61, .iastore, 1), (62, .iinc 3 1, 3), (65, .goto (-53), 3), (68, .iinc 2 1, 3), (71, .goto (-69), 3), (74, .return_, 1)] : List (Nat × Instr × Nat)).all (fun q => decide (decode cX6_countApart q.1 = .ok q.2)) = true := by decide +kernel
set_option maxRecDepth 100000 in
set_option maxHeartbeats 4000000 in
theorem M_X6_countApart {l : Launch} {b : ab_B} {D : va_G} {cA : Nat → ClassId} : ab_M l b D ab_cl cA (ab_E0 b) yX6_countApart (Cond.code yX6_countApart cX6_countApart 5 none :: ab_G) ({ frames := 1, cells := 0, slots := 0, locals := 100 } : Room) (ab_X (ab_T L_X6_countApart) 5) := by
  refine ab_meth (ret := none) L_X6_countApart (by decide) rfl fun p e R s m args below meth c o C => ?_
  unfold L_X6_countApart
  refine List.forall_mem_cons.mpr ⟨ok_iconst C (show decode cX6_countApart 0 = .ok (.iconst 0, 1) from dk_at dq21_0 (i := 0) rfl) (by decide) rfl, ?_⟩
  refine List.forall_mem_cons.mpr ⟨ok_istore_n C (show decode cX6_countApart 1 = .ok (.istore_n 2, 1) from dk_at dq21_0 (i := 1) rfl) rfl (by decide) rfl, ?_⟩
  refine List.forall_mem_cons.mpr ⟨ok_iload_n C (show decode cX6_countApart 2 = .ok (.iload_n 2, 1) from dk_at dq21_0 (i := 2) rfl) rfl rfl, ?_⟩
  refine List.forall_mem_cons.mpr ⟨ok_aload_n C (show decode cX6_countApart 3 = .ok (.aload_n 1, 1) from dk_at dq21_0 (i := 3) rfl) rfl rfl, ?_⟩
  refine List.forall_mem_cons.mpr ⟨ok_getf C (wi_X7) rfl (by decide) kw_255 (show decode cX6_countApart 4 = .ok (.getfield 63, 3) from dk_at dq21_0 (i := 4) rfl) rfl, ?_⟩
  refine List.forall_mem_cons.mpr ⟨ok_icmpge C (show decode cX6_countApart 7 = .ok (.if_icmp .ge 67, 3) from dk_at dq21_0 (i := 5) rfl) (tg := 74) (by decide) rfl rfl, ?_⟩
  refine List.forall_mem_cons.mpr ⟨ok_iconst C (show decode cX6_countApart 10 = .ok (.iconst 0, 1) from dk_at dq21_0 (i := 6) rfl) (by decide) rfl, ?_⟩
  refine List.forall_mem_cons.mpr ⟨ok_istore_n C (show decode cX6_countApart 11 = .ok (.istore_n 3, 1) from dk_at dq21_0 (i := 7) rfl) rfl (by decide) rfl, ?_⟩
  refine List.forall_mem_cons.mpr ⟨ok_iload_n C (show decode cX6_countApart 12 = .ok (.iload_n 3, 1) from dk_at dq21_0 (i := 8) rfl) rfl rfl, ?_⟩
  refine List.forall_mem_cons.mpr ⟨ok_iload_n C (show decode cX6_countApart 13 = .ok (.iload_n 2, 1) from dk_at dq21_0 (i := 9) rfl) rfl rfl, ?_⟩
  refine List.forall_mem_cons.mpr ⟨ok_icmpge C (show decode cX6_countApart 14 = .ok (.if_icmp .ge 54, 3) from dk_at dq21_0 (i := 10) rfl) (tg := 68) (by decide) rfl rfl, ?_⟩
  refine List.forall_mem_cons.mpr ⟨ok_iload_n C (show decode cX6_countApart 17 = .ok (.iload_n 2, 1) from dk_at dq21_0 (i := 11) rfl) rfl rfl, ?_⟩
  refine List.forall_mem_cons.mpr ⟨ok_bipush C (show decode cX6_countApart 18 = .ok (.bipush 8, 2) from dk_at dq21_0 (i := 12) rfl) (by decide) rfl, ?_⟩
  refine List.forall_mem_cons.mpr ⟨ok_imul C (show decode cX6_countApart 20 = .ok (.imul, 1) from dk_at dq21_0 (i := 13) rfl) rfl, ?_⟩
  refine List.forall_mem_cons.mpr ⟨ok_iload_n C (show decode cX6_countApart 21 = .ok (.iload_n 3, 1) from dk_at dq21_0 (i := 14) rfl) rfl rfl, ?_⟩
  refine List.forall_mem_cons.mpr ⟨ok_iadd C (show decode cX6_countApart 22 = .ok (.iadd, 1) from dk_at dq21_0 (i := 15) rfl) rfl, ?_⟩
  refine List.forall_mem_cons.mpr ⟨ok_istore C (show decode cX6_countApart 23 = .ok (.istore 4, 2) from dk_at dq21_1 (i := 0) rfl) (by decide) rfl, ?_⟩
  refine List.forall_mem_cons.mpr ⟨ok_aload_n C (show decode cX6_countApart 25 = .ok (.aload_n 0, 1) from dk_at dq21_1 (i := 1) rfl) rfl rfl, ?_⟩
  refine List.forall_mem_cons.mpr ⟨ok_getf C (wi_X6) rfl (by decide) kw_155 (show decode cX6_countApart 26 = .ok (.getfield 24, 3) from dk_at dq21_1 (i := 2) rfl) rfl, ?_⟩
  refine List.forall_mem_cons.mpr ⟨ok_iload_n C (show decode cX6_countApart 29 = .ok (.iload_n 2, 1) from dk_at dq21_1 (i := 3) rfl) rfl rfl, ?_⟩
  refine List.forall_mem_cons.mpr ⟨ok_iaload C (show decode cX6_countApart 30 = .ok (.iaload, 1) from dk_at dq21_1 (i := 4) rfl) rfl, ?_⟩
  refine List.forall_mem_cons.mpr ⟨ok_aload_n C (show decode cX6_countApart 31 = .ok (.aload_n 0, 1) from dk_at dq21_1 (i := 5) rfl) rfl rfl, ?_⟩
  refine List.forall_mem_cons.mpr ⟨ok_getf C (wi_X6) rfl (by decide) kw_155 (show decode cX6_countApart 32 = .ok (.getfield 24, 3) from dk_at dq21_1 (i := 6) rfl) rfl, ?_⟩
  refine List.forall_mem_cons.mpr ⟨ok_iload_n C (show decode cX6_countApart 35 = .ok (.iload_n 3, 1) from dk_at dq21_1 (i := 7) rfl) rfl rfl, ?_⟩
  refine List.forall_mem_cons.mpr ⟨ok_iaload C (show decode cX6_countApart 36 = .ok (.iaload, 1) from dk_at dq21_1 (i := 8) rfl) rfl, ?_⟩
  refine List.forall_mem_cons.mpr ⟨ok_icmpne C (show decode cX6_countApart 37 = .ok (.if_icmp .ne 14, 3) from dk_at dq21_1 (i := 9) rfl) (tg := 51) (by decide) rfl rfl, ?_⟩
  refine List.forall_mem_cons.mpr ⟨ok_aload_n C (show decode cX6_countApart 40 = .ok (.aload_n 0, 1) from dk_at dq21_1 (i := 10) rfl) rfl rfl, ?_⟩
  refine List.forall_mem_cons.mpr ⟨ok_getf C (wi_X6) rfl (by decide) kw_161 (show decode cX6_countApart 41 = .ok (.getfield 30, 3) from dk_at dq21_1 (i := 11) rfl) rfl, ?_⟩
  refine List.forall_mem_cons.mpr ⟨ok_iload C (show decode cX6_countApart 44 = .ok (.iload 4, 2) from dk_at dq21_1 (i := 12) rfl) rfl, ?_⟩
  refine List.forall_mem_cons.mpr ⟨ok_iconst C (show decode cX6_countApart 46 = .ok (.iconst 0, 1) from dk_at dq21_1 (i := 13) rfl) (by decide) rfl, ?_⟩
  refine List.forall_mem_cons.mpr ⟨ok_iastore C (show decode cX6_countApart 47 = .ok (.iastore, 1) from dk_at dq21_1 (i := 14) rfl) rfl, ?_⟩
  refine List.forall_mem_cons.mpr ⟨ok_goto C (show decode cX6_countApart 48 = .ok (.goto 14, 3) from dk_at dq21_1 (i := 15) rfl) (tg := 62) (by decide) rfl, ?_⟩
  refine List.forall_mem_cons.mpr ⟨ok_aload_n C (show decode cX6_countApart 51 = .ok (.aload_n 0, 1) from dk_at dq21_2 (i := 0) rfl) rfl rfl, ?_⟩
  refine List.forall_mem_cons.mpr ⟨ok_getf C (wi_X6) rfl (by decide) kw_161 (show decode cX6_countApart 52 = .ok (.getfield 30, 3) from dk_at dq21_2 (i := 1) rfl) rfl, ?_⟩
  refine List.forall_mem_cons.mpr ⟨ok_iload C (show decode cX6_countApart 55 = .ok (.iload 4, 2) from dk_at dq21_2 (i := 2) rfl) rfl, ?_⟩
  refine List.forall_mem_cons.mpr ⟨ok_dup2 C (show decode cX6_countApart 57 = .ok (.dup2, 1) from dk_at dq21_2 (i := 3) rfl) rfl, ?_⟩
  refine List.forall_mem_cons.mpr ⟨ok_iaload C (show decode cX6_countApart 58 = .ok (.iaload, 1) from dk_at dq21_2 (i := 4) rfl) rfl, ?_⟩
  refine List.forall_mem_cons.mpr ⟨ok_iconst C (show decode cX6_countApart 59 = .ok (.iconst 1, 1) from dk_at dq21_2 (i := 5) rfl) (by decide) rfl, ?_⟩
  refine List.forall_mem_cons.mpr ⟨ok_iadd C (show decode cX6_countApart 60 = .ok (.iadd, 1) from dk_at dq21_2 (i := 6) rfl) rfl, ?_⟩
  refine List.forall_mem_cons.mpr ⟨ok_iastore C (show decode cX6_countApart 61 = .ok (.iastore, 1) from dk_at dq21_2 (i := 7) rfl) rfl, ?_⟩
  refine List.forall_mem_cons.mpr ⟨ok_iinc C (show decode cX6_countApart 62 = .ok (.iinc 3 1, 3) from dk_at dq21_2 (i := 8) rfl) (by decide) (by decide) rfl, ?_⟩
  refine List.forall_mem_cons.mpr ⟨ok_goto C (show decode cX6_countApart 65 = .ok (.goto (-53), 3) from dk_at dq21_2 (i := 9) rfl) (tg := 12) (by decide) rfl, ?_⟩
  refine List.forall_mem_cons.mpr ⟨ok_iinc C (show decode cX6_countApart 68 = .ok (.iinc 2 1, 3) from dk_at dq21_2 (i := 10) rfl) (by decide) (by decide) rfl, ?_⟩
  refine List.forall_mem_cons.mpr ⟨ok_goto C (show decode cX6_countApart 71 = .ok (.goto (-69), 3) from dk_at dq21_2 (i := 11) rfl) (tg := 2) (by decide) rfl, ?_⟩
  refine List.forall_mem_cons.mpr ⟨ok_vret C rfl (show decode cX6_countApart 74 = .ok (.return_, 1) from dk_at dq21_2 (i := 12) rfl), ?_⟩
  exact fun _ h => absurd h List.not_mem_nil
def L_X1_passDays (f_X1_plan : List Value → ab_H → Option ab_O) (f_X1_carry : List Value → ab_H → Option ab_O) (f_X6_makeAndEat : List Value → ab_H → Option ab_O) (f_X6_countApart : List Value → ab_H → Option ab_O) : List (Nat × ab_A) := [
  (0, ab_nx 1 (ab_aload 2)),
  (1, ab_nx 4 (ab_getf 6 7)),
  (4, ab_nx 6 (ab_istore 4)),
  (6, ab_nx 7 (ab_lit (.int 0))),
  (7, ab_nx 9 (ab_istore 5)),
  (9, ab_nx 11 (ab_iload 5)),
  (11, ab_nx 12 (ab_iload 3)),
  (12, ab_icmp 15 63 (fun x y => decide (y ≤ x))),
  (15, ab_nx 16 (ab_aload 2)),
  (16, ab_nx 19 (ab_getf 6 7)),
  (19, ab_nx 22 (ab_lit (.int 400))),
  (22, ab_icmp 25 63 (fun x y => decide (y ≤ x))),
  (25, ab_nx 26 (ab_aload 0)),
  (26, ab_nx 27 (ab_aload 1)),
  (27, ab_nx 28 (ab_aload 2)),
  (28, ab_nx 31 (ab_callV 3 1 f_X1_plan 0 0 0 0)),
  (31, ab_nx 32 (ab_aload 0)),
  (32, ab_nx 33 (ab_aload 1)),
  (33, ab_nx 34 (ab_aload 2)),
  (34, ab_nx 37 (ab_callV 3 1 f_X1_carry 0 0 0 0)),
  (37, ab_nx 38 (ab_aload 2)),
  (38, ab_nx 39 (ab_aload 1)),
  (39, ab_nx 42 (ab_callV 2 6 f_X6_makeAndEat 0 0 0 0)),
  (42, ab_nx 43 (ab_aload 2)),
  (43, ab_nx 44 (ab_aload 1)),
  (44, ab_nx 47 (ab_callV 2 6 f_X6_countApart 0 0 0 0)),
  (47, ab_nx 48 (ab_aload 2)),
  (48, ab_nx 49 ab_dup),
  (49, ab_nx 52 (ab_getf 6 7)),
  (52, ab_nx 53 (ab_lit (.int 1))),
  (53, ab_nx 54 (ab_bin (fun x y => x + y))),
  (54, ab_nx 57 (ab_putf 6 7 0)),
  (57, ab_nx 60 (ab_iinc 5 1)),
  (60, ab_goto 9),
  (63, ab_nx 64 (ab_aload 2)),
  (64, ab_nx 67 (ab_getf 6 7)),
  (67, ab_nx 69 (ab_iload 4)),
  (69, ab_nx 70 (ab_bin (fun x y => x - y))),
  (70, ab_ret 0 0)]
set_option maxRecDepth 100000 in
theorem dq21_3 : ([(0, .aload_n 2, 1), (1, .getfield 33, 3), (4, .istore 4, 2), (6, .iconst 0, 1), (7, .istore 5, 2), (9, .iload 5, 2), (11, .iload_n 3, 1), (12, .if_icmp .ge 51, 3), (15, .aload_n 2, 1), (16, .getfield 33, 3), (19, .sipush 400, 3), (22, .if_icmp .ge 41, 3), (25, .aload_n 0, 1), (26, .aload_n 1, 1), (27, .aload_n 2, 1), (28, .invokevirtual 75, 3)] : List (Nat × Instr × Nat)).all (fun q => decide (decode cX1_passDays q.1 = .ok q.2)) = true := by decide +kernel
set_option maxRecDepth 100000 in
theorem dq21_4 : ([(31, .aload_n 0, 1), (32, .aload_n 1, 1), (33, .aload_n 2, 1), (34, .invokevirtual 79, 3), (37, .aload_n 2, 1), (38, .aload_n 1, 1), (39, .invokevirtual 82, 3), (42, .aload_n 2, 1), (43, .aload_n 1, 1), (44, .invokevirtual 86, 3), (47, .aload_n 2, 1), (48, .dup, 1), (49, .getfield 33, 3), (52, .iconst 1, 1), (53, .iadd, 1), (54, .putfield 33, 3)] : List (Nat × Instr × Nat)).all (fun q => decide (decode cX1_passDays q.1 = .ok q.2)) = true := by decide +kernel
set_option maxRecDepth 100000 in
theorem dq21_5 : ([(57, .iinc 5 1, 3), (60, .goto (-51), 3), (63, .aload_n 2, 1), (64, .getfield 33, 3), (67, .iload 4, 2), (69, .isub, 1), (70, .ireturn, 1)] : List (Nat × Instr × Nat)).all (fun q => decide (decode cX1_passDays q.1 = .ok q.2)) = true := by decide +kernel
set_option maxRecDepth 100000 in
set_option maxHeartbeats 4000000 in
theorem M_X1_passDays {l : Launch} {b : ab_B} {D : va_G} {cA : Nat → ClassId} {f_X1_plan : List Value → ab_H → Option ab_O} (h_X1_plan : ab_M l b D ab_cl cA (ab_E0 b) yX1_plan (Cond.code yX1_plan cX1_plan 8 none :: ab_G) ({ frames := 4, cells := 0, slots := 0, locals := 400 } : Room) f_X1_plan) {f_X1_carry : List Value → ab_H → Option ab_O} (h_X1_carry : ab_M l b D ab_cl cA (ab_E0 b) yX1_carry (Cond.code yX1_carry cX1_carry 5 none :: ab_G) ({ frames := 2, cells := 0, slots := 0, locals := 200 } : Room) f_X1_carry) {f_X6_makeAndEat : List Value → ab_H → Option ab_O} (h_X6_makeAndEat : ab_M l b D ab_cl cA (ab_E0 b) yX6_makeAndEat (Cond.code yX6_makeAndEat cX6_makeAndEat 4 none :: ab_G) ({ frames := 3, cells := 0, slots := 0, locals := 300 } : Room) f_X6_makeAndEat) {f_X6_countApart : List Value → ab_H → Option ab_O} (h_X6_countApart : ab_M l b D ab_cl cA (ab_E0 b) yX6_countApart (Cond.code yX6_countApart cX6_countApart 5 none :: ab_G) ({ frames := 1, cells := 0, slots := 0, locals := 100 } : Room) f_X6_countApart) : ab_M l b D ab_cl cA (ab_E0 b) yX1_passDays (Cond.code yX1_passDays cX1_passDays 6 (some .int) :: ab_G) ({ frames := 5, cells := 0, slots := 0, locals := 500 } : Room) (ab_X (ab_T (L_X1_passDays f_X1_plan f_X1_carry f_X6_makeAndEat f_X6_countApart)) 6) := by
  refine ab_meth (ret := (some .int)) (L_X1_passDays f_X1_plan f_X1_carry f_X6_makeAndEat f_X6_countApart) (by decide) rfl fun p e R s m args below meth c o C => ?_
  unfold L_X1_passDays
  refine List.forall_mem_cons.mpr ⟨ok_aload_n C (show decode cX1_passDays 0 = .ok (.aload_n 2, 1) from dk_at dq21_3 (i := 0) rfl) rfl rfl, ?_⟩
  refine List.forall_mem_cons.mpr ⟨ok_getf C (wi_X6) rfl (by decide) kw_163 (show decode cX1_passDays 1 = .ok (.getfield 33, 3) from dk_at dq21_3 (i := 1) rfl) rfl, ?_⟩
  refine List.forall_mem_cons.mpr ⟨ok_istore C (show decode cX1_passDays 4 = .ok (.istore 4, 2) from dk_at dq21_3 (i := 2) rfl) (by decide) rfl, ?_⟩
  refine List.forall_mem_cons.mpr ⟨ok_iconst C (show decode cX1_passDays 6 = .ok (.iconst 0, 1) from dk_at dq21_3 (i := 3) rfl) (by decide) rfl, ?_⟩
  refine List.forall_mem_cons.mpr ⟨ok_istore C (show decode cX1_passDays 7 = .ok (.istore 5, 2) from dk_at dq21_3 (i := 4) rfl) (by decide) rfl, ?_⟩
  refine List.forall_mem_cons.mpr ⟨ok_iload C (show decode cX1_passDays 9 = .ok (.iload 5, 2) from dk_at dq21_3 (i := 5) rfl) rfl, ?_⟩
  refine List.forall_mem_cons.mpr ⟨ok_iload_n C (show decode cX1_passDays 11 = .ok (.iload_n 3, 1) from dk_at dq21_3 (i := 6) rfl) rfl rfl, ?_⟩
  refine List.forall_mem_cons.mpr ⟨ok_icmpge C (show decode cX1_passDays 12 = .ok (.if_icmp .ge 51, 3) from dk_at dq21_3 (i := 7) rfl) (tg := 63) (by decide) rfl rfl, ?_⟩
  refine List.forall_mem_cons.mpr ⟨ok_aload_n C (show decode cX1_passDays 15 = .ok (.aload_n 2, 1) from dk_at dq21_3 (i := 8) rfl) rfl rfl, ?_⟩
  refine List.forall_mem_cons.mpr ⟨ok_getf C (wi_X6) rfl (by decide) kw_163 (show decode cX1_passDays 16 = .ok (.getfield 33, 3) from dk_at dq21_3 (i := 9) rfl) rfl, ?_⟩
  refine List.forall_mem_cons.mpr ⟨ok_sipush C (show decode cX1_passDays 19 = .ok (.sipush 400, 3) from dk_at dq21_3 (i := 10) rfl) (by decide) rfl, ?_⟩
  refine List.forall_mem_cons.mpr ⟨ok_icmpge C (show decode cX1_passDays 22 = .ok (.if_icmp .ge 41, 3) from dk_at dq21_3 (i := 11) rfl) (tg := 63) (by decide) rfl rfl, ?_⟩
  refine List.forall_mem_cons.mpr ⟨ok_aload_n C (show decode cX1_passDays 25 = .ok (.aload_n 0, 1) from dk_at dq21_3 (i := 12) rfl) rfl rfl, ?_⟩
  refine List.forall_mem_cons.mpr ⟨ok_aload_n C (show decode cX1_passDays 26 = .ok (.aload_n 1, 1) from dk_at dq21_3 (i := 13) rfl) rfl rfl, ?_⟩
  refine List.forall_mem_cons.mpr ⟨ok_aload_n C (show decode cX1_passDays 27 = .ok (.aload_n 2, 1) from dk_at dq21_3 (i := 14) rfl) rfl rfl, ?_⟩
  refine List.forall_mem_cons.mpr ⟨ok_callV C h_X1_plan ⟨rfl, rfl⟩ rfl kw_755 kw_752 kw_753 kw_754 kw_4 rfl ds_X1_plan ⟨by decide, by decide⟩ (show decode cX1_passDays 28 = .ok (.invokevirtual 75, 3) from dk_at dq21_3 (i := 15) rfl) rfl, ?_⟩
  refine List.forall_mem_cons.mpr ⟨ok_aload_n C (show decode cX1_passDays 31 = .ok (.aload_n 0, 1) from dk_at dq21_4 (i := 0) rfl) rfl rfl, ?_⟩
  refine List.forall_mem_cons.mpr ⟨ok_aload_n C (show decode cX1_passDays 32 = .ok (.aload_n 1, 1) from dk_at dq21_4 (i := 1) rfl) rfl rfl, ?_⟩
  refine List.forall_mem_cons.mpr ⟨ok_aload_n C (show decode cX1_passDays 33 = .ok (.aload_n 2, 1) from dk_at dq21_4 (i := 2) rfl) rfl rfl, ?_⟩
  refine List.forall_mem_cons.mpr ⟨ok_callV C h_X1_carry ⟨rfl, rfl⟩ rfl kw_771 kw_768 kw_770 kp_22 kw_4 rfl ds_X1_carry ⟨by decide, by decide⟩ (show decode cX1_passDays 34 = .ok (.invokevirtual 79, 3) from dk_at dq21_4 (i := 3) rfl) rfl, ?_⟩
  refine List.forall_mem_cons.mpr ⟨ok_aload_n C (show decode cX1_passDays 37 = .ok (.aload_n 2, 1) from dk_at dq21_4 (i := 4) rfl) rfl rfl, ?_⟩
  refine List.forall_mem_cons.mpr ⟨ok_aload_n C (show decode cX1_passDays 38 = .ok (.aload_n 1, 1) from dk_at dq21_4 (i := 5) rfl) rfl rfl, ?_⟩
  refine List.forall_mem_cons.mpr ⟨ok_callV C h_X6_makeAndEat ⟨rfl, rfl⟩ rfl kw_775 kw_772 kw_773 kw_774 kw_6 rfl ds_X6_makeAndEat ⟨by decide, by decide⟩ (show decode cX1_passDays 39 = .ok (.invokevirtual 82, 3) from dk_at dq21_4 (i := 6) rfl) rfl, ?_⟩
  refine List.forall_mem_cons.mpr ⟨ok_aload_n C (show decode cX1_passDays 42 = .ok (.aload_n 2, 1) from dk_at dq21_4 (i := 7) rfl) rfl rfl, ?_⟩
  refine List.forall_mem_cons.mpr ⟨ok_aload_n C (show decode cX1_passDays 43 = .ok (.aload_n 1, 1) from dk_at dq21_4 (i := 8) rfl) rfl rfl, ?_⟩
  refine List.forall_mem_cons.mpr ⟨ok_callV C h_X6_countApart ⟨rfl, rfl⟩ rfl kw_784 kw_781 kw_782 kw_783 kw_6 rfl ds_X6_countApart ⟨by decide, by decide⟩ (show decode cX1_passDays 44 = .ok (.invokevirtual 86, 3) from dk_at dq21_4 (i := 9) rfl) rfl, ?_⟩
  refine List.forall_mem_cons.mpr ⟨ok_aload_n C (show decode cX1_passDays 47 = .ok (.aload_n 2, 1) from dk_at dq21_4 (i := 10) rfl) rfl rfl, ?_⟩
  refine List.forall_mem_cons.mpr ⟨ok_dup C (show decode cX1_passDays 48 = .ok (.dup, 1) from dk_at dq21_4 (i := 11) rfl) rfl, ?_⟩
  refine List.forall_mem_cons.mpr ⟨ok_getf C (wi_X6) rfl (by decide) kw_163 (show decode cX1_passDays 49 = .ok (.getfield 33, 3) from dk_at dq21_4 (i := 12) rfl) rfl, ?_⟩
  refine List.forall_mem_cons.mpr ⟨ok_iconst C (show decode cX1_passDays 52 = .ok (.iconst 1, 1) from dk_at dq21_4 (i := 13) rfl) (by decide) rfl, ?_⟩
  refine List.forall_mem_cons.mpr ⟨ok_iadd C (show decode cX1_passDays 53 = .ok (.iadd, 1) from dk_at dq21_4 (i := 14) rfl) rfl, ?_⟩
  refine List.forall_mem_cons.mpr ⟨ok_putf C (wi_X6) tyX6 tyX6_ok nmX6 rfl (by decide) kw_163 (Or.inl rfl) (Or.inl ⟨rfl, rfl⟩) (show decode cX1_passDays 54 = .ok (.putfield 33, 3) from dk_at dq21_4 (i := 15) rfl) rfl, ?_⟩
  refine List.forall_mem_cons.mpr ⟨ok_iinc C (show decode cX1_passDays 57 = .ok (.iinc 5 1, 3) from dk_at dq21_5 (i := 0) rfl) (by decide) (by decide) rfl, ?_⟩
  refine List.forall_mem_cons.mpr ⟨ok_goto C (show decode cX1_passDays 60 = .ok (.goto (-51), 3) from dk_at dq21_5 (i := 1) rfl) (tg := 9) (by decide) rfl, ?_⟩
  refine List.forall_mem_cons.mpr ⟨ok_aload_n C (show decode cX1_passDays 63 = .ok (.aload_n 2, 1) from dk_at dq21_5 (i := 2) rfl) rfl rfl, ?_⟩
  refine List.forall_mem_cons.mpr ⟨ok_getf C (wi_X6) rfl (by decide) kw_163 (show decode cX1_passDays 64 = .ok (.getfield 33, 3) from dk_at dq21_5 (i := 3) rfl) rfl, ?_⟩
  refine List.forall_mem_cons.mpr ⟨ok_iload C (show decode cX1_passDays 67 = .ok (.iload 4, 2) from dk_at dq21_5 (i := 4) rfl) rfl, ?_⟩
  refine List.forall_mem_cons.mpr ⟨ok_isub C (show decode cX1_passDays 69 = .ok (.isub, 1) from dk_at dq21_5 (i := 5) rfl) rfl, ?_⟩
  refine List.forall_mem_cons.mpr ⟨ok_ret C rfl (show decode cX1_passDays 70 = .ok (.ireturn, 1) from dk_at dq21_5 (i := 6) rfl), ?_⟩
  exact fun _ h => absurd h List.not_mem_nil
def L_X2_init : List (Nat × ab_A) := [
  (0, ab_nx 1 (ab_aload 0)),
  (1, ab_nx 4 ab_obj),
  (4, ab_nx 5 (ab_aload 0)),
  (5, ab_nx 7 (ab_lit (.int 8))),
  (7, ab_nx 10 (ab_newa 5 (fun n => (n, .inr (.inr (.inr (.inr (fun _ => none)))))) 1 8)),
  (10, ab_nx 13 (ab_putf 2 0 2)),
  (13, ab_vret 1 8)]
set_option maxRecDepth 100000 in
theorem dq21_6 : ([(0, .aload_n 0, 1), (1, .invokespecial 3, 3), (4, .aload_n 0, 1), (5, .bipush 8, 2), (7, .anewarray 9, 3), (10, .putfield 11, 3), (13, .return_, 1)] : List (Nat × Instr × Nat)).all (fun q => decide (decode cX2_init q.1 = .ok q.2)) = true := by decide +kernel
set_option maxRecDepth 100000 in
set_option maxHeartbeats 4000000 in
theorem M_X2_init {l : Launch} {b : ab_B} {D : va_G} {cA : Nat → ClassId} : ab_M l b D ab_cl cA (ab_E0 b) yX2_init (Cond.code yX2_init cX2_init 1 none :: ab_G) ({ frames := 2, cells := 1, slots := 8, locals := 200 } : Room) (ab_X (ab_T L_X2_init) 1) := by
  refine ab_meth (ret := none) L_X2_init (by decide) rfl fun p e R s m args below meth c o C => ?_
  unfold L_X2_init
  refine List.forall_mem_cons.mpr ⟨ok_aload_n C (show decode cX2_init 0 = .ok (.aload_n 0, 1) from dk_at dq21_6 (i := 0) rfl) rfl rfl, ?_⟩
  refine List.forall_mem_cons.mpr ⟨ok_obj C kw_126 kw_30 kw_31 ⟨by decide, by decide⟩ (show decode cX2_init 1 = .ok (.invokespecial 3, 3) from dk_at dq21_6 (i := 1) rfl) rfl, ?_⟩
  refine List.forall_mem_cons.mpr ⟨ok_aload_n C (show decode cX2_init 4 = .ok (.aload_n 0, 1) from dk_at dq21_6 (i := 2) rfl) rfl rfl, ?_⟩
  refine List.forall_mem_cons.mpr ⟨ok_bipush C (show decode cX2_init 5 = .ok (.bipush 8, 2) from dk_at dq21_6 (i := 3) rfl) (by decide) rfl, ?_⟩
  refine List.forall_mem_cons.mpr ⟨ok_anew C (t0 := 5) rfl (cx_E C).2.2.1 kw_127 (show decode cX2_init 7 = .ok (.anewarray 9, 3) from dk_at dq21_6 (i := 4) rfl) rfl, ?_⟩
  refine List.forall_mem_cons.mpr ⟨ok_putf C (wi_X2) tyX2 tyX2_ok nmX2 rfl (by decide) kw_129 (Or.inr ⟨rfl, cx_name C, rfl⟩) (Or.inr (Or.inr (Or.inl ⟨rfl, Or.inr ⟨_, rfl⟩⟩))) (show decode cX2_init 10 = .ok (.putfield 11, 3) from dk_at dq21_6 (i := 5) rfl) rfl, ?_⟩
  refine List.forall_mem_cons.mpr ⟨ok_vret C rfl (show decode cX2_init 13 = .ok (.return_, 1) from dk_at dq21_6 (i := 6) rfl), ?_⟩
  exact fun _ h => absurd h List.not_mem_nil
def L_X2_forget : List (Nat × ab_A) := [
  (0, ab_nx 1 (ab_aload 0)),
  (1, ab_nx 2 (ab_lit (.int 0))),
  (2, ab_nx 5 (ab_putf 2 1 0)),
  (5, ab_vret 0 0)]
set_option maxRecDepth 100000 in
theorem dq21_7 : ([(0, .aload_n 0, 1), (1, .iconst 0, 1), (2, .putfield 17, 3), (5, .return_, 1)] : List (Nat × Instr × Nat)).all (fun q => decide (decode cX2_forget q.1 = .ok q.2)) = true := by decide +kernel
set_option maxRecDepth 100000 in
set_option maxHeartbeats 4000000 in
theorem M_X2_forget {l : Launch} {b : ab_B} {D : va_G} {cA : Nat → ClassId} : ab_M l b D ab_cl cA (ab_E0 b) yX2_forget (Cond.code yX2_forget cX2_forget 1 none :: ab_G) ({ frames := 1, cells := 0, slots := 0, locals := 100 } : Room) (ab_X (ab_T L_X2_forget) 1) := by
  refine ab_meth (ret := none) L_X2_forget (by decide) rfl fun p e R s m args below meth c o C => ?_
  unfold L_X2_forget
  refine List.forall_mem_cons.mpr ⟨ok_aload_n C (show decode cX2_forget 0 = .ok (.aload_n 0, 1) from dk_at dq21_7 (i := 0) rfl) rfl rfl, ?_⟩
  refine List.forall_mem_cons.mpr ⟨ok_iconst C (show decode cX2_forget 1 = .ok (.iconst 0, 1) from dk_at dq21_7 (i := 1) rfl) (by decide) rfl, ?_⟩
  refine List.forall_mem_cons.mpr ⟨ok_putf C (wi_X2) tyX2 tyX2_ok nmX2 rfl (by decide) kw_130 (Or.inl rfl) (Or.inl ⟨rfl, rfl⟩) (show decode cX2_forget 2 = .ok (.putfield 17, 3) from dk_at dq21_7 (i := 2) rfl) rfl, ?_⟩
  refine List.forall_mem_cons.mpr ⟨ok_vret C rfl (show decode cX2_forget 5 = .ok (.return_, 1) from dk_at dq21_7 (i := 3) rfl), ?_⟩
  exact fun _ h => absurd h List.not_mem_nil
def L_X2_dropOldest : List (Nat × ab_A) := [
  (0, ab_nx 1 (ab_aload 0)),
  (1, ab_nx 4 (ab_getf 2 0)),
  (4, ab_nx 5 (ab_lit (.int 0))),
  (5, ab_nx 6 (ab_aald 5)),
  (6, ab_nx 7 (ab_astore 1)),
  (7, ab_nx 8 (ab_lit (.int 1))),
  (8, ab_nx 9 (ab_istore 2)),
  (9, ab_nx 10 (ab_iload 2)),
  (10, ab_nx 12 (ab_lit (.int 8))),
  (12, ab_icmp 15 35 (fun x y => decide (y ≤ x))),
  (15, ab_nx 16 (ab_aload 0)),
  (16, ab_nx 19 (ab_getf 2 0)),
  (19, ab_nx 20 (ab_iload 2)),
  (20, ab_nx 21 (ab_lit (.int 1))),
  (21, ab_nx 22 (ab_bin (fun x y => x - y))),
  (22, ab_nx 23 (ab_aload 0)),
  (23, ab_nx 26 (ab_getf 2 0)),
  (26, ab_nx 27 (ab_iload 2)),
  (27, ab_nx 28 (ab_aald 5)),
  (28, ab_nx 29 (ab_aast 5 6)),
  (29, ab_nx 32 (ab_iinc 2 1)),
  (32, ab_goto 9),
  (35, ab_nx 36 (ab_aload 0)),
  (36, ab_nx 39 (ab_getf 2 0)),
  (39, ab_nx 41 (ab_lit (.int 7))),
  (41, ab_nx 42 (ab_aload 1)),
  (42, ab_nx 43 (ab_aast 5 6)),
  (43, ab_nx 44 (ab_aload 0)),
  (44, ab_nx 46 (ab_lit (.int 7))),
  (46, ab_nx 49 (ab_putf 2 1 0)),
  (49, ab_vret 0 0)]
set_option maxRecDepth 100000 in
theorem dq21_8 : ([(0, .aload_n 0, 1), (1, .getfield 11, 3), (4, .iconst 0, 1), (5, .aaload, 1), (6, .astore_n 1, 1), (7, .iconst 1, 1), (8, .istore_n 2, 1), (9, .iload_n 2, 1), (10, .bipush 8, 2), (12, .if_icmp .ge 23, 3), (15, .aload_n 0, 1), (16, .getfield 11, 3), (19, .iload_n 2, 1), (20, .iconst 1, 1), (21, .isub, 1), (22, .aload_n 0, 1)] : List (Nat × Instr × Nat)).all (fun q => decide (decode cX2_dropOldest q.1 = .ok q.2)) = true := by decide +kernel
set_option maxRecDepth 100000 in
theorem dq21_9 : ([(23, .getfield 11, 3), (26, .iload_n 2, 1), (27, .aaload, 1), (28, .aastore, 1), (29, .iinc 2 1, 3), (32, .goto (-23), 3), (35, .aload_n 0, 1), (36, .getfield 11, 3), (39, .bipush 7, 2), (41, .aload_n 1, 1), (42, .aastore, 1), (43, .aload_n 0, 1), (44, .bipush 7, 2), (46, .putfield 17, 3), (49, .return_, 1)] : List (Nat × Instr × Nat)).all (fun q => decide (decode cX2_dropOldest q.1 = .ok q.2)) = true := by decide +kernel
set_option maxRecDepth 100000 in
set_option maxHeartbeats 4000000 in
theorem M_X2_dropOldest {l : Launch} {b : ab_B} {D : va_G} {cA : Nat → ClassId} : ab_M l b D ab_cl cA (ab_E0 b) yX2_dropOldest (Cond.code yX2_dropOldest cX2_dropOldest 3 none :: ab_G) ({ frames := 1, cells := 0, slots := 0, locals := 100 } : Room) (ab_X (ab_T L_X2_dropOldest) 3) := by
  refine ab_meth (ret := none) L_X2_dropOldest (by decide) rfl fun p e R s m args below meth c o C => ?_
  unfold L_X2_dropOldest
  refine List.forall_mem_cons.mpr ⟨ok_aload_n C (show decode cX2_dropOldest 0 = .ok (.aload_n 0, 1) from dk_at dq21_8 (i := 0) rfl) rfl rfl, ?_⟩
  refine List.forall_mem_cons.mpr ⟨ok_getf C (wi_X2) rfl (by decide) kw_129 (show decode cX2_dropOldest 1 = .ok (.getfield 11, 3) from dk_at dq21_8 (i := 1) rfl) rfl, ?_⟩
  refine List.forall_mem_cons.mpr ⟨ok_iconst C (show decode cX2_dropOldest 4 = .ok (.iconst 0, 1) from dk_at dq21_8 (i := 2) rfl) (by decide) rfl, ?_⟩
  refine List.forall_mem_cons.mpr ⟨ok_aaload C (t0 := 5) rfl (show decode cX2_dropOldest 5 = .ok (.aaload, 1) from dk_at dq21_8 (i := 3) rfl) rfl, ?_⟩
  refine List.forall_mem_cons.mpr ⟨ok_astore_n C (show decode cX2_dropOldest 6 = .ok (.astore_n 1, 1) from dk_at dq21_8 (i := 4) rfl) rfl (by decide) rfl, ?_⟩
  refine List.forall_mem_cons.mpr ⟨ok_iconst C (show decode cX2_dropOldest 7 = .ok (.iconst 1, 1) from dk_at dq21_8 (i := 5) rfl) (by decide) rfl, ?_⟩
  refine List.forall_mem_cons.mpr ⟨ok_istore_n C (show decode cX2_dropOldest 8 = .ok (.istore_n 2, 1) from dk_at dq21_8 (i := 6) rfl) rfl (by decide) rfl, ?_⟩
  refine List.forall_mem_cons.mpr ⟨ok_iload_n C (show decode cX2_dropOldest 9 = .ok (.iload_n 2, 1) from dk_at dq21_8 (i := 7) rfl) rfl rfl, ?_⟩
  refine List.forall_mem_cons.mpr ⟨ok_bipush C (show decode cX2_dropOldest 10 = .ok (.bipush 8, 2) from dk_at dq21_8 (i := 8) rfl) (by decide) rfl, ?_⟩
  refine List.forall_mem_cons.mpr ⟨ok_icmpge C (show decode cX2_dropOldest 12 = .ok (.if_icmp .ge 23, 3) from dk_at dq21_8 (i := 9) rfl) (tg := 35) (by decide) rfl rfl, ?_⟩
  refine List.forall_mem_cons.mpr ⟨ok_aload_n C (show decode cX2_dropOldest 15 = .ok (.aload_n 0, 1) from dk_at dq21_8 (i := 10) rfl) rfl rfl, ?_⟩
  refine List.forall_mem_cons.mpr ⟨ok_getf C (wi_X2) rfl (by decide) kw_129 (show decode cX2_dropOldest 16 = .ok (.getfield 11, 3) from dk_at dq21_8 (i := 11) rfl) rfl, ?_⟩
  refine List.forall_mem_cons.mpr ⟨ok_iload_n C (show decode cX2_dropOldest 19 = .ok (.iload_n 2, 1) from dk_at dq21_8 (i := 12) rfl) rfl rfl, ?_⟩
  refine List.forall_mem_cons.mpr ⟨ok_iconst C (show decode cX2_dropOldest 20 = .ok (.iconst 1, 1) from dk_at dq21_8 (i := 13) rfl) (by decide) rfl, ?_⟩
  refine List.forall_mem_cons.mpr ⟨ok_isub C (show decode cX2_dropOldest 21 = .ok (.isub, 1) from dk_at dq21_8 (i := 14) rfl) rfl, ?_⟩
  refine List.forall_mem_cons.mpr ⟨ok_aload_n C (show decode cX2_dropOldest 22 = .ok (.aload_n 0, 1) from dk_at dq21_8 (i := 15) rfl) rfl rfl, ?_⟩
  refine List.forall_mem_cons.mpr ⟨ok_getf C (wi_X2) rfl (by decide) kw_129 (show decode cX2_dropOldest 23 = .ok (.getfield 11, 3) from dk_at dq21_9 (i := 0) rfl) rfl, ?_⟩
  refine List.forall_mem_cons.mpr ⟨ok_iload_n C (show decode cX2_dropOldest 26 = .ok (.iload_n 2, 1) from dk_at dq21_9 (i := 1) rfl) rfl rfl, ?_⟩
  refine List.forall_mem_cons.mpr ⟨ok_aaload C (t0 := 5) rfl (show decode cX2_dropOldest 27 = .ok (.aaload, 1) from dk_at dq21_9 (i := 2) rfl) rfl, ?_⟩
  refine List.forall_mem_cons.mpr ⟨ok_aastore C (t0 := 5) (ci := 6) rfl rfl (show decode cX2_dropOldest 28 = .ok (.aastore, 1) from dk_at dq21_9 (i := 3) rfl) rfl, ?_⟩
  refine List.forall_mem_cons.mpr ⟨ok_iinc C (show decode cX2_dropOldest 29 = .ok (.iinc 2 1, 3) from dk_at dq21_9 (i := 4) rfl) (by decide) (by decide) rfl, ?_⟩
  refine List.forall_mem_cons.mpr ⟨ok_goto C (show decode cX2_dropOldest 32 = .ok (.goto (-23), 3) from dk_at dq21_9 (i := 5) rfl) (tg := 9) (by decide) rfl, ?_⟩
  refine List.forall_mem_cons.mpr ⟨ok_aload_n C (show decode cX2_dropOldest 35 = .ok (.aload_n 0, 1) from dk_at dq21_9 (i := 6) rfl) rfl rfl, ?_⟩
  refine List.forall_mem_cons.mpr ⟨ok_getf C (wi_X2) rfl (by decide) kw_129 (show decode cX2_dropOldest 36 = .ok (.getfield 11, 3) from dk_at dq21_9 (i := 7) rfl) rfl, ?_⟩
  refine List.forall_mem_cons.mpr ⟨ok_bipush C (show decode cX2_dropOldest 39 = .ok (.bipush 7, 2) from dk_at dq21_9 (i := 8) rfl) (by decide) rfl, ?_⟩
  refine List.forall_mem_cons.mpr ⟨ok_aload_n C (show decode cX2_dropOldest 41 = .ok (.aload_n 1, 1) from dk_at dq21_9 (i := 9) rfl) rfl rfl, ?_⟩
  refine List.forall_mem_cons.mpr ⟨ok_aastore C (t0 := 5) (ci := 6) rfl rfl (show decode cX2_dropOldest 42 = .ok (.aastore, 1) from dk_at dq21_9 (i := 10) rfl) rfl, ?_⟩
  refine List.forall_mem_cons.mpr ⟨ok_aload_n C (show decode cX2_dropOldest 43 = .ok (.aload_n 0, 1) from dk_at dq21_9 (i := 11) rfl) rfl rfl, ?_⟩
  refine List.forall_mem_cons.mpr ⟨ok_bipush C (show decode cX2_dropOldest 44 = .ok (.bipush 7, 2) from dk_at dq21_9 (i := 12) rfl) (by decide) rfl, ?_⟩
  refine List.forall_mem_cons.mpr ⟨ok_putf C (wi_X2) tyX2 tyX2_ok nmX2 rfl (by decide) kw_130 (Or.inl rfl) (Or.inl ⟨rfl, rfl⟩) (show decode cX2_dropOldest 46 = .ok (.putfield 17, 3) from dk_at dq21_9 (i := 13) rfl) rfl, ?_⟩
  refine List.forall_mem_cons.mpr ⟨ok_vret C rfl (show decode cX2_dropOldest 49 = .ok (.return_, 1) from dk_at dq21_9 (i := 14) rfl), ?_⟩
  exact fun _ h => absurd h List.not_mem_nil
def L_X6_init : List (Nat × ab_A) := [
  (0, ab_nx 1 (ab_aload 0)),
  (1, ab_nx 4 ab_obj),
  (4, ab_nx 5 (ab_aload 0)),
  (5, ab_nx 7 (ab_lit (.int 12))),
  (7, ab_nx 9 (ab_newa 1 (fun n => (n, .inl (fun _ => 0))) 7 128)),
  (9, ab_nx 12 (ab_putf 6 0 2)),
  (12, ab_nx 13 (ab_aload 0)),
  (13, ab_nx 15 (ab_lit (.int 12))),
  (15, ab_nx 17 (ab_newa 1 (fun n => (n, .inl (fun _ => 0))) 7 128)),
  (17, ab_nx 20 (ab_putf 6 1 2)),
  (20, ab_nx 21 (ab_aload 0)),
  (21, ab_nx 23 (ab_lit (.int 12))),
  (23, ab_nx 25 (ab_newa 1 (fun n => (n, .inl (fun _ => 0))) 7 128)),
  (25, ab_nx 28 (ab_putf 6 2 2)),
  (28, ab_nx 29 (ab_aload 0)),
  (29, ab_nx 31 (ab_lit (.int 12))),
  (31, ab_nx 33 (ab_newa 1 (fun n => (n, .inl (fun _ => 0))) 7 128)),
  (33, ab_nx 36 (ab_putf 6 3 2)),
  (36, ab_nx 37 (ab_aload 0)),
  (37, ab_nx 39 (ab_lit (.int 8))),
  (39, ab_nx 41 (ab_newa 1 (fun n => (n, .inl (fun _ => 0))) 7 128)),
  (41, ab_nx 44 (ab_putf 6 4 2)),
  (44, ab_nx 45 (ab_aload 0)),
  (45, ab_nx 47 (ab_lit (.int 8))),
  (47, ab_nx 49 (ab_newa 1 (fun n => (n, .inl (fun _ => 0))) 7 128)),
  (49, ab_nx 52 (ab_putf 6 5 2)),
  (52, ab_nx 53 (ab_aload 0)),
  (53, ab_nx 55 (ab_lit (.int 64))),
  (55, ab_nx 57 (ab_newa 1 (fun n => (n, .inl (fun _ => 0))) 7 128)),
  (57, ab_nx 60 (ab_putf 6 6 2)),
  (60, ab_vret 7 128)]
set_option maxRecDepth 100000 in
theorem dq21_10 : ([(0, .aload_n 0, 1), (1, .invokespecial 3, 3), (4, .aload_n 0, 1), (5, .bipush 12, 2), (7, .newarray .int, 2), (9, .putfield 9, 3), (12, .aload_n 0, 1), (13, .bipush 12, 2), (15, .newarray .int, 2), (17, .putfield 15, 3), (20, .aload_n 0, 1), (21, .bipush 12, 2), (23, .newarray .int, 2), (25, .putfield 18, 3), (28, .aload_n 0, 1), (29, .bipush 12, 2)] : List (Nat × Instr × Nat)).all (fun q => decide (decode cX6_init q.1 = .ok q.2)) = true := by decide +kernel
set_option maxRecDepth 100000 in
theorem dq21_11 : ([(31, .newarray .int, 2), (33, .putfield 21, 3), (36, .aload_n 0, 1), (37, .bipush 8, 2), (39, .newarray .int, 2), (41, .putfield 24, 3), (44, .aload_n 0, 1), (45, .bipush 8, 2), (47, .newarray .int, 2), (49, .putfield 27, 3), (52, .aload_n 0, 1), (53, .bipush 64, 2), (55, .newarray .int, 2), (57, .putfield 30, 3), (60, .return_, 1)] : List (Nat × Instr × Nat)).all (fun q => decide (decode cX6_init q.1 = .ok q.2)) = true := by decide +kernel
set_option maxRecDepth 100000 in
set_option maxHeartbeats 4000000 in
theorem M_X6_init {l : Launch} {b : ab_B} {D : va_G} {cA : Nat → ClassId} : ab_M l b D ab_cl cA (ab_E0 b) yX6_init (Cond.code yX6_init cX6_init 1 none :: ab_G) ({ frames := 2, cells := 7, slots := 128, locals := 200 } : Room) (ab_X (ab_T L_X6_init) 1) := by
  refine ab_meth (ret := none) L_X6_init (by decide) rfl fun p e R s m args below meth c o C => ?_
  unfold L_X6_init
  refine List.forall_mem_cons.mpr ⟨ok_aload_n C (show decode cX6_init 0 = .ok (.aload_n 0, 1) from dk_at dq21_10 (i := 0) rfl) rfl rfl, ?_⟩
  refine List.forall_mem_cons.mpr ⟨ok_obj C kw_141 kw_30 kw_31 ⟨by decide, by decide⟩ (show decode cX6_init 1 = .ok (.invokespecial 3, 3) from dk_at dq21_10 (i := 1) rfl) rfl, ?_⟩
  refine List.forall_mem_cons.mpr ⟨ok_aload_n C (show decode cX6_init 4 = .ok (.aload_n 0, 1) from dk_at dq21_10 (i := 2) rfl) rfl rfl, ?_⟩
  refine List.forall_mem_cons.mpr ⟨ok_bipush C (show decode cX6_init 5 = .ok (.bipush 12, 2) from dk_at dq21_10 (i := 3) rfl) (by decide) rfl, ?_⟩
  refine List.forall_mem_cons.mpr ⟨ok_newa_int C kw_97 (show decode cX6_init 7 = .ok (.newarray .int, 2) from dk_at dq21_10 (i := 4) rfl) rfl, ?_⟩
  refine List.forall_mem_cons.mpr ⟨ok_putf C (wi_X6) tyX6 tyX6_ok nmX6 rfl (by decide) kw_142 (Or.inr ⟨rfl, cx_name C, rfl⟩) (Or.inr (Or.inr (Or.inl ⟨rfl, Or.inr ⟨_, rfl⟩⟩))) (show decode cX6_init 9 = .ok (.putfield 9, 3) from dk_at dq21_10 (i := 5) rfl) rfl, ?_⟩
  refine List.forall_mem_cons.mpr ⟨ok_aload_n C (show decode cX6_init 12 = .ok (.aload_n 0, 1) from dk_at dq21_10 (i := 6) rfl) rfl rfl, ?_⟩
  refine List.forall_mem_cons.mpr ⟨ok_bipush C (show decode cX6_init 13 = .ok (.bipush 12, 2) from dk_at dq21_10 (i := 7) rfl) (by decide) rfl, ?_⟩
  refine List.forall_mem_cons.mpr ⟨ok_newa_int C kw_97 (show decode cX6_init 15 = .ok (.newarray .int, 2) from dk_at dq21_10 (i := 8) rfl) rfl, ?_⟩
  refine List.forall_mem_cons.mpr ⟨ok_putf C (wi_X6) tyX6 tyX6_ok nmX6 rfl (by decide) kw_146 (Or.inr ⟨rfl, cx_name C, rfl⟩) (Or.inr (Or.inr (Or.inl ⟨rfl, Or.inr ⟨_, rfl⟩⟩))) (show decode cX6_init 17 = .ok (.putfield 15, 3) from dk_at dq21_10 (i := 9) rfl) rfl, ?_⟩
  refine List.forall_mem_cons.mpr ⟨ok_aload_n C (show decode cX6_init 20 = .ok (.aload_n 0, 1) from dk_at dq21_10 (i := 10) rfl) rfl rfl, ?_⟩
  refine List.forall_mem_cons.mpr ⟨ok_bipush C (show decode cX6_init 21 = .ok (.bipush 12, 2) from dk_at dq21_10 (i := 11) rfl) (by decide) rfl, ?_⟩
  refine List.forall_mem_cons.mpr ⟨ok_newa_int C kw_97 (show decode cX6_init 23 = .ok (.newarray .int, 2) from dk_at dq21_10 (i := 12) rfl) rfl, ?_⟩
  refine List.forall_mem_cons.mpr ⟨ok_putf C (wi_X6) tyX6 tyX6_ok nmX6 rfl (by decide) kw_149 (Or.inr ⟨rfl, cx_name C, rfl⟩) (Or.inr (Or.inr (Or.inl ⟨rfl, Or.inr ⟨_, rfl⟩⟩))) (show decode cX6_init 25 = .ok (.putfield 18, 3) from dk_at dq21_10 (i := 13) rfl) rfl, ?_⟩
  refine List.forall_mem_cons.mpr ⟨ok_aload_n C (show decode cX6_init 28 = .ok (.aload_n 0, 1) from dk_at dq21_10 (i := 14) rfl) rfl rfl, ?_⟩
  refine List.forall_mem_cons.mpr ⟨ok_bipush C (show decode cX6_init 29 = .ok (.bipush 12, 2) from dk_at dq21_10 (i := 15) rfl) (by decide) rfl, ?_⟩
  refine List.forall_mem_cons.mpr ⟨ok_newa_int C kw_97 (show decode cX6_init 31 = .ok (.newarray .int, 2) from dk_at dq21_11 (i := 0) rfl) rfl, ?_⟩
  refine List.forall_mem_cons.mpr ⟨ok_putf C (wi_X6) tyX6 tyX6_ok nmX6 rfl (by decide) kw_151 (Or.inr ⟨rfl, cx_name C, rfl⟩) (Or.inr (Or.inr (Or.inl ⟨rfl, Or.inr ⟨_, rfl⟩⟩))) (show decode cX6_init 33 = .ok (.putfield 21, 3) from dk_at dq21_11 (i := 1) rfl) rfl, ?_⟩
  refine List.forall_mem_cons.mpr ⟨ok_aload_n C (show decode cX6_init 36 = .ok (.aload_n 0, 1) from dk_at dq21_11 (i := 2) rfl) rfl rfl, ?_⟩
  refine List.forall_mem_cons.mpr ⟨ok_bipush C (show decode cX6_init 37 = .ok (.bipush 8, 2) from dk_at dq21_11 (i := 3) rfl) (by decide) rfl, ?_⟩
  refine List.forall_mem_cons.mpr ⟨ok_newa_int C kw_97 (show decode cX6_init 39 = .ok (.newarray .int, 2) from dk_at dq21_11 (i := 4) rfl) rfl, ?_⟩
  refine List.forall_mem_cons.mpr ⟨ok_putf C (wi_X6) tyX6 tyX6_ok nmX6 rfl (by decide) kw_155 (Or.inr ⟨rfl, cx_name C, rfl⟩) (Or.inr (Or.inr (Or.inl ⟨rfl, Or.inr ⟨_, rfl⟩⟩))) (show decode cX6_init 41 = .ok (.putfield 24, 3) from dk_at dq21_11 (i := 5) rfl) rfl, ?_⟩
  refine List.forall_mem_cons.mpr ⟨ok_aload_n C (show decode cX6_init 44 = .ok (.aload_n 0, 1) from dk_at dq21_11 (i := 6) rfl) rfl rfl, ?_⟩
  refine List.forall_mem_cons.mpr ⟨ok_bipush C (show decode cX6_init 45 = .ok (.bipush 8, 2) from dk_at dq21_11 (i := 7) rfl) (by decide) rfl, ?_⟩
  refine List.forall_mem_cons.mpr ⟨ok_newa_int C kw_97 (show decode cX6_init 47 = .ok (.newarray .int, 2) from dk_at dq21_11 (i := 8) rfl) rfl, ?_⟩
  refine List.forall_mem_cons.mpr ⟨ok_putf C (wi_X6) tyX6 tyX6_ok nmX6 rfl (by decide) kw_158 (Or.inr ⟨rfl, cx_name C, rfl⟩) (Or.inr (Or.inr (Or.inl ⟨rfl, Or.inr ⟨_, rfl⟩⟩))) (show decode cX6_init 49 = .ok (.putfield 27, 3) from dk_at dq21_11 (i := 9) rfl) rfl, ?_⟩
  refine List.forall_mem_cons.mpr ⟨ok_aload_n C (show decode cX6_init 52 = .ok (.aload_n 0, 1) from dk_at dq21_11 (i := 10) rfl) rfl rfl, ?_⟩
  refine List.forall_mem_cons.mpr ⟨ok_bipush C (show decode cX6_init 53 = .ok (.bipush 64, 2) from dk_at dq21_11 (i := 11) rfl) (by decide) rfl, ?_⟩
  refine List.forall_mem_cons.mpr ⟨ok_newa_int C kw_97 (show decode cX6_init 55 = .ok (.newarray .int, 2) from dk_at dq21_11 (i := 12) rfl) rfl, ?_⟩
  refine List.forall_mem_cons.mpr ⟨ok_putf C (wi_X6) tyX6 tyX6_ok nmX6 rfl (by decide) kw_161 (Or.inr ⟨rfl, cx_name C, rfl⟩) (Or.inr (Or.inr (Or.inl ⟨rfl, Or.inr ⟨_, rfl⟩⟩))) (show decode cX6_init 57 = .ok (.putfield 30, 3) from dk_at dq21_11 (i := 13) rfl) rfl, ?_⟩
  refine List.forall_mem_cons.mpr ⟨ok_vret C rfl (show decode cX6_init 60 = .ok (.return_, 1) from dk_at dq21_11 (i := 14) rfl), ?_⟩
  exact fun _ h => absurd h List.not_mem_nil
def L_X6_copyFrom : List (Nat × ab_A) := [
  (0, ab_nx 1 (ab_aload 1)),
  (1, ab_nx 4 (ab_getf 6 0)),
  (4, ab_nx 5 (ab_lit (.int 0))),
  (5, ab_nx 6 (ab_aload 0)),
  (6, ab_nx 9 (ab_getf 6 0)),
  (9, ab_nx 10 (ab_lit (.int 0))),
  (10, ab_nx 12 (ab_lit (.int 12))),
  (12, ab_nx 15 ab_copy),
  (15, ab_nx 16 (ab_aload 1)),
  (16, ab_nx 19 (ab_getf 6 1)),
  (19, ab_nx 20 (ab_lit (.int 0))),
  (20, ab_nx 21 (ab_aload 0)),
  (21, ab_nx 24 (ab_getf 6 1)),
  (24, ab_nx 25 (ab_lit (.int 0))),
  (25, ab_nx 27 (ab_lit (.int 12))),
  (27, ab_nx 30 ab_copy),
  (30, ab_nx 31 (ab_aload 1)),
  (31, ab_nx 34 (ab_getf 6 2)),
  (34, ab_nx 35 (ab_lit (.int 0))),
  (35, ab_nx 36 (ab_aload 0)),
  (36, ab_nx 39 (ab_getf 6 2)),
  (39, ab_nx 40 (ab_lit (.int 0))),
  (40, ab_nx 42 (ab_lit (.int 12))),
  (42, ab_nx 45 ab_copy),
  (45, ab_nx 46 (ab_aload 1)),
  (46, ab_nx 49 (ab_getf 6 3)),
  (49, ab_nx 50 (ab_lit (.int 0))),
  (50, ab_nx 51 (ab_aload 0)),
  (51, ab_nx 54 (ab_getf 6 3)),
  (54, ab_nx 55 (ab_lit (.int 0))),
  (55, ab_nx 57 (ab_lit (.int 12))),
  (57, ab_nx 60 ab_copy),
  (60, ab_nx 61 (ab_aload 1)),
  (61, ab_nx 64 (ab_getf 6 4)),
  (64, ab_nx 65 (ab_lit (.int 0))),
  (65, ab_nx 66 (ab_aload 0)),
  (66, ab_nx 69 (ab_getf 6 4)),
  (69, ab_nx 70 (ab_lit (.int 0))),
  (70, ab_nx 72 (ab_lit (.int 8))),
  (72, ab_nx 75 ab_copy),
  (75, ab_nx 76 (ab_aload 1)),
  (76, ab_nx 79 (ab_getf 6 5)),
  (79, ab_nx 80 (ab_lit (.int 0))),
  (80, ab_nx 81 (ab_aload 0)),
  (81, ab_nx 84 (ab_getf 6 5)),
  (84, ab_nx 85 (ab_lit (.int 0))),
  (85, ab_nx 87 (ab_lit (.int 8))),
  (87, ab_nx 90 ab_copy),
  (90, ab_nx 91 (ab_aload 1)),
  (91, ab_nx 94 (ab_getf 6 6)),
  (94, ab_nx 95 (ab_lit (.int 0))),
  (95, ab_nx 96 (ab_aload 0)),
  (96, ab_nx 99 (ab_getf 6 6)),
  (99, ab_nx 100 (ab_lit (.int 0))),
  (100, ab_nx 102 (ab_lit (.int 64))),
  (102, ab_nx 105 ab_copy),
  (105, ab_nx 106 (ab_aload 0)),
  (106, ab_nx 107 (ab_aload 1)),
  (107, ab_nx 110 (ab_getf 6 7)),
  (110, ab_nx 113 (ab_putf 6 7 0)),
  (113, ab_nx 114 (ab_aload 0)),
  (114, ab_nx 115 (ab_aload 1)),
  (115, ab_nx 118 (ab_getf 6 8)),
  (118, ab_nx 121 (ab_putf 6 8 0)),
  (121, ab_nx 122 (ab_aload 0)),
  (122, ab_nx 123 (ab_aload 1)),
  (123, ab_nx 126 (ab_getf 6 9)),
  (126, ab_nx 129 (ab_putf 6 9 0)),
  (129, ab_vret 0 0)]
set_option maxRecDepth 100000 in
theorem dq21_12 : ([(0, .aload_n 1, 1), (1, .getfield 9, 3), (4, .iconst 0, 1), (5, .aload_n 0, 1), (6, .getfield 9, 3), (9, .iconst 0, 1), (10, .bipush 12, 2), (12, .invokestatic 52, 3), (15, .aload_n 1, 1), (16, .getfield 15, 3), (19, .iconst 0, 1), (20, .aload_n 0, 1), (21, .getfield 15, 3), (24, .iconst 0, 1), (25, .bipush 12, 2), (27, .invokestatic 52, 3)] : List (Nat × Instr × Nat)).all (fun q => decide (decode cX6_copyFrom q.1 = .ok q.2)) = true := by decide +kernel
set_option maxRecDepth 100000 in
theorem dq21_13 : ([(30, .aload_n 1, 1), (31, .getfield 18, 3), (34, .iconst 0, 1), (35, .aload_n 0, 1), (36, .getfield 18, 3), (39, .iconst 0, 1), (40, .bipush 12, 2), (42, .invokestatic 52, 3), (45, .aload_n 1, 1), (46, .getfield 21, 3), (49, .iconst 0, 1), (50, .aload_n 0, 1), (51, .getfield 21, 3), (54, .iconst 0, 1), (55, .bipush 12, 2), (57, .invokestatic 52, 3)] : List (Nat × Instr × Nat)).all (fun q => decide (decode cX6_copyFrom q.1 = .ok q.2)) = true := by decide +kernel
set_option maxRecDepth 100000 in
theorem dq21_14 : ([(60, .aload_n 1, 1), (61, .getfield 24, 3), (64, .iconst 0, 1), (65, .aload_n 0, 1), (66, .getfield 24, 3), (69, .iconst 0, 1), (70, .bipush 8, 2), (72, .invokestatic 52, 3), (75, .aload_n 1, 1), (76, .getfield 27, 3), (79, .iconst 0, 1), (80, .aload_n 0, 1), (81, .getfield 27, 3), (84, .iconst 0, 1), (85, .bipush 8, 2), (87, .invokestatic 52, 3)] : List (Nat × Instr × Nat)).all (fun q => decide (decode cX6_copyFrom q.1 = .ok q.2)) = true := by decide +kernel
set_option maxRecDepth 100000 in
theorem dq21_15 : ([(90, .aload_n 1, 1), (91, .getfield 30, 3), (94, .iconst 0, 1), (95, .aload_n 0, 1), (96, .getfield 30, 3), (99, .iconst 0, 1), (100, .bipush 64, 2), (102, .invokestatic 52, 3), (105, .aload_n 0, 1), (106, .aload_n 1, 1), (107, .getfield 42, 3), (110, .putfield 42, 3), (113, .aload_n 0, 1), (114, .aload_n 1, 1), (115, .getfield 46, 3), (118, .putfield 46, 3)] : List (Nat × Instr × Nat)).all (fun q => decide (decode cX6_copyFrom q.1 = .ok q.2)) = true := by decide +kernel
set_option maxRecDepth 100000 in
theorem dq21_16 : ([(121, .aload_n 0, 1), (122, .aload_n 1, 1), (123, .getfield 49, 3), (126, .putfield 49, 3), (129, .return_, 1)] : List (Nat × Instr × Nat)).all (fun q => decide (decode cX6_copyFrom q.1 = .ok q.2)) = true := by decide +kernel
set_option maxRecDepth 100000 in
set_option maxHeartbeats 4000000 in
theorem M_X6_copyFrom {l : Launch} {b : ab_B} {D : va_G} {cA : Nat → ClassId} : ab_M l b D ab_cl cA (ab_E0 b) yX6_copyFrom (Cond.code yX6_copyFrom cX6_copyFrom 2 none :: ab_G) ({ frames := 2, cells := 0, slots := 0, locals := 200 } : Room) (ab_X (ab_T L_X6_copyFrom) 2) := by
  refine ab_meth (ret := none) L_X6_copyFrom (by decide) rfl fun p e R s m args below meth c o C => ?_
  unfold L_X6_copyFrom
  refine List.forall_mem_cons.mpr ⟨ok_aload_n C (show decode cX6_copyFrom 0 = .ok (.aload_n 1, 1) from dk_at dq21_12 (i := 0) rfl) rfl rfl, ?_⟩
  refine List.forall_mem_cons.mpr ⟨ok_getf C (wi_X6) rfl (by decide) kw_142 (show decode cX6_copyFrom 1 = .ok (.getfield 9, 3) from dk_at dq21_12 (i := 1) rfl) rfl, ?_⟩
  refine List.forall_mem_cons.mpr ⟨ok_iconst C (show decode cX6_copyFrom 4 = .ok (.iconst 0, 1) from dk_at dq21_12 (i := 2) rfl) (by decide) rfl, ?_⟩
  refine List.forall_mem_cons.mpr ⟨ok_aload_n C (show decode cX6_copyFrom 5 = .ok (.aload_n 0, 1) from dk_at dq21_12 (i := 3) rfl) rfl rfl, ?_⟩
  refine List.forall_mem_cons.mpr ⟨ok_getf C (wi_X6) rfl (by decide) kw_142 (show decode cX6_copyFrom 6 = .ok (.getfield 9, 3) from dk_at dq21_12 (i := 4) rfl) rfl, ?_⟩
  refine List.forall_mem_cons.mpr ⟨ok_iconst C (show decode cX6_copyFrom 9 = .ok (.iconst 0, 1) from dk_at dq21_12 (i := 5) rfl) (by decide) rfl, ?_⟩
  refine List.forall_mem_cons.mpr ⟨ok_bipush C (show decode cX6_copyFrom 10 = .ok (.bipush 12, 2) from dk_at dq21_12 (i := 6) rfl) (by decide) rfl, ?_⟩
  refine List.forall_mem_cons.mpr ⟨ok_copy C kw_725 kw_727 kw_726 kw_21 ⟨by decide, by decide +kernel⟩ (show decode cX6_copyFrom 12 = .ok (.invokestatic 52, 3) from dk_at dq21_12 (i := 7) rfl) rfl, ?_⟩
  refine List.forall_mem_cons.mpr ⟨ok_aload_n C (show decode cX6_copyFrom 15 = .ok (.aload_n 1, 1) from dk_at dq21_12 (i := 8) rfl) rfl rfl, ?_⟩
  refine List.forall_mem_cons.mpr ⟨ok_getf C (wi_X6) rfl (by decide) kw_146 (show decode cX6_copyFrom 16 = .ok (.getfield 15, 3) from dk_at dq21_12 (i := 9) rfl) rfl, ?_⟩
  refine List.forall_mem_cons.mpr ⟨ok_iconst C (show decode cX6_copyFrom 19 = .ok (.iconst 0, 1) from dk_at dq21_12 (i := 10) rfl) (by decide) rfl, ?_⟩
  refine List.forall_mem_cons.mpr ⟨ok_aload_n C (show decode cX6_copyFrom 20 = .ok (.aload_n 0, 1) from dk_at dq21_12 (i := 11) rfl) rfl rfl, ?_⟩
  refine List.forall_mem_cons.mpr ⟨ok_getf C (wi_X6) rfl (by decide) kw_146 (show decode cX6_copyFrom 21 = .ok (.getfield 15, 3) from dk_at dq21_12 (i := 12) rfl) rfl, ?_⟩
  refine List.forall_mem_cons.mpr ⟨ok_iconst C (show decode cX6_copyFrom 24 = .ok (.iconst 0, 1) from dk_at dq21_12 (i := 13) rfl) (by decide) rfl, ?_⟩
  refine List.forall_mem_cons.mpr ⟨ok_bipush C (show decode cX6_copyFrom 25 = .ok (.bipush 12, 2) from dk_at dq21_12 (i := 14) rfl) (by decide) rfl, ?_⟩
  refine List.forall_mem_cons.mpr ⟨ok_copy C kw_725 kw_727 kw_726 kw_21 ⟨by decide, by decide +kernel⟩ (show decode cX6_copyFrom 27 = .ok (.invokestatic 52, 3) from dk_at dq21_12 (i := 15) rfl) rfl, ?_⟩
  refine List.forall_mem_cons.mpr ⟨ok_aload_n C (show decode cX6_copyFrom 30 = .ok (.aload_n 1, 1) from dk_at dq21_13 (i := 0) rfl) rfl rfl, ?_⟩
  refine List.forall_mem_cons.mpr ⟨ok_getf C (wi_X6) rfl (by decide) kw_149 (show decode cX6_copyFrom 31 = .ok (.getfield 18, 3) from dk_at dq21_13 (i := 1) rfl) rfl, ?_⟩
  refine List.forall_mem_cons.mpr ⟨ok_iconst C (show decode cX6_copyFrom 34 = .ok (.iconst 0, 1) from dk_at dq21_13 (i := 2) rfl) (by decide) rfl, ?_⟩
  refine List.forall_mem_cons.mpr ⟨ok_aload_n C (show decode cX6_copyFrom 35 = .ok (.aload_n 0, 1) from dk_at dq21_13 (i := 3) rfl) rfl rfl, ?_⟩
  refine List.forall_mem_cons.mpr ⟨ok_getf C (wi_X6) rfl (by decide) kw_149 (show decode cX6_copyFrom 36 = .ok (.getfield 18, 3) from dk_at dq21_13 (i := 4) rfl) rfl, ?_⟩
  refine List.forall_mem_cons.mpr ⟨ok_iconst C (show decode cX6_copyFrom 39 = .ok (.iconst 0, 1) from dk_at dq21_13 (i := 5) rfl) (by decide) rfl, ?_⟩
  refine List.forall_mem_cons.mpr ⟨ok_bipush C (show decode cX6_copyFrom 40 = .ok (.bipush 12, 2) from dk_at dq21_13 (i := 6) rfl) (by decide) rfl, ?_⟩
  refine List.forall_mem_cons.mpr ⟨ok_copy C kw_725 kw_727 kw_726 kw_21 ⟨by decide, by decide +kernel⟩ (show decode cX6_copyFrom 42 = .ok (.invokestatic 52, 3) from dk_at dq21_13 (i := 7) rfl) rfl, ?_⟩
  refine List.forall_mem_cons.mpr ⟨ok_aload_n C (show decode cX6_copyFrom 45 = .ok (.aload_n 1, 1) from dk_at dq21_13 (i := 8) rfl) rfl rfl, ?_⟩
  refine List.forall_mem_cons.mpr ⟨ok_getf C (wi_X6) rfl (by decide) kw_151 (show decode cX6_copyFrom 46 = .ok (.getfield 21, 3) from dk_at dq21_13 (i := 9) rfl) rfl, ?_⟩
  refine List.forall_mem_cons.mpr ⟨ok_iconst C (show decode cX6_copyFrom 49 = .ok (.iconst 0, 1) from dk_at dq21_13 (i := 10) rfl) (by decide) rfl, ?_⟩
  refine List.forall_mem_cons.mpr ⟨ok_aload_n C (show decode cX6_copyFrom 50 = .ok (.aload_n 0, 1) from dk_at dq21_13 (i := 11) rfl) rfl rfl, ?_⟩
  refine List.forall_mem_cons.mpr ⟨ok_getf C (wi_X6) rfl (by decide) kw_151 (show decode cX6_copyFrom 51 = .ok (.getfield 21, 3) from dk_at dq21_13 (i := 12) rfl) rfl, ?_⟩
  refine List.forall_mem_cons.mpr ⟨ok_iconst C (show decode cX6_copyFrom 54 = .ok (.iconst 0, 1) from dk_at dq21_13 (i := 13) rfl) (by decide) rfl, ?_⟩
  refine List.forall_mem_cons.mpr ⟨ok_bipush C (show decode cX6_copyFrom 55 = .ok (.bipush 12, 2) from dk_at dq21_13 (i := 14) rfl) (by decide) rfl, ?_⟩
  refine List.forall_mem_cons.mpr ⟨ok_copy C kw_725 kw_727 kw_726 kw_21 ⟨by decide, by decide +kernel⟩ (show decode cX6_copyFrom 57 = .ok (.invokestatic 52, 3) from dk_at dq21_13 (i := 15) rfl) rfl, ?_⟩
  refine List.forall_mem_cons.mpr ⟨ok_aload_n C (show decode cX6_copyFrom 60 = .ok (.aload_n 1, 1) from dk_at dq21_14 (i := 0) rfl) rfl rfl, ?_⟩
  refine List.forall_mem_cons.mpr ⟨ok_getf C (wi_X6) rfl (by decide) kw_155 (show decode cX6_copyFrom 61 = .ok (.getfield 24, 3) from dk_at dq21_14 (i := 1) rfl) rfl, ?_⟩
  refine List.forall_mem_cons.mpr ⟨ok_iconst C (show decode cX6_copyFrom 64 = .ok (.iconst 0, 1) from dk_at dq21_14 (i := 2) rfl) (by decide) rfl, ?_⟩
  refine List.forall_mem_cons.mpr ⟨ok_aload_n C (show decode cX6_copyFrom 65 = .ok (.aload_n 0, 1) from dk_at dq21_14 (i := 3) rfl) rfl rfl, ?_⟩
  refine List.forall_mem_cons.mpr ⟨ok_getf C (wi_X6) rfl (by decide) kw_155 (show decode cX6_copyFrom 66 = .ok (.getfield 24, 3) from dk_at dq21_14 (i := 4) rfl) rfl, ?_⟩
  refine List.forall_mem_cons.mpr ⟨ok_iconst C (show decode cX6_copyFrom 69 = .ok (.iconst 0, 1) from dk_at dq21_14 (i := 5) rfl) (by decide) rfl, ?_⟩
  refine List.forall_mem_cons.mpr ⟨ok_bipush C (show decode cX6_copyFrom 70 = .ok (.bipush 8, 2) from dk_at dq21_14 (i := 6) rfl) (by decide) rfl, ?_⟩
  refine List.forall_mem_cons.mpr ⟨ok_copy C kw_725 kw_727 kw_726 kw_21 ⟨by decide, by decide +kernel⟩ (show decode cX6_copyFrom 72 = .ok (.invokestatic 52, 3) from dk_at dq21_14 (i := 7) rfl) rfl, ?_⟩
  refine List.forall_mem_cons.mpr ⟨ok_aload_n C (show decode cX6_copyFrom 75 = .ok (.aload_n 1, 1) from dk_at dq21_14 (i := 8) rfl) rfl rfl, ?_⟩
  refine List.forall_mem_cons.mpr ⟨ok_getf C (wi_X6) rfl (by decide) kw_158 (show decode cX6_copyFrom 76 = .ok (.getfield 27, 3) from dk_at dq21_14 (i := 9) rfl) rfl, ?_⟩
  refine List.forall_mem_cons.mpr ⟨ok_iconst C (show decode cX6_copyFrom 79 = .ok (.iconst 0, 1) from dk_at dq21_14 (i := 10) rfl) (by decide) rfl, ?_⟩
  refine List.forall_mem_cons.mpr ⟨ok_aload_n C (show decode cX6_copyFrom 80 = .ok (.aload_n 0, 1) from dk_at dq21_14 (i := 11) rfl) rfl rfl, ?_⟩
  refine List.forall_mem_cons.mpr ⟨ok_getf C (wi_X6) rfl (by decide) kw_158 (show decode cX6_copyFrom 81 = .ok (.getfield 27, 3) from dk_at dq21_14 (i := 12) rfl) rfl, ?_⟩
  refine List.forall_mem_cons.mpr ⟨ok_iconst C (show decode cX6_copyFrom 84 = .ok (.iconst 0, 1) from dk_at dq21_14 (i := 13) rfl) (by decide) rfl, ?_⟩
  refine List.forall_mem_cons.mpr ⟨ok_bipush C (show decode cX6_copyFrom 85 = .ok (.bipush 8, 2) from dk_at dq21_14 (i := 14) rfl) (by decide) rfl, ?_⟩
  refine List.forall_mem_cons.mpr ⟨ok_copy C kw_725 kw_727 kw_726 kw_21 ⟨by decide, by decide +kernel⟩ (show decode cX6_copyFrom 87 = .ok (.invokestatic 52, 3) from dk_at dq21_14 (i := 15) rfl) rfl, ?_⟩
  refine List.forall_mem_cons.mpr ⟨ok_aload_n C (show decode cX6_copyFrom 90 = .ok (.aload_n 1, 1) from dk_at dq21_15 (i := 0) rfl) rfl rfl, ?_⟩
  refine List.forall_mem_cons.mpr ⟨ok_getf C (wi_X6) rfl (by decide) kw_161 (show decode cX6_copyFrom 91 = .ok (.getfield 30, 3) from dk_at dq21_15 (i := 1) rfl) rfl, ?_⟩
  refine List.forall_mem_cons.mpr ⟨ok_iconst C (show decode cX6_copyFrom 94 = .ok (.iconst 0, 1) from dk_at dq21_15 (i := 2) rfl) (by decide) rfl, ?_⟩
  refine List.forall_mem_cons.mpr ⟨ok_aload_n C (show decode cX6_copyFrom 95 = .ok (.aload_n 0, 1) from dk_at dq21_15 (i := 3) rfl) rfl rfl, ?_⟩
  refine List.forall_mem_cons.mpr ⟨ok_getf C (wi_X6) rfl (by decide) kw_161 (show decode cX6_copyFrom 96 = .ok (.getfield 30, 3) from dk_at dq21_15 (i := 4) rfl) rfl, ?_⟩
  refine List.forall_mem_cons.mpr ⟨ok_iconst C (show decode cX6_copyFrom 99 = .ok (.iconst 0, 1) from dk_at dq21_15 (i := 5) rfl) (by decide) rfl, ?_⟩
  refine List.forall_mem_cons.mpr ⟨ok_bipush C (show decode cX6_copyFrom 100 = .ok (.bipush 64, 2) from dk_at dq21_15 (i := 6) rfl) (by decide) rfl, ?_⟩
  refine List.forall_mem_cons.mpr ⟨ok_copy C kw_725 kw_727 kw_726 kw_21 ⟨by decide, by decide +kernel⟩ (show decode cX6_copyFrom 102 = .ok (.invokestatic 52, 3) from dk_at dq21_15 (i := 7) rfl) rfl, ?_⟩
  refine List.forall_mem_cons.mpr ⟨ok_aload_n C (show decode cX6_copyFrom 105 = .ok (.aload_n 0, 1) from dk_at dq21_15 (i := 8) rfl) rfl rfl, ?_⟩
  refine List.forall_mem_cons.mpr ⟨ok_aload_n C (show decode cX6_copyFrom 106 = .ok (.aload_n 1, 1) from dk_at dq21_15 (i := 9) rfl) rfl rfl, ?_⟩
  refine List.forall_mem_cons.mpr ⟨ok_getf C (wi_X6) rfl (by decide) kw_162 (show decode cX6_copyFrom 107 = .ok (.getfield 42, 3) from dk_at dq21_15 (i := 10) rfl) rfl, ?_⟩
  refine List.forall_mem_cons.mpr ⟨ok_putf C (wi_X6) tyX6 tyX6_ok nmX6 rfl (by decide) kw_162 (Or.inl rfl) (Or.inl ⟨rfl, rfl⟩) (show decode cX6_copyFrom 110 = .ok (.putfield 42, 3) from dk_at dq21_15 (i := 11) rfl) rfl, ?_⟩
  refine List.forall_mem_cons.mpr ⟨ok_aload_n C (show decode cX6_copyFrom 113 = .ok (.aload_n 0, 1) from dk_at dq21_15 (i := 12) rfl) rfl rfl, ?_⟩
  refine List.forall_mem_cons.mpr ⟨ok_aload_n C (show decode cX6_copyFrom 114 = .ok (.aload_n 1, 1) from dk_at dq21_15 (i := 13) rfl) rfl rfl, ?_⟩
  refine List.forall_mem_cons.mpr ⟨ok_getf C (wi_X6) rfl (by decide) kw_165 (show decode cX6_copyFrom 115 = .ok (.getfield 46, 3) from dk_at dq21_15 (i := 14) rfl) rfl, ?_⟩
  refine List.forall_mem_cons.mpr ⟨ok_putf C (wi_X6) tyX6 tyX6_ok nmX6 rfl (by decide) kw_165 (Or.inl rfl) (Or.inl ⟨rfl, rfl⟩) (show decode cX6_copyFrom 118 = .ok (.putfield 46, 3) from dk_at dq21_15 (i := 15) rfl) rfl, ?_⟩
  refine List.forall_mem_cons.mpr ⟨ok_aload_n C (show decode cX6_copyFrom 121 = .ok (.aload_n 0, 1) from dk_at dq21_16 (i := 0) rfl) rfl rfl, ?_⟩
  refine List.forall_mem_cons.mpr ⟨ok_aload_n C (show decode cX6_copyFrom 122 = .ok (.aload_n 1, 1) from dk_at dq21_16 (i := 1) rfl) rfl rfl, ?_⟩
  refine List.forall_mem_cons.mpr ⟨ok_getf C (wi_X6) rfl (by decide) kw_168 (show decode cX6_copyFrom 123 = .ok (.getfield 49, 3) from dk_at dq21_16 (i := 2) rfl) rfl, ?_⟩
  refine List.forall_mem_cons.mpr ⟨ok_putf C (wi_X6) tyX6 tyX6_ok nmX6 rfl (by decide) kw_168 (Or.inl rfl) (Or.inl ⟨rfl, rfl⟩) (show decode cX6_copyFrom 126 = .ok (.putfield 49, 3) from dk_at dq21_16 (i := 3) rfl) rfl, ?_⟩
  refine List.forall_mem_cons.mpr ⟨ok_vret C rfl (show decode cX6_copyFrom 129 = .ok (.return_, 1) from dk_at dq21_16 (i := 4) rfl), ?_⟩
  exact fun _ h => absurd h List.not_mem_nil
def L_X2_keep (f_X2_dropOldest : List Value → ab_H → Option ab_O) (f_X6_init : List Value → ab_H → Option ab_O) (f_X6_copyFrom : List Value → ab_H → Option ab_O) : List (Nat × ab_A) := [
  (0, ab_nx 1 (ab_aload 0)),
  (1, ab_nx 4 (ab_getf 2 1)),
  (4, ab_nx 6 (ab_lit (.int 8))),
  (6, ab_icmp 9 13 (fun x y => decide (x < y))),
  (9, ab_nx 10 (ab_aload 0)),
  (10, ab_nx 13 (ab_callV 1 2 f_X2_dropOldest 0 0 8 138)),
  (13, ab_nx 14 (ab_aload 0)),
  (14, ab_nx 17 (ab_getf 2 0)),
  (17, ab_nx 18 (ab_aload 0)),
  (18, ab_nx 21 (ab_getf 2 1)),
  (21, ab_nx 22 (ab_aald 5)),
  (22, ab_nx 23 (ab_astore 2)),
  (23, ab_nx 24 (ab_aload 2)),
  (24, ab_nonnull 27 45),
  (27, ab_nx 30 (ab_new 6 10 [.null, .null, .null, .null, .null, .null, .null, .int 0, .int 0, .int 0] 8 138)),
  (30, ab_nx 31 ab_dup),
  (31, ab_nx 34 (ab_call 1 f_X6_init 7 128 8 138)),
  (34, ab_nx 35 (ab_astore 2)),
  (35, ab_nx 36 (ab_aload 0)),
  (36, ab_nx 39 (ab_getf 2 0)),
  (39, ab_nx 40 (ab_aload 0)),
  (40, ab_nx 43 (ab_getf 2 1)),
  (43, ab_nx 44 (ab_aload 2)),
  (44, ab_nx 45 (ab_aast 5 6)),
  (45, ab_nx 46 (ab_aload 2)),
  (46, ab_nx 47 (ab_aload 1)),
  (47, ab_nx 50 (ab_callV 2 6 f_X6_copyFrom 0 0 8 138)),
  (50, ab_nx 51 (ab_aload 0)),
  (51, ab_nx 52 ab_dup),
  (52, ab_nx 55 (ab_getf 2 1)),
  (55, ab_nx 56 (ab_lit (.int 1))),
  (56, ab_nx 57 (ab_bin (fun x y => x + y))),
  (57, ab_nx 60 (ab_putf 2 1 0)),
  (60, ab_vret 8 138)]
set_option maxRecDepth 100000 in
theorem dq21_17 : ([(0, .aload_n 0, 1), (1, .getfield 17, 3), (4, .bipush 8, 2), (6, .if_icmp .lt 7, 3), (9, .aload_n 0, 1), (10, .invokevirtual 21, 3), (13, .aload_n 0, 1), (14, .getfield 11, 3), (17, .aload_n 0, 1), (18, .getfield 17, 3), (21, .aaload, 1), (22, .astore_n 2, 1), (23, .aload_n 2, 1), (24, .ifnonnull 21, 3), (27, .new 9, 3), (30, .dup, 1)] : List (Nat × Instr × Nat)).all (fun q => decide (decode cX2_keep q.1 = .ok q.2)) = true := by decide +kernel
set_option maxRecDepth 100000 in
theorem dq21_18 : ([(31, .invokespecial 24, 3), (34, .astore_n 2, 1), (35, .aload_n 0, 1), (36, .getfield 11, 3), (39, .aload_n 0, 1), (40, .getfield 17, 3), (43, .aload_n 2, 1), (44, .aastore, 1), (45, .aload_n 2, 1), (46, .aload_n 1, 1), (47, .invokevirtual 25, 3), (50, .aload_n 0, 1), (51, .dup, 1), (52, .getfield 17, 3), (55, .iconst 1, 1), (56, .iadd, 1)] : List (Nat × Instr × Nat)).all (fun q => decide (decode cX2_keep q.1 = .ok q.2)) = true := by decide +kernel
set_option maxRecDepth 100000 in
theorem dq21_19 : ([(57, .putfield 17, 3), (60, .return_, 1)] : List (Nat × Instr × Nat)).all (fun q => decide (decode cX2_keep q.1 = .ok q.2)) = true := by decide +kernel
set_option maxRecDepth 100000 in
set_option maxHeartbeats 4000000 in
theorem M_X2_keep {l : Launch} {b : ab_B} {D : va_G} {cA : Nat → ClassId} {f_X2_dropOldest : List Value → ab_H → Option ab_O} (h_X2_dropOldest : ab_M l b D ab_cl cA (ab_E0 b) yX2_dropOldest (Cond.code yX2_dropOldest cX2_dropOldest 3 none :: ab_G) ({ frames := 1, cells := 0, slots := 0, locals := 100 } : Room) f_X2_dropOldest) {f_X6_init : List Value → ab_H → Option ab_O} (h_X6_init : ab_M l b D ab_cl cA (ab_E0 b) yX6_init (Cond.code yX6_init cX6_init 1 none :: ab_G) ({ frames := 2, cells := 7, slots := 128, locals := 200 } : Room) f_X6_init) (i_X6_init : ∀ v hp o2, f_X6_init [v] hp = some o2 → ∃ a, v = .ref a) {f_X6_copyFrom : List Value → ab_H → Option ab_O} (h_X6_copyFrom : ab_M l b D ab_cl cA (ab_E0 b) yX6_copyFrom (Cond.code yX6_copyFrom cX6_copyFrom 2 none :: ab_G) ({ frames := 2, cells := 0, slots := 0, locals := 200 } : Room) f_X6_copyFrom) : ab_M l b D ab_cl cA (ab_E0 b) yX2_keep (Cond.code yX2_keep cX2_keep 3 none :: ab_G) ({ frames := 3, cells := 8, slots := 138, locals := 300 } : Room) (ab_X (ab_T (L_X2_keep f_X2_dropOldest f_X6_init f_X6_copyFrom)) 3) := by
  refine ab_meth (ret := none) (L_X2_keep f_X2_dropOldest f_X6_init f_X6_copyFrom) (by decide) rfl fun p e R s m args below meth c o C => ?_
  unfold L_X2_keep
  refine List.forall_mem_cons.mpr ⟨ok_aload_n C (show decode cX2_keep 0 = .ok (.aload_n 0, 1) from dk_at dq21_17 (i := 0) rfl) rfl rfl, ?_⟩
  refine List.forall_mem_cons.mpr ⟨ok_getf C (wi_X2) rfl (by decide) kw_130 (show decode cX2_keep 1 = .ok (.getfield 17, 3) from dk_at dq21_17 (i := 1) rfl) rfl, ?_⟩
  refine List.forall_mem_cons.mpr ⟨ok_bipush C (show decode cX2_keep 4 = .ok (.bipush 8, 2) from dk_at dq21_17 (i := 2) rfl) (by decide) rfl, ?_⟩
  refine List.forall_mem_cons.mpr ⟨ok_icmplt C (show decode cX2_keep 6 = .ok (.if_icmp .lt 7, 3) from dk_at dq21_17 (i := 3) rfl) (tg := 13) (by decide) rfl rfl, ?_⟩
  refine List.forall_mem_cons.mpr ⟨ok_aload_n C (show decode cX2_keep 9 = .ok (.aload_n 0, 1) from dk_at dq21_17 (i := 4) rfl) rfl rfl, ?_⟩
  refine List.forall_mem_cons.mpr ⟨ok_callV C h_X2_dropOldest ⟨rfl, rfl⟩ rfl kw_719 kw_716 kw_718 kp_21 kw_5 rfl ds_X2_dropOldest ⟨by decide, by decide⟩ (show decode cX2_keep 10 = .ok (.invokevirtual 21, 3) from dk_at dq21_17 (i := 5) rfl) rfl, ?_⟩
  refine List.forall_mem_cons.mpr ⟨ok_aload_n C (show decode cX2_keep 13 = .ok (.aload_n 0, 1) from dk_at dq21_17 (i := 6) rfl) rfl rfl, ?_⟩
  refine List.forall_mem_cons.mpr ⟨ok_getf C (wi_X2) rfl (by decide) kw_129 (show decode cX2_keep 14 = .ok (.getfield 11, 3) from dk_at dq21_17 (i := 7) rfl) rfl, ?_⟩
  refine List.forall_mem_cons.mpr ⟨ok_aload_n C (show decode cX2_keep 17 = .ok (.aload_n 0, 1) from dk_at dq21_17 (i := 8) rfl) rfl rfl, ?_⟩
  refine List.forall_mem_cons.mpr ⟨ok_getf C (wi_X2) rfl (by decide) kw_130 (show decode cX2_keep 18 = .ok (.getfield 17, 3) from dk_at dq21_17 (i := 9) rfl) rfl, ?_⟩
  refine List.forall_mem_cons.mpr ⟨ok_aaload C (t0 := 5) rfl (show decode cX2_keep 21 = .ok (.aaload, 1) from dk_at dq21_17 (i := 10) rfl) rfl, ?_⟩
  refine List.forall_mem_cons.mpr ⟨ok_astore_n C (show decode cX2_keep 22 = .ok (.astore_n 2, 1) from dk_at dq21_17 (i := 11) rfl) rfl (by decide) rfl, ?_⟩
  refine List.forall_mem_cons.mpr ⟨ok_aload_n C (show decode cX2_keep 23 = .ok (.aload_n 2, 1) from dk_at dq21_17 (i := 12) rfl) rfl rfl, ?_⟩
  refine List.forall_mem_cons.mpr ⟨ok_nonnull C (show decode cX2_keep 24 = .ok (.ifnonnull 21, 3) from dk_at dq21_17 (i := 13) rfl) (tg := 45) (by decide) rfl rfl, ?_⟩
  refine List.forall_mem_cons.mpr ⟨ok_new C (wi_X6) tyX6 tyX6_ok rfl kw_127 kw_137 kw_6 (df_X6 _) (show decode cX2_keep 27 = .ok (.new 9, 3) from dk_at dq21_17 (i := 14) rfl) rfl, ?_⟩
  refine List.forall_mem_cons.mpr ⟨ok_dup C (show decode cX2_keep 30 = .ok (.dup, 1) from dk_at dq21_17 (i := 15) rfl) rfl, ?_⟩
  refine List.forall_mem_cons.mpr ⟨ok_callIN C h_X6_init ⟨rfl, rfl⟩ i_X6_init kw_140 (host := "LackFerry") (by decide +kernel) kw_139 kw_6 rfl ds_X6_init ⟨by decide, by decide⟩ (show decode cX2_keep 31 = .ok (.invokespecial 24, 3) from dk_at dq21_18 (i := 0) rfl) rfl, ?_⟩
  refine List.forall_mem_cons.mpr ⟨ok_astore_n C (show decode cX2_keep 34 = .ok (.astore_n 2, 1) from dk_at dq21_18 (i := 1) rfl) rfl (by decide) rfl, ?_⟩
  refine List.forall_mem_cons.mpr ⟨ok_aload_n C (show decode cX2_keep 35 = .ok (.aload_n 0, 1) from dk_at dq21_18 (i := 2) rfl) rfl rfl, ?_⟩
  refine List.forall_mem_cons.mpr ⟨ok_getf C (wi_X2) rfl (by decide) kw_129 (show decode cX2_keep 36 = .ok (.getfield 11, 3) from dk_at dq21_18 (i := 3) rfl) rfl, ?_⟩
  refine List.forall_mem_cons.mpr ⟨ok_aload_n C (show decode cX2_keep 39 = .ok (.aload_n 0, 1) from dk_at dq21_18 (i := 4) rfl) rfl rfl, ?_⟩
  refine List.forall_mem_cons.mpr ⟨ok_getf C (wi_X2) rfl (by decide) kw_130 (show decode cX2_keep 40 = .ok (.getfield 17, 3) from dk_at dq21_18 (i := 5) rfl) rfl, ?_⟩
  refine List.forall_mem_cons.mpr ⟨ok_aload_n C (show decode cX2_keep 43 = .ok (.aload_n 2, 1) from dk_at dq21_18 (i := 6) rfl) rfl rfl, ?_⟩
  refine List.forall_mem_cons.mpr ⟨ok_aastore C (t0 := 5) (ci := 6) rfl rfl (show decode cX2_keep 44 = .ok (.aastore, 1) from dk_at dq21_18 (i := 7) rfl) rfl, ?_⟩
  refine List.forall_mem_cons.mpr ⟨ok_aload_n C (show decode cX2_keep 45 = .ok (.aload_n 2, 1) from dk_at dq21_18 (i := 8) rfl) rfl rfl, ?_⟩
  refine List.forall_mem_cons.mpr ⟨ok_aload_n C (show decode cX2_keep 46 = .ok (.aload_n 1, 1) from dk_at dq21_18 (i := 9) rfl) rfl rfl, ?_⟩
  refine List.forall_mem_cons.mpr ⟨ok_callV C h_X6_copyFrom ⟨rfl, rfl⟩ rfl kw_724 kw_721 kw_722 kw_723 kw_6 rfl ds_X6_copyFrom ⟨by decide, by decide⟩ (show decode cX2_keep 47 = .ok (.invokevirtual 25, 3) from dk_at dq21_18 (i := 10) rfl) rfl, ?_⟩
  refine List.forall_mem_cons.mpr ⟨ok_aload_n C (show decode cX2_keep 50 = .ok (.aload_n 0, 1) from dk_at dq21_18 (i := 11) rfl) rfl rfl, ?_⟩
  refine List.forall_mem_cons.mpr ⟨ok_dup C (show decode cX2_keep 51 = .ok (.dup, 1) from dk_at dq21_18 (i := 12) rfl) rfl, ?_⟩
  refine List.forall_mem_cons.mpr ⟨ok_getf C (wi_X2) rfl (by decide) kw_130 (show decode cX2_keep 52 = .ok (.getfield 17, 3) from dk_at dq21_18 (i := 13) rfl) rfl, ?_⟩
  refine List.forall_mem_cons.mpr ⟨ok_iconst C (show decode cX2_keep 55 = .ok (.iconst 1, 1) from dk_at dq21_18 (i := 14) rfl) (by decide) rfl, ?_⟩
  refine List.forall_mem_cons.mpr ⟨ok_iadd C (show decode cX2_keep 56 = .ok (.iadd, 1) from dk_at dq21_18 (i := 15) rfl) rfl, ?_⟩
  refine List.forall_mem_cons.mpr ⟨ok_putf C (wi_X2) tyX2 tyX2_ok nmX2 rfl (by decide) kw_130 (Or.inl rfl) (Or.inl ⟨rfl, rfl⟩) (show decode cX2_keep 57 = .ok (.putfield 17, 3) from dk_at dq21_19 (i := 0) rfl) rfl, ?_⟩
  refine List.forall_mem_cons.mpr ⟨ok_vret C rfl (show decode cX2_keep 60 = .ok (.return_, 1) from dk_at dq21_19 (i := 1) rfl), ?_⟩
  exact fun _ h => absurd h List.not_mem_nil
def L_X2_takeBack (f_X6_copyFrom : List Value → ab_H → Option ab_O) : List (Nat × ab_A) := [
  (0, ab_nx 1 (ab_aload 0)),
  (1, ab_nx 4 (ab_getf 2 1)),
  (4, ab_if 7 16 (fun x => decide (x ≤ 0))),
  (7, ab_nx 8 (ab_aload 0)),
  (8, ab_nx 11 (ab_getf 2 1)),
  (11, ab_nx 13 (ab_lit (.int 8))),
  (13, ab_icmp 16 18 (fun x y => decide (x ≤ y))),
  (16, ab_nx 17 (ab_lit (.int (-1)))),
  (17, ab_ret 0 0),
  (18, ab_nx 19 (ab_aload 0)),
  (19, ab_nx 22 (ab_getf 2 0)),
  (22, ab_nx 23 (ab_aload 0)),
  (23, ab_nx 26 (ab_getf 2 1)),
  (26, ab_nx 27 (ab_lit (.int 1))),
  (27, ab_nx 28 (ab_bin (fun x y => x - y))),
  (28, ab_nx 29 (ab_aald 5)),
  (29, ab_nx 30 (ab_astore 2)),
  (30, ab_nx 31 (ab_aload 2)),
  (31, ab_nonnull 34 36),
  (34, ab_nx 35 (ab_lit (.int (-1)))),
  (35, ab_ret 0 0),
  (36, ab_nx 37 (ab_aload 1)),
  (37, ab_nx 38 (ab_aload 2)),
  (38, ab_nx 41 (ab_callV 2 6 f_X6_copyFrom 0 0 0 0)),
  (41, ab_nx 42 (ab_aload 0)),
  (42, ab_nx 43 ab_dup),
  (43, ab_nx 46 (ab_getf 2 1)),
  (46, ab_nx 47 (ab_lit (.int 1))),
  (47, ab_nx 48 (ab_bin (fun x y => x - y))),
  (48, ab_nx 51 (ab_putf 2 1 0)),
  (51, ab_nx 52 (ab_aload 0)),
  (52, ab_nx 55 (ab_getf 2 1)),
  (55, ab_ret 0 0)]
set_option maxRecDepth 100000 in
theorem dq21_20 : ([(0, .aload_n 0, 1), (1, .getfield 17, 3), (4, .ifCond .le 12, 3), (7, .aload_n 0, 1), (8, .getfield 17, 3), (11, .bipush 8, 2), (13, .if_icmp .le 5, 3), (16, .iconst (-1), 1), (17, .ireturn, 1), (18, .aload_n 0, 1), (19, .getfield 11, 3), (22, .aload_n 0, 1), (23, .getfield 17, 3), (26, .iconst 1, 1), (27, .isub, 1), (28, .aaload, 1)] : List (Nat × Instr × Nat)).all (fun q => decide (decode cX2_takeBack q.1 = .ok q.2)) = true := by decide +kernel
set_option maxRecDepth 100000 in
theorem dq21_21 : ([(29, .astore_n 2, 1), (30, .aload_n 2, 1), (31, .ifnonnull 5, 3), (34, .iconst (-1), 1), (35, .ireturn, 1), (36, .aload_n 1, 1), (37, .aload_n 2, 1), (38, .invokevirtual 25, 3), (41, .aload_n 0, 1), (42, .dup, 1), (43, .getfield 17, 3), (46, .iconst 1, 1), (47, .isub, 1), (48, .putfield 17, 3), (51, .aload_n 0, 1), (52, .getfield 17, 3)] : List (Nat × Instr × Nat)).all (fun q => decide (decode cX2_takeBack q.1 = .ok q.2)) = true := by decide +kernel
set_option maxRecDepth 100000 in
theorem dq21_22 : ([(55, .ireturn, 1)] : List (Nat × Instr × Nat)).all (fun q => decide (decode cX2_takeBack q.1 = .ok q.2)) = true := by decide +kernel
set_option maxRecDepth 100000 in
set_option maxHeartbeats 4000000 in
theorem M_X2_takeBack {l : Launch} {b : ab_B} {D : va_G} {cA : Nat → ClassId} {f_X6_copyFrom : List Value → ab_H → Option ab_O} (h_X6_copyFrom : ab_M l b D ab_cl cA (ab_E0 b) yX6_copyFrom (Cond.code yX6_copyFrom cX6_copyFrom 2 none :: ab_G) ({ frames := 2, cells := 0, slots := 0, locals := 200 } : Room) f_X6_copyFrom) : ab_M l b D ab_cl cA (ab_E0 b) yX2_takeBack (Cond.code yX2_takeBack cX2_takeBack 3 (some .int) :: ab_G) ({ frames := 3, cells := 0, slots := 0, locals := 300 } : Room) (ab_X (ab_T (L_X2_takeBack f_X6_copyFrom)) 3) := by
  refine ab_meth (ret := (some .int)) (L_X2_takeBack f_X6_copyFrom) (by decide) rfl fun p e R s m args below meth c o C => ?_
  unfold L_X2_takeBack
  refine List.forall_mem_cons.mpr ⟨ok_aload_n C (show decode cX2_takeBack 0 = .ok (.aload_n 0, 1) from dk_at dq21_20 (i := 0) rfl) rfl rfl, ?_⟩
  refine List.forall_mem_cons.mpr ⟨ok_getf C (wi_X2) rfl (by decide) kw_130 (show decode cX2_takeBack 1 = .ok (.getfield 17, 3) from dk_at dq21_20 (i := 1) rfl) rfl, ?_⟩
  refine List.forall_mem_cons.mpr ⟨ok_ifle C (show decode cX2_takeBack 4 = .ok (.ifCond .le 12, 3) from dk_at dq21_20 (i := 2) rfl) (tg := 16) (by decide) rfl rfl, ?_⟩
  refine List.forall_mem_cons.mpr ⟨ok_aload_n C (show decode cX2_takeBack 7 = .ok (.aload_n 0, 1) from dk_at dq21_20 (i := 3) rfl) rfl rfl, ?_⟩
  refine List.forall_mem_cons.mpr ⟨ok_getf C (wi_X2) rfl (by decide) kw_130 (show decode cX2_takeBack 8 = .ok (.getfield 17, 3) from dk_at dq21_20 (i := 4) rfl) rfl, ?_⟩
  refine List.forall_mem_cons.mpr ⟨ok_bipush C (show decode cX2_takeBack 11 = .ok (.bipush 8, 2) from dk_at dq21_20 (i := 5) rfl) (by decide) rfl, ?_⟩
  refine List.forall_mem_cons.mpr ⟨ok_icmple C (show decode cX2_takeBack 13 = .ok (.if_icmp .le 5, 3) from dk_at dq21_20 (i := 6) rfl) (tg := 18) (by decide) rfl rfl, ?_⟩
  refine List.forall_mem_cons.mpr ⟨ok_iconst C (show decode cX2_takeBack 16 = .ok (.iconst (-1), 1) from dk_at dq21_20 (i := 7) rfl) (by decide) rfl, ?_⟩
  refine List.forall_mem_cons.mpr ⟨ok_ret C rfl (show decode cX2_takeBack 17 = .ok (.ireturn, 1) from dk_at dq21_20 (i := 8) rfl), ?_⟩
  refine List.forall_mem_cons.mpr ⟨ok_aload_n C (show decode cX2_takeBack 18 = .ok (.aload_n 0, 1) from dk_at dq21_20 (i := 9) rfl) rfl rfl, ?_⟩
  refine List.forall_mem_cons.mpr ⟨ok_getf C (wi_X2) rfl (by decide) kw_129 (show decode cX2_takeBack 19 = .ok (.getfield 11, 3) from dk_at dq21_20 (i := 10) rfl) rfl, ?_⟩
  refine List.forall_mem_cons.mpr ⟨ok_aload_n C (show decode cX2_takeBack 22 = .ok (.aload_n 0, 1) from dk_at dq21_20 (i := 11) rfl) rfl rfl, ?_⟩
  refine List.forall_mem_cons.mpr ⟨ok_getf C (wi_X2) rfl (by decide) kw_130 (show decode cX2_takeBack 23 = .ok (.getfield 17, 3) from dk_at dq21_20 (i := 12) rfl) rfl, ?_⟩
  refine List.forall_mem_cons.mpr ⟨ok_iconst C (show decode cX2_takeBack 26 = .ok (.iconst 1, 1) from dk_at dq21_20 (i := 13) rfl) (by decide) rfl, ?_⟩
  refine List.forall_mem_cons.mpr ⟨ok_isub C (show decode cX2_takeBack 27 = .ok (.isub, 1) from dk_at dq21_20 (i := 14) rfl) rfl, ?_⟩
  refine List.forall_mem_cons.mpr ⟨ok_aaload C (t0 := 5) rfl (show decode cX2_takeBack 28 = .ok (.aaload, 1) from dk_at dq21_20 (i := 15) rfl) rfl, ?_⟩
  refine List.forall_mem_cons.mpr ⟨ok_astore_n C (show decode cX2_takeBack 29 = .ok (.astore_n 2, 1) from dk_at dq21_21 (i := 0) rfl) rfl (by decide) rfl, ?_⟩
  refine List.forall_mem_cons.mpr ⟨ok_aload_n C (show decode cX2_takeBack 30 = .ok (.aload_n 2, 1) from dk_at dq21_21 (i := 1) rfl) rfl rfl, ?_⟩
  refine List.forall_mem_cons.mpr ⟨ok_nonnull C (show decode cX2_takeBack 31 = .ok (.ifnonnull 5, 3) from dk_at dq21_21 (i := 2) rfl) (tg := 36) (by decide) rfl rfl, ?_⟩
  refine List.forall_mem_cons.mpr ⟨ok_iconst C (show decode cX2_takeBack 34 = .ok (.iconst (-1), 1) from dk_at dq21_21 (i := 3) rfl) (by decide) rfl, ?_⟩
  refine List.forall_mem_cons.mpr ⟨ok_ret C rfl (show decode cX2_takeBack 35 = .ok (.ireturn, 1) from dk_at dq21_21 (i := 4) rfl), ?_⟩
  refine List.forall_mem_cons.mpr ⟨ok_aload_n C (show decode cX2_takeBack 36 = .ok (.aload_n 1, 1) from dk_at dq21_21 (i := 5) rfl) rfl rfl, ?_⟩
  refine List.forall_mem_cons.mpr ⟨ok_aload_n C (show decode cX2_takeBack 37 = .ok (.aload_n 2, 1) from dk_at dq21_21 (i := 6) rfl) rfl rfl, ?_⟩
  refine List.forall_mem_cons.mpr ⟨ok_callV C h_X6_copyFrom ⟨rfl, rfl⟩ rfl kw_724 kw_721 kw_722 kw_723 kw_6 rfl ds_X6_copyFrom ⟨by decide, by decide⟩ (show decode cX2_takeBack 38 = .ok (.invokevirtual 25, 3) from dk_at dq21_21 (i := 7) rfl) rfl, ?_⟩
  refine List.forall_mem_cons.mpr ⟨ok_aload_n C (show decode cX2_takeBack 41 = .ok (.aload_n 0, 1) from dk_at dq21_21 (i := 8) rfl) rfl rfl, ?_⟩
  refine List.forall_mem_cons.mpr ⟨ok_dup C (show decode cX2_takeBack 42 = .ok (.dup, 1) from dk_at dq21_21 (i := 9) rfl) rfl, ?_⟩
  refine List.forall_mem_cons.mpr ⟨ok_getf C (wi_X2) rfl (by decide) kw_130 (show decode cX2_takeBack 43 = .ok (.getfield 17, 3) from dk_at dq21_21 (i := 10) rfl) rfl, ?_⟩
  refine List.forall_mem_cons.mpr ⟨ok_iconst C (show decode cX2_takeBack 46 = .ok (.iconst 1, 1) from dk_at dq21_21 (i := 11) rfl) (by decide) rfl, ?_⟩
  refine List.forall_mem_cons.mpr ⟨ok_isub C (show decode cX2_takeBack 47 = .ok (.isub, 1) from dk_at dq21_21 (i := 12) rfl) rfl, ?_⟩
  refine List.forall_mem_cons.mpr ⟨ok_putf C (wi_X2) tyX2 tyX2_ok nmX2 rfl (by decide) kw_130 (Or.inl rfl) (Or.inl ⟨rfl, rfl⟩) (show decode cX2_takeBack 48 = .ok (.putfield 17, 3) from dk_at dq21_21 (i := 13) rfl) rfl, ?_⟩
  refine List.forall_mem_cons.mpr ⟨ok_aload_n C (show decode cX2_takeBack 51 = .ok (.aload_n 0, 1) from dk_at dq21_21 (i := 14) rfl) rfl rfl, ?_⟩
  refine List.forall_mem_cons.mpr ⟨ok_getf C (wi_X2) rfl (by decide) kw_130 (show decode cX2_takeBack 52 = .ok (.getfield 17, 3) from dk_at dq21_21 (i := 15) rfl) rfl, ?_⟩
  refine List.forall_mem_cons.mpr ⟨ok_ret C rfl (show decode cX2_takeBack 55 = .ok (.ireturn, 1) from dk_at dq21_22 (i := 0) rfl), ?_⟩
  exact fun _ h => absurd h List.not_mem_nil
def L_X7_init : List (Nat × ab_A) := [
  (0, ab_nx 1 (ab_aload 0)),
  (1, ab_nx 4 ab_obj),
  (4, ab_nx 5 (ab_aload 0)),
  (5, ab_nx 7 (ab_lit (.int 6))),
  (7, ab_nx 9 (ab_newa 2 (fun n => (n, .inr (.inl (fun _ => 0)))) 7 130)),
  (9, ab_nx 12 (ab_putf 7 0 2)),
  (12, ab_nx 13 (ab_aload 0)),
  (13, ab_nx 15 (ab_lit (.int 8))),
  (15, ab_nx 17 (ab_newa 2 (fun n => (n, .inr (.inl (fun _ => 0)))) 7 130)),
  (17, ab_nx 20 (ab_putf 7 1 2)),
  (20, ab_nx 21 (ab_aload 0)),
  (21, ab_nx 23 (ab_lit (.int 8))),
  (23, ab_nx 25 (ab_newa 1 (fun n => (n, .inl (fun _ => 0))) 7 130)),
  (25, ab_nx 28 (ab_putf 7 2 2)),
  (28, ab_nx 29 (ab_aload 0)),
  (29, ab_nx 31 (ab_lit (.int 48))),
  (31, ab_nx 33 (ab_newa 1 (fun n => (n, .inl (fun _ => 0))) 7 130)),
  (33, ab_nx 36 (ab_putf 7 3 2)),
  (36, ab_nx 37 (ab_aload 0)),
  (37, ab_nx 39 (ab_lit (.int 20))),
  (39, ab_nx 41 (ab_newa 1 (fun n => (n, .inl (fun _ => 0))) 7 130)),
  (41, ab_nx 44 (ab_putf 7 4 2)),
  (44, ab_nx 45 (ab_aload 0)),
  (45, ab_nx 47 (ab_lit (.int 20))),
  (47, ab_nx 49 (ab_newa 1 (fun n => (n, .inl (fun _ => 0))) 7 130)),
  (49, ab_nx 52 (ab_putf 7 5 2)),
  (52, ab_nx 53 (ab_aload 0)),
  (53, ab_nx 55 (ab_lit (.int 20))),
  (55, ab_nx 57 (ab_newa 1 (fun n => (n, .inl (fun _ => 0))) 7 130)),
  (57, ab_nx 60 (ab_putf 7 6 2)),
  (60, ab_nx 61 (ab_aload 0)),
  (61, ab_nx 63 (ab_lit (.int 10))),
  (63, ab_nx 66 (ab_putf 7 7 0)),
  (66, ab_vret 7 130)]
set_option maxRecDepth 100000 in
theorem dq21_23 : ([(0, .aload_n 0, 1), (1, .invokespecial 3, 3), (4, .aload_n 0, 1), (5, .bipush 6, 2), (7, .newarray .long, 2), (9, .putfield 9, 3), (12, .aload_n 0, 1), (13, .bipush 8, 2), (15, .newarray .long, 2), (17, .putfield 15, 3), (20, .aload_n 0, 1), (21, .bipush 8, 2), (23, .newarray .int, 2), (25, .putfield 18, 3), (28, .aload_n 0, 1), (29, .bipush 48, 2)] : List (Nat × Instr × Nat)).all (fun q => decide (decode cX7_init q.1 = .ok q.2)) = true := by decide +kernel
set_option maxRecDepth 100000 in
theorem dq21_24 : ([(31, .newarray .int, 2), (33, .putfield 22, 3), (36, .aload_n 0, 1), (37, .bipush 20, 2), (39, .newarray .int, 2), (41, .putfield 25, 3), (44, .aload_n 0, 1), (45, .bipush 20, 2), (47, .newarray .int, 2), (49, .putfield 28, 3), (52, .aload_n 0, 1), (53, .bipush 20, 2), (55, .newarray .int, 2), (57, .putfield 31, 3), (60, .aload_n 0, 1), (61, .bipush 10, 2)] : List (Nat × Instr × Nat)).all (fun q => decide (decode cX7_init q.1 = .ok q.2)) = true := by decide +kernel
set_option maxRecDepth 100000 in
theorem dq21_25 : ([(63, .putfield 34, 3), (66, .return_, 1)] : List (Nat × Instr × Nat)).all (fun q => decide (decode cX7_init q.1 = .ok q.2)) = true := by decide +kernel
set_option maxRecDepth 100000 in
set_option maxHeartbeats 4000000 in
theorem M_X7_init {l : Launch} {b : ab_B} {D : va_G} {cA : Nat → ClassId} : ab_M l b D ab_cl cA (ab_E0 b) yX7_init (Cond.code yX7_init cX7_init 1 none :: ab_G) ({ frames := 2, cells := 7, slots := 130, locals := 200 } : Room) (ab_X (ab_T L_X7_init) 1) := by
  refine ab_meth (ret := none) L_X7_init (by decide) rfl fun p e R s m args below meth c o C => ?_
  unfold L_X7_init
  refine List.forall_mem_cons.mpr ⟨ok_aload_n C (show decode cX7_init 0 = .ok (.aload_n 0, 1) from dk_at dq21_23 (i := 0) rfl) rfl rfl, ?_⟩
  refine List.forall_mem_cons.mpr ⟨ok_obj C kw_233 kw_30 kw_31 ⟨by decide, by decide⟩ (show decode cX7_init 1 = .ok (.invokespecial 3, 3) from dk_at dq21_23 (i := 1) rfl) rfl, ?_⟩
  refine List.forall_mem_cons.mpr ⟨ok_aload_n C (show decode cX7_init 4 = .ok (.aload_n 0, 1) from dk_at dq21_23 (i := 2) rfl) rfl rfl, ?_⟩
  refine List.forall_mem_cons.mpr ⟨ok_bipush C (show decode cX7_init 5 = .ok (.bipush 6, 2) from dk_at dq21_23 (i := 3) rfl) (by decide) rfl, ?_⟩
  refine List.forall_mem_cons.mpr ⟨ok_newa_long C kw_98 (show decode cX7_init 7 = .ok (.newarray .long, 2) from dk_at dq21_23 (i := 4) rfl) rfl, ?_⟩
  refine List.forall_mem_cons.mpr ⟨ok_putf C (wi_X7) tyX7 tyX7_ok nmX7 rfl (by decide) kw_234 (Or.inr ⟨rfl, cx_name C, rfl⟩) (Or.inr (Or.inr (Or.inl ⟨rfl, Or.inr ⟨_, rfl⟩⟩))) (show decode cX7_init 9 = .ok (.putfield 9, 3) from dk_at dq21_23 (i := 5) rfl) rfl, ?_⟩
  refine List.forall_mem_cons.mpr ⟨ok_aload_n C (show decode cX7_init 12 = .ok (.aload_n 0, 1) from dk_at dq21_23 (i := 6) rfl) rfl rfl, ?_⟩
  refine List.forall_mem_cons.mpr ⟨ok_bipush C (show decode cX7_init 13 = .ok (.bipush 8, 2) from dk_at dq21_23 (i := 7) rfl) (by decide) rfl, ?_⟩
  refine List.forall_mem_cons.mpr ⟨ok_newa_long C kw_98 (show decode cX7_init 15 = .ok (.newarray .long, 2) from dk_at dq21_23 (i := 8) rfl) rfl, ?_⟩
  refine List.forall_mem_cons.mpr ⟨ok_putf C (wi_X7) tyX7 tyX7_ok nmX7 rfl (by decide) kw_235 (Or.inr ⟨rfl, cx_name C, rfl⟩) (Or.inr (Or.inr (Or.inl ⟨rfl, Or.inr ⟨_, rfl⟩⟩))) (show decode cX7_init 17 = .ok (.putfield 15, 3) from dk_at dq21_23 (i := 9) rfl) rfl, ?_⟩
  refine List.forall_mem_cons.mpr ⟨ok_aload_n C (show decode cX7_init 20 = .ok (.aload_n 0, 1) from dk_at dq21_23 (i := 10) rfl) rfl rfl, ?_⟩
  refine List.forall_mem_cons.mpr ⟨ok_bipush C (show decode cX7_init 21 = .ok (.bipush 8, 2) from dk_at dq21_23 (i := 11) rfl) (by decide) rfl, ?_⟩
  refine List.forall_mem_cons.mpr ⟨ok_newa_int C kw_97 (show decode cX7_init 23 = .ok (.newarray .int, 2) from dk_at dq21_23 (i := 12) rfl) rfl, ?_⟩
  refine List.forall_mem_cons.mpr ⟨ok_putf C (wi_X7) tyX7 tyX7_ok nmX7 rfl (by decide) kw_236 (Or.inr ⟨rfl, cx_name C, rfl⟩) (Or.inr (Or.inr (Or.inl ⟨rfl, Or.inr ⟨_, rfl⟩⟩))) (show decode cX7_init 25 = .ok (.putfield 18, 3) from dk_at dq21_23 (i := 13) rfl) rfl, ?_⟩
  refine List.forall_mem_cons.mpr ⟨ok_aload_n C (show decode cX7_init 28 = .ok (.aload_n 0, 1) from dk_at dq21_23 (i := 14) rfl) rfl rfl, ?_⟩
  refine List.forall_mem_cons.mpr ⟨ok_bipush C (show decode cX7_init 29 = .ok (.bipush 48, 2) from dk_at dq21_23 (i := 15) rfl) (by decide) rfl, ?_⟩
  refine List.forall_mem_cons.mpr ⟨ok_newa_int C kw_97 (show decode cX7_init 31 = .ok (.newarray .int, 2) from dk_at dq21_24 (i := 0) rfl) rfl, ?_⟩
  refine List.forall_mem_cons.mpr ⟨ok_putf C (wi_X7) tyX7 tyX7_ok nmX7 rfl (by decide) kw_238 (Or.inr ⟨rfl, cx_name C, rfl⟩) (Or.inr (Or.inr (Or.inl ⟨rfl, Or.inr ⟨_, rfl⟩⟩))) (show decode cX7_init 33 = .ok (.putfield 22, 3) from dk_at dq21_24 (i := 1) rfl) rfl, ?_⟩
  refine List.forall_mem_cons.mpr ⟨ok_aload_n C (show decode cX7_init 36 = .ok (.aload_n 0, 1) from dk_at dq21_24 (i := 2) rfl) rfl rfl, ?_⟩
  refine List.forall_mem_cons.mpr ⟨ok_bipush C (show decode cX7_init 37 = .ok (.bipush 20, 2) from dk_at dq21_24 (i := 3) rfl) (by decide) rfl, ?_⟩
  refine List.forall_mem_cons.mpr ⟨ok_newa_int C kw_97 (show decode cX7_init 39 = .ok (.newarray .int, 2) from dk_at dq21_24 (i := 4) rfl) rfl, ?_⟩
  refine List.forall_mem_cons.mpr ⟨ok_putf C (wi_X7) tyX7 tyX7_ok nmX7 rfl (by decide) kw_239 (Or.inr ⟨rfl, cx_name C, rfl⟩) (Or.inr (Or.inr (Or.inl ⟨rfl, Or.inr ⟨_, rfl⟩⟩))) (show decode cX7_init 41 = .ok (.putfield 25, 3) from dk_at dq21_24 (i := 5) rfl) rfl, ?_⟩
  refine List.forall_mem_cons.mpr ⟨ok_aload_n C (show decode cX7_init 44 = .ok (.aload_n 0, 1) from dk_at dq21_24 (i := 6) rfl) rfl rfl, ?_⟩
  refine List.forall_mem_cons.mpr ⟨ok_bipush C (show decode cX7_init 45 = .ok (.bipush 20, 2) from dk_at dq21_24 (i := 7) rfl) (by decide) rfl, ?_⟩
  refine List.forall_mem_cons.mpr ⟨ok_newa_int C kw_97 (show decode cX7_init 47 = .ok (.newarray .int, 2) from dk_at dq21_24 (i := 8) rfl) rfl, ?_⟩
  refine List.forall_mem_cons.mpr ⟨ok_putf C (wi_X7) tyX7 tyX7_ok nmX7 rfl (by decide) kw_241 (Or.inr ⟨rfl, cx_name C, rfl⟩) (Or.inr (Or.inr (Or.inl ⟨rfl, Or.inr ⟨_, rfl⟩⟩))) (show decode cX7_init 49 = .ok (.putfield 28, 3) from dk_at dq21_24 (i := 9) rfl) rfl, ?_⟩
  refine List.forall_mem_cons.mpr ⟨ok_aload_n C (show decode cX7_init 52 = .ok (.aload_n 0, 1) from dk_at dq21_24 (i := 10) rfl) rfl rfl, ?_⟩
  refine List.forall_mem_cons.mpr ⟨ok_bipush C (show decode cX7_init 53 = .ok (.bipush 20, 2) from dk_at dq21_24 (i := 11) rfl) (by decide) rfl, ?_⟩
  refine List.forall_mem_cons.mpr ⟨ok_newa_int C kw_97 (show decode cX7_init 55 = .ok (.newarray .int, 2) from dk_at dq21_24 (i := 12) rfl) rfl, ?_⟩
  refine List.forall_mem_cons.mpr ⟨ok_putf C (wi_X7) tyX7 tyX7_ok nmX7 rfl (by decide) kw_243 (Or.inr ⟨rfl, cx_name C, rfl⟩) (Or.inr (Or.inr (Or.inl ⟨rfl, Or.inr ⟨_, rfl⟩⟩))) (show decode cX7_init 57 = .ok (.putfield 31, 3) from dk_at dq21_24 (i := 13) rfl) rfl, ?_⟩
  refine List.forall_mem_cons.mpr ⟨ok_aload_n C (show decode cX7_init 60 = .ok (.aload_n 0, 1) from dk_at dq21_24 (i := 14) rfl) rfl rfl, ?_⟩
  refine List.forall_mem_cons.mpr ⟨ok_bipush C (show decode cX7_init 61 = .ok (.bipush 10, 2) from dk_at dq21_24 (i := 15) rfl) (by decide) rfl, ?_⟩
  refine List.forall_mem_cons.mpr ⟨ok_putf C (wi_X7) tyX7 tyX7_ok nmX7 rfl (by decide) kw_245 (Or.inl rfl) (Or.inl ⟨rfl, rfl⟩) (show decode cX7_init 63 = .ok (.putfield 34, 3) from dk_at dq21_25 (i := 0) rfl) rfl, ?_⟩
  refine List.forall_mem_cons.mpr ⟨ok_vret C rfl (show decode cX7_init 66 = .ok (.return_, 1) from dk_at dq21_25 (i := 1) rfl), ?_⟩
  exact fun _ h => absurd h List.not_mem_nil
def L_X5_init : List (Nat × ab_A) := [
  (0, ab_nx 1 (ab_aload 0)),
  (1, ab_nx 4 ab_obj),
  (4, ab_nx 5 (ab_aload 0)),
  (5, ab_nx 7 (ab_lit (.int 40))),
  (7, ab_nx 9 (ab_newa 1 (fun n => (n, .inl (fun _ => 0))) 3 120)),
  (9, ab_nx 12 (ab_putf 5 0 2)),
  (12, ab_nx 13 (ab_aload 0)),
  (13, ab_nx 15 (ab_lit (.int 40))),
  (15, ab_nx 17 (ab_newa 1 (fun n => (n, .inl (fun _ => 0))) 3 120)),
  (17, ab_nx 20 (ab_putf 5 1 2)),
  (20, ab_nx 21 (ab_aload 0)),
  (21, ab_nx 23 (ab_lit (.int 40))),
  (23, ab_nx 25 (ab_newa 1 (fun n => (n, .inl (fun _ => 0))) 3 120)),
  (25, ab_nx 28 (ab_putf 5 2 2)),
  (28, ab_vret 3 120)]
set_option maxRecDepth 100000 in
theorem dq21_26 : ([(0, .aload_n 0, 1), (1, .invokespecial 3, 3), (4, .aload_n 0, 1), (5, .bipush 40, 2), (7, .newarray .int, 2), (9, .putfield 11, 3), (12, .aload_n 0, 1), (13, .bipush 40, 2), (15, .newarray .int, 2), (17, .putfield 15, 3), (20, .aload_n 0, 1), (21, .bipush 40, 2), (23, .newarray .int, 2), (25, .putfield 18, 3), (28, .return_, 1)] : List (Nat × Instr × Nat)).all (fun q => decide (decode cX5_init q.1 = .ok q.2)) = true := by decide +kernel
set_option maxRecDepth 100000 in
set_option maxHeartbeats 4000000 in
theorem M_X5_init {l : Launch} {b : ab_B} {D : va_G} {cA : Nat → ClassId} : ab_M l b D ab_cl cA (ab_E0 b) yX5_init (Cond.code yX5_init cX5_init 1 none :: ab_G) ({ frames := 2, cells := 3, slots := 120, locals := 200 } : Room) (ab_X (ab_T L_X5_init) 1) := by
  refine ab_meth (ret := none) L_X5_init (by decide) rfl fun p e R s m args below meth c o C => ?_
  unfold L_X5_init
  refine List.forall_mem_cons.mpr ⟨ok_aload_n C (show decode cX5_init 0 = .ok (.aload_n 0, 1) from dk_at dq21_26 (i := 0) rfl) rfl rfl, ?_⟩
  refine List.forall_mem_cons.mpr ⟨ok_obj C kw_293 kw_30 kw_31 ⟨by decide, by decide⟩ (show decode cX5_init 1 = .ok (.invokespecial 3, 3) from dk_at dq21_26 (i := 1) rfl) rfl, ?_⟩
  refine List.forall_mem_cons.mpr ⟨ok_aload_n C (show decode cX5_init 4 = .ok (.aload_n 0, 1) from dk_at dq21_26 (i := 2) rfl) rfl rfl, ?_⟩
  refine List.forall_mem_cons.mpr ⟨ok_bipush C (show decode cX5_init 5 = .ok (.bipush 40, 2) from dk_at dq21_26 (i := 3) rfl) (by decide) rfl, ?_⟩
  refine List.forall_mem_cons.mpr ⟨ok_newa_int C kw_97 (show decode cX5_init 7 = .ok (.newarray .int, 2) from dk_at dq21_26 (i := 4) rfl) rfl, ?_⟩
  refine List.forall_mem_cons.mpr ⟨ok_putf C (wi_X5) tyX5 tyX5_ok nmX5 rfl (by decide) kw_294 (Or.inr ⟨rfl, cx_name C, rfl⟩) (Or.inr (Or.inr (Or.inl ⟨rfl, Or.inr ⟨_, rfl⟩⟩))) (show decode cX5_init 9 = .ok (.putfield 11, 3) from dk_at dq21_26 (i := 5) rfl) rfl, ?_⟩
  refine List.forall_mem_cons.mpr ⟨ok_aload_n C (show decode cX5_init 12 = .ok (.aload_n 0, 1) from dk_at dq21_26 (i := 6) rfl) rfl rfl, ?_⟩
  refine List.forall_mem_cons.mpr ⟨ok_bipush C (show decode cX5_init 13 = .ok (.bipush 40, 2) from dk_at dq21_26 (i := 7) rfl) (by decide) rfl, ?_⟩
  refine List.forall_mem_cons.mpr ⟨ok_newa_int C kw_97 (show decode cX5_init 15 = .ok (.newarray .int, 2) from dk_at dq21_26 (i := 8) rfl) rfl, ?_⟩
  refine List.forall_mem_cons.mpr ⟨ok_putf C (wi_X5) tyX5 tyX5_ok nmX5 rfl (by decide) kw_295 (Or.inr ⟨rfl, cx_name C, rfl⟩) (Or.inr (Or.inr (Or.inl ⟨rfl, Or.inr ⟨_, rfl⟩⟩))) (show decode cX5_init 17 = .ok (.putfield 15, 3) from dk_at dq21_26 (i := 9) rfl) rfl, ?_⟩
  refine List.forall_mem_cons.mpr ⟨ok_aload_n C (show decode cX5_init 20 = .ok (.aload_n 0, 1) from dk_at dq21_26 (i := 10) rfl) rfl rfl, ?_⟩
  refine List.forall_mem_cons.mpr ⟨ok_bipush C (show decode cX5_init 21 = .ok (.bipush 40, 2) from dk_at dq21_26 (i := 11) rfl) (by decide) rfl, ?_⟩
  refine List.forall_mem_cons.mpr ⟨ok_newa_int C kw_97 (show decode cX5_init 23 = .ok (.newarray .int, 2) from dk_at dq21_26 (i := 12) rfl) rfl, ?_⟩
  refine List.forall_mem_cons.mpr ⟨ok_putf C (wi_X5) tyX5 tyX5_ok nmX5 rfl (by decide) kw_296 (Or.inr ⟨rfl, cx_name C, rfl⟩) (Or.inr (Or.inr (Or.inl ⟨rfl, Or.inr ⟨_, rfl⟩⟩))) (show decode cX5_init 25 = .ok (.putfield 18, 3) from dk_at dq21_26 (i := 13) rfl) rfl, ?_⟩
  refine List.forall_mem_cons.mpr ⟨ok_vret C rfl (show decode cX5_init 28 = .ok (.return_, 1) from dk_at dq21_26 (i := 14) rfl), ?_⟩
  exact fun _ h => absurd h List.not_mem_nil
def L_X3_init (f_X7_init : List Value → ab_H → Option ab_O) (f_X6_init : List Value → ab_H → Option ab_O) (f_X5_init : List Value → ab_H → Option ab_O) : List (Nat × ab_A) := [
  (0, ab_nx 1 (ab_aload 0)),
  (1, ab_nx 4 ab_obj),
  (4, ab_nx 5 (ab_aload 0)),
  (5, ab_nx 8 (ab_new 7 13 [.null, .null, .null, .null, .null, .null, .null, .int 0, .int 0, .int 0, .int 0, .int 0, .long 0] 20 407)),
  (8, ab_nx 9 ab_dup),
  (9, ab_nx 12 (ab_call 1 f_X7_init 7 130 20 407)),
  (12, ab_nx 15 (ab_putf 3 0 2)),
  (15, ab_nx 16 (ab_aload 0)),
  (16, ab_nx 19 (ab_new 6 10 [.null, .null, .null, .null, .null, .null, .null, .int 0, .int 0, .int 0] 20 407)),
  (19, ab_nx 20 ab_dup),
  (20, ab_nx 23 (ab_call 1 f_X6_init 7 128 20 407)),
  (23, ab_nx 26 (ab_putf 3 1 2)),
  (26, ab_nx 27 (ab_aload 0)),
  (27, ab_nx 30 (ab_new 5 6 [.null, .null, .null, .int 0, .int 0, .int 0] 20 407)),
  (30, ab_nx 31 ab_dup),
  (31, ab_nx 34 (ab_call 1 f_X5_init 3 120 20 407)),
  (34, ab_nx 37 (ab_putf 3 2 2)),
  (37, ab_vret 20 407)]
set_option maxRecDepth 100000 in
theorem dq21_27 : ([(0, .aload_n 0, 1), (1, .invokespecial 1, 3), (4, .aload_n 0, 1), (5, .new 7, 3), (8, .dup, 1), (9, .invokespecial 9, 3), (12, .putfield 10, 3), (15, .aload_n 0, 1), (16, .new 16, 3), (19, .dup, 1), (20, .invokespecial 18, 3), (23, .putfield 19, 3), (26, .aload_n 0, 1), (27, .new 23, 3), (30, .dup, 1), (31, .invokespecial 25, 3)] : List (Nat × Instr × Nat)).all (fun q => decide (decode cX3_init q.1 = .ok q.2)) = true := by decide +kernel
set_option maxRecDepth 100000 in
theorem dq21_28 : ([(34, .putfield 26, 3), (37, .return_, 1)] : List (Nat × Instr × Nat)).all (fun q => decide (decode cX3_init q.1 = .ok q.2)) = true := by decide +kernel
set_option maxRecDepth 100000 in
set_option maxHeartbeats 4000000 in
theorem M_X3_init {l : Launch} {b : ab_B} {D : va_G} {cA : Nat → ClassId} {f_X7_init : List Value → ab_H → Option ab_O} (h_X7_init : ab_M l b D ab_cl cA (ab_E0 b) yX7_init (Cond.code yX7_init cX7_init 1 none :: ab_G) ({ frames := 2, cells := 7, slots := 130, locals := 200 } : Room) f_X7_init) (i_X7_init : ∀ v hp o2, f_X7_init [v] hp = some o2 → ∃ a, v = .ref a) {f_X6_init : List Value → ab_H → Option ab_O} (h_X6_init : ab_M l b D ab_cl cA (ab_E0 b) yX6_init (Cond.code yX6_init cX6_init 1 none :: ab_G) ({ frames := 2, cells := 7, slots := 128, locals := 200 } : Room) f_X6_init) (i_X6_init : ∀ v hp o2, f_X6_init [v] hp = some o2 → ∃ a, v = .ref a) {f_X5_init : List Value → ab_H → Option ab_O} (h_X5_init : ab_M l b D ab_cl cA (ab_E0 b) yX5_init (Cond.code yX5_init cX5_init 1 none :: ab_G) ({ frames := 2, cells := 3, slots := 120, locals := 200 } : Room) f_X5_init) (i_X5_init : ∀ v hp o2, f_X5_init [v] hp = some o2 → ∃ a, v = .ref a) : ab_M l b D ab_cl cA (ab_E0 b) yX3_init (Cond.code yX3_init cX3_init 1 none :: ab_G) ({ frames := 3, cells := 20, slots := 407, locals := 300 } : Room) (ab_X (ab_T (L_X3_init f_X7_init f_X6_init f_X5_init)) 1) := by
  refine ab_meth (ret := none) (L_X3_init f_X7_init f_X6_init f_X5_init) (by decide) rfl fun p e R s m args below meth c o C => ?_
  unfold L_X3_init
  refine List.forall_mem_cons.mpr ⟨ok_aload_n C (show decode cX3_init 0 = .ok (.aload_n 0, 1) from dk_at dq21_27 (i := 0) rfl) rfl rfl, ?_⟩
  refine List.forall_mem_cons.mpr ⟨ok_obj C kw_1025 kw_30 kw_31 ⟨by decide, by decide⟩ (show decode cX3_init 1 = .ok (.invokespecial 1, 3) from dk_at dq21_27 (i := 1) rfl) rfl, ?_⟩
  refine List.forall_mem_cons.mpr ⟨ok_aload_n C (show decode cX3_init 4 = .ok (.aload_n 0, 1) from dk_at dq21_27 (i := 2) rfl) rfl rfl, ?_⟩
  refine List.forall_mem_cons.mpr ⟨ok_new C (wi_X7) tyX7 tyX7_ok rfl kw_1026 kw_229 kw_9 (df_X7 _) (show decode cX3_init 5 = .ok (.new 7, 3) from dk_at dq21_27 (i := 3) rfl) rfl, ?_⟩
  refine List.forall_mem_cons.mpr ⟨ok_dup C (show decode cX3_init 8 = .ok (.dup, 1) from dk_at dq21_27 (i := 4) rfl) rfl, ?_⟩
  refine List.forall_mem_cons.mpr ⟨ok_callIN C h_X7_init ⟨rfl, rfl⟩ i_X7_init kw_232 (host := "LackFerry") (by decide +kernel) kw_231 kw_9 rfl ds_X7_init ⟨by decide, by decide⟩ (show decode cX3_init 9 = .ok (.invokespecial 9, 3) from dk_at dq21_27 (i := 5) rfl) rfl, ?_⟩
  refine List.forall_mem_cons.mpr ⟨ok_putf C (wi_X3) tyX3 tyX3_ok nmX3 rfl (by decide) kw_1032 (Or.inr ⟨rfl, cx_name C, rfl⟩) (Or.inr (Or.inr (Or.inl ⟨rfl, Or.inl ⟨_, rfl⟩⟩))) (show decode cX3_init 12 = .ok (.putfield 10, 3) from dk_at dq21_27 (i := 6) rfl) rfl, ?_⟩
  refine List.forall_mem_cons.mpr ⟨ok_aload_n C (show decode cX3_init 15 = .ok (.aload_n 0, 1) from dk_at dq21_27 (i := 7) rfl) rfl rfl, ?_⟩
  refine List.forall_mem_cons.mpr ⟨ok_new C (wi_X6) tyX6 tyX6_ok rfl kw_1028 kw_137 kw_6 (df_X6 _) (show decode cX3_init 16 = .ok (.new 16, 3) from dk_at dq21_27 (i := 8) rfl) rfl, ?_⟩
  refine List.forall_mem_cons.mpr ⟨ok_dup C (show decode cX3_init 19 = .ok (.dup, 1) from dk_at dq21_27 (i := 9) rfl) rfl, ?_⟩
  refine List.forall_mem_cons.mpr ⟨ok_callIN C h_X6_init ⟨rfl, rfl⟩ i_X6_init kw_140 (host := "LackFerry") (by decide +kernel) kw_139 kw_6 rfl ds_X6_init ⟨by decide, by decide⟩ (show decode cX3_init 20 = .ok (.invokespecial 18, 3) from dk_at dq21_27 (i := 10) rfl) rfl, ?_⟩
  refine List.forall_mem_cons.mpr ⟨ok_putf C (wi_X3) tyX3 tyX3_ok nmX3 rfl (by decide) kw_1034 (Or.inr ⟨rfl, cx_name C, rfl⟩) (Or.inr (Or.inr (Or.inl ⟨rfl, Or.inl ⟨_, rfl⟩⟩))) (show decode cX3_init 23 = .ok (.putfield 19, 3) from dk_at dq21_27 (i := 11) rfl) rfl, ?_⟩
  refine List.forall_mem_cons.mpr ⟨ok_aload_n C (show decode cX3_init 26 = .ok (.aload_n 0, 1) from dk_at dq21_27 (i := 12) rfl) rfl rfl, ?_⟩
  refine List.forall_mem_cons.mpr ⟨ok_new C (wi_X5) tyX5 tyX5_ok rfl kw_1030 kw_289 kw_10 (df_X5 _) (show decode cX3_init 27 = .ok (.new 23, 3) from dk_at dq21_27 (i := 13) rfl) rfl, ?_⟩
  refine List.forall_mem_cons.mpr ⟨ok_dup C (show decode cX3_init 30 = .ok (.dup, 1) from dk_at dq21_27 (i := 14) rfl) rfl, ?_⟩
  refine List.forall_mem_cons.mpr ⟨ok_callIN C h_X5_init ⟨rfl, rfl⟩ i_X5_init kw_292 (host := "LackFerry") (by decide +kernel) kw_291 kw_10 rfl ds_X5_init ⟨by decide, by decide⟩ (show decode cX3_init 31 = .ok (.invokespecial 25, 3) from dk_at dq21_27 (i := 15) rfl) rfl, ?_⟩
  refine List.forall_mem_cons.mpr ⟨ok_putf C (wi_X3) tyX3 tyX3_ok nmX3 rfl (by decide) kw_1036 (Or.inr ⟨rfl, cx_name C, rfl⟩) (Or.inr (Or.inr (Or.inl ⟨rfl, Or.inl ⟨_, rfl⟩⟩))) (show decode cX3_init 34 = .ok (.putfield 26, 3) from dk_at dq21_28 (i := 0) rfl) rfl, ?_⟩
  refine List.forall_mem_cons.mpr ⟨ok_vret C rfl (show decode cX3_init 37 = .ok (.return_, 1) from dk_at dq21_28 (i := 1) rfl), ?_⟩
  exact fun _ h => absurd h List.not_mem_nil
def L_X4_init : List (Nat × ab_A) := [
  (0, ab_nx 1 (ab_aload 0)),
  (1, ab_nx 4 ab_obj),
  (4, ab_nx 5 (ab_aload 0)),
  (5, ab_nx 7 (ab_lit (.int 40))),
  (7, ab_nx 9 (ab_newa 1 (fun n => (n, .inl (fun _ => 0))) 3 120)),
  (9, ab_nx 12 (ab_putf 4 0 2)),
  (12, ab_nx 13 (ab_aload 0)),
  (13, ab_nx 15 (ab_lit (.int 40))),
  (15, ab_nx 17 (ab_newa 1 (fun n => (n, .inl (fun _ => 0))) 3 120)),
  (17, ab_nx 20 (ab_putf 4 1 2)),
  (20, ab_nx 21 (ab_aload 0)),
  (21, ab_nx 23 (ab_lit (.int 40))),
  (23, ab_nx 25 (ab_newa 1 (fun n => (n, .inl (fun _ => 0))) 3 120)),
  (25, ab_nx 28 (ab_putf 4 2 2)),
  (28, ab_vret 3 120)]
set_option maxRecDepth 100000 in
theorem dq21_29 : ([(0, .aload_n 0, 1), (1, .invokespecial 3, 3), (4, .aload_n 0, 1), (5, .bipush 40, 2), (7, .newarray .int, 2), (9, .putfield 9, 3), (12, .aload_n 0, 1), (13, .bipush 40, 2), (15, .newarray .int, 2), (17, .putfield 15, 3), (20, .aload_n 0, 1), (21, .bipush 40, 2), (23, .newarray .int, 2), (25, .putfield 18, 3), (28, .return_, 1)] : List (Nat × Instr × Nat)).all (fun q => decide (decode cX4_init q.1 = .ok q.2)) = true := by decide +kernel
set_option maxRecDepth 100000 in
set_option maxHeartbeats 4000000 in
theorem M_X4_init {l : Launch} {b : ab_B} {D : va_G} {cA : Nat → ClassId} : ab_M l b D ab_cl cA (ab_E0 b) yX4_init (Cond.code yX4_init cX4_init 1 none :: ab_G) ({ frames := 2, cells := 3, slots := 120, locals := 200 } : Room) (ab_X (ab_T L_X4_init) 1) := by
  refine ab_meth (ret := none) L_X4_init (by decide) rfl fun p e R s m args below meth c o C => ?_
  unfold L_X4_init
  refine List.forall_mem_cons.mpr ⟨ok_aload_n C (show decode cX4_init 0 = .ok (.aload_n 0, 1) from dk_at dq21_29 (i := 0) rfl) rfl rfl, ?_⟩
  refine List.forall_mem_cons.mpr ⟨ok_obj C kw_197 kw_30 kw_31 ⟨by decide, by decide⟩ (show decode cX4_init 1 = .ok (.invokespecial 3, 3) from dk_at dq21_29 (i := 1) rfl) rfl, ?_⟩
  refine List.forall_mem_cons.mpr ⟨ok_aload_n C (show decode cX4_init 4 = .ok (.aload_n 0, 1) from dk_at dq21_29 (i := 2) rfl) rfl rfl, ?_⟩
  refine List.forall_mem_cons.mpr ⟨ok_bipush C (show decode cX4_init 5 = .ok (.bipush 40, 2) from dk_at dq21_29 (i := 3) rfl) (by decide) rfl, ?_⟩
  refine List.forall_mem_cons.mpr ⟨ok_newa_int C kw_97 (show decode cX4_init 7 = .ok (.newarray .int, 2) from dk_at dq21_29 (i := 4) rfl) rfl, ?_⟩
  refine List.forall_mem_cons.mpr ⟨ok_putf C (wi_X4) tyX4 tyX4_ok nmX4 rfl (by decide) kw_198 (Or.inr ⟨rfl, cx_name C, rfl⟩) (Or.inr (Or.inr (Or.inl ⟨rfl, Or.inr ⟨_, rfl⟩⟩))) (show decode cX4_init 9 = .ok (.putfield 9, 3) from dk_at dq21_29 (i := 5) rfl) rfl, ?_⟩
  refine List.forall_mem_cons.mpr ⟨ok_aload_n C (show decode cX4_init 12 = .ok (.aload_n 0, 1) from dk_at dq21_29 (i := 6) rfl) rfl rfl, ?_⟩
  refine List.forall_mem_cons.mpr ⟨ok_bipush C (show decode cX4_init 13 = .ok (.bipush 40, 2) from dk_at dq21_29 (i := 7) rfl) (by decide) rfl, ?_⟩
  refine List.forall_mem_cons.mpr ⟨ok_newa_int C kw_97 (show decode cX4_init 15 = .ok (.newarray .int, 2) from dk_at dq21_29 (i := 8) rfl) rfl, ?_⟩
  refine List.forall_mem_cons.mpr ⟨ok_putf C (wi_X4) tyX4 tyX4_ok nmX4 rfl (by decide) kw_200 (Or.inr ⟨rfl, cx_name C, rfl⟩) (Or.inr (Or.inr (Or.inl ⟨rfl, Or.inr ⟨_, rfl⟩⟩))) (show decode cX4_init 17 = .ok (.putfield 15, 3) from dk_at dq21_29 (i := 9) rfl) rfl, ?_⟩
  refine List.forall_mem_cons.mpr ⟨ok_aload_n C (show decode cX4_init 20 = .ok (.aload_n 0, 1) from dk_at dq21_29 (i := 10) rfl) rfl rfl, ?_⟩
  refine List.forall_mem_cons.mpr ⟨ok_bipush C (show decode cX4_init 21 = .ok (.bipush 40, 2) from dk_at dq21_29 (i := 11) rfl) (by decide) rfl, ?_⟩
  refine List.forall_mem_cons.mpr ⟨ok_newa_int C kw_97 (show decode cX4_init 23 = .ok (.newarray .int, 2) from dk_at dq21_29 (i := 12) rfl) rfl, ?_⟩
  refine List.forall_mem_cons.mpr ⟨ok_putf C (wi_X4) tyX4 tyX4_ok nmX4 rfl (by decide) kw_202 (Or.inr ⟨rfl, cx_name C, rfl⟩) (Or.inr (Or.inr (Or.inl ⟨rfl, Or.inr ⟨_, rfl⟩⟩))) (show decode cX4_init 25 = .ok (.putfield 18, 3) from dk_at dq21_29 (i := 13) rfl) rfl, ?_⟩
  refine List.forall_mem_cons.mpr ⟨ok_vret C rfl (show decode cX4_init 28 = .ok (.return_, 1) from dk_at dq21_29 (i := 14) rfl), ?_⟩
  exact fun _ h => absurd h List.not_mem_nil
def L_X9_step : List (Nat × ab_A) := [
  (0, ab_nx 1 (ab_aload 0)),
  (1, ab_nx 4 (ab_getf 9 4)),
  (4, ab_nx 5 (ab_aload 0)),
  (5, ab_nx 8 (ab_getf 9 3)),
  (8, ab_icmp 11 84 (fun x y => decide (y ≤ x))),
  (11, ab_nx 12 (ab_aload 0)),
  (12, ab_nx 15 (ab_getf 9 4)),
  (15, ab_nx 18 (ab_lit (.int 901))),
  (18, ab_icmp 21 84 (fun x y => decide (y ≤ x))),
  (21, ab_nx 22 (ab_aload 0)),
  (22, ab_nx 23 (ab_aload 0)),
  (23, ab_nx 26 (ab_getf 9 0)),
  (26, ab_nx 27 (ab_aload 0)),
  (27, ab_nx 30 (ab_getf 9 4)),
  (30, ab_nx 31 (ab_ald 1)),
  (31, ab_nx 34 (ab_putf 9 5 0)),
  (34, ab_nx 35 (ab_aload 0)),
  (35, ab_nx 36 (ab_aload 0)),
  (36, ab_nx 39 (ab_getf 9 1)),
  (39, ab_nx 40 (ab_aload 0)),
  (40, ab_nx 43 (ab_getf 9 4)),
  (43, ab_nx 44 (ab_ald 1)),
  (44, ab_nx 47 (ab_putf 9 6 0)),
  (47, ab_nx 48 (ab_aload 0)),
  (48, ab_nx 49 (ab_aload 0)),
  (49, ab_nx 52 (ab_getf 9 2)),
  (52, ab_nx 53 (ab_aload 0)),
  (53, ab_nx 56 (ab_getf 9 4)),
  (56, ab_nx 57 ab_lald),
  (57, ab_nx 60 (ab_putf 9 8 1)),
  (60, ab_nx 61 (ab_aload 0)),
  (61, ab_nx 62 (ab_aload 0)),
  (62, ab_nx 65 (ab_getf 9 2)),
  (65, ab_nx 66 (ab_aload 0)),
  (66, ab_nx 69 (ab_getf 9 4)),
  (69, ab_nx 70 ab_lald),
  (70, ab_nx 71 ab_l2i),
  (71, ab_nx 74 (ab_putf 9 7 0)),
  (74, ab_nx 75 (ab_aload 0)),
  (75, ab_nx 76 ab_dup),
  (76, ab_nx 79 (ab_getf 9 4)),
  (79, ab_nx 80 (ab_lit (.int 1))),
  (80, ab_nx 81 (ab_bin (fun x y => x + y))),
  (81, ab_nx 84 (ab_putf 9 4 0)),
  (84, ab_vret 0 0)]
set_option maxRecDepth 100000 in
theorem dq21_30 : ([(0, .aload_n 0, 1), (1, .getfield 26, 3), (4, .aload_n 0, 1), (5, .getfield 22, 3), (8, .if_icmp .ge 76, 3), (11, .aload_n 0, 1), (12, .getfield 26, 3), (15, .sipush 901, 3), (18, .if_icmp .ge 66, 3), (21, .aload_n 0, 1), (22, .aload_n 0, 1), (23, .getfield 9, 3), (26, .aload_n 0, 1), (27, .getfield 26, 3), (30, .iaload, 1), (31, .putfield 32, 3)] : List (Nat × Instr × Nat)).all (fun q => decide (decode cX9_step q.1 = .ok q.2)) = true := by decide +kernel
set_option maxRecDepth 100000 in
theorem dq21_31 : ([(34, .aload_n 0, 1), (35, .aload_n 0, 1), (36, .getfield 15, 3), (39, .aload_n 0, 1), (40, .getfield 26, 3), (43, .iaload, 1), (44, .putfield 35, 3), (47, .aload_n 0, 1), (48, .aload_n 0, 1), (49, .getfield 18, 3), (52, .aload_n 0, 1), (53, .getfield 26, 3), (56, .laload, 1), (57, .putfield 38, 3), (60, .aload_n 0, 1), (61, .aload_n 0, 1)] : List (Nat × Instr × Nat)).all (fun q => decide (decode cX9_step q.1 = .ok q.2)) = true := by decide +kernel
set_option maxRecDepth 100000 in
theorem dq21_32 : ([(62, .getfield 18, 3), (65, .aload_n 0, 1), (66, .getfield 26, 3), (69, .laload, 1), (70, .l2i, 1), (71, .putfield 42, 3), (74, .aload_n 0, 1), (75, .dup, 1), (76, .getfield 26, 3), (79, .iconst 1, 1), (80, .iadd, 1), (81, .putfield 26, 3), (84, .return_, 1)] : List (Nat × Instr × Nat)).all (fun q => decide (decode cX9_step q.1 = .ok q.2)) = true := by decide +kernel
set_option maxRecDepth 100000 in
set_option maxHeartbeats 4000000 in
theorem M_X9_step {l : Launch} {b : ab_B} {D : va_G} {cA : Nat → ClassId} : ab_M l b D ab_cl cA (ab_E0 b) yX9_step (Cond.code yX9_step cX9_step 1 none :: ab_G) ({ frames := 1, cells := 0, slots := 0, locals := 100 } : Room) (ab_X (ab_T L_X9_step) 1) := by
  refine ab_meth (ret := none) L_X9_step (by decide) rfl fun p e R s m args below meth c o C => ?_
  unfold L_X9_step
  refine List.forall_mem_cons.mpr ⟨ok_aload_n C (show decode cX9_step 0 = .ok (.aload_n 0, 1) from dk_at dq21_30 (i := 0) rfl) rfl rfl, ?_⟩
  refine List.forall_mem_cons.mpr ⟨ok_getf C (wi_X9) rfl (by decide) kw_60 (show decode cX9_step 1 = .ok (.getfield 26, 3) from dk_at dq21_30 (i := 1) rfl) rfl, ?_⟩
  refine List.forall_mem_cons.mpr ⟨ok_aload_n C (show decode cX9_step 4 = .ok (.aload_n 0, 1) from dk_at dq21_30 (i := 2) rfl) rfl rfl, ?_⟩
  refine List.forall_mem_cons.mpr ⟨ok_getf C (wi_X9) rfl (by decide) kw_59 (show decode cX9_step 5 = .ok (.getfield 22, 3) from dk_at dq21_30 (i := 3) rfl) rfl, ?_⟩
  refine List.forall_mem_cons.mpr ⟨ok_icmpge C (show decode cX9_step 8 = .ok (.if_icmp .ge 76, 3) from dk_at dq21_30 (i := 4) rfl) (tg := 84) (by decide) rfl rfl, ?_⟩
  refine List.forall_mem_cons.mpr ⟨ok_aload_n C (show decode cX9_step 11 = .ok (.aload_n 0, 1) from dk_at dq21_30 (i := 5) rfl) rfl rfl, ?_⟩
  refine List.forall_mem_cons.mpr ⟨ok_getf C (wi_X9) rfl (by decide) kw_60 (show decode cX9_step 12 = .ok (.getfield 26, 3) from dk_at dq21_30 (i := 6) rfl) rfl, ?_⟩
  refine List.forall_mem_cons.mpr ⟨ok_sipush C (show decode cX9_step 15 = .ok (.sipush 901, 3) from dk_at dq21_30 (i := 7) rfl) (by decide) rfl, ?_⟩
  refine List.forall_mem_cons.mpr ⟨ok_icmpge C (show decode cX9_step 18 = .ok (.if_icmp .ge 66, 3) from dk_at dq21_30 (i := 8) rfl) (tg := 84) (by decide) rfl rfl, ?_⟩
  refine List.forall_mem_cons.mpr ⟨ok_aload_n C (show decode cX9_step 21 = .ok (.aload_n 0, 1) from dk_at dq21_30 (i := 9) rfl) rfl rfl, ?_⟩
  refine List.forall_mem_cons.mpr ⟨ok_aload_n C (show decode cX9_step 22 = .ok (.aload_n 0, 1) from dk_at dq21_30 (i := 10) rfl) rfl rfl, ?_⟩
  refine List.forall_mem_cons.mpr ⟨ok_getf C (wi_X9) rfl (by decide) kw_56 (show decode cX9_step 23 = .ok (.getfield 9, 3) from dk_at dq21_30 (i := 11) rfl) rfl, ?_⟩
  refine List.forall_mem_cons.mpr ⟨ok_aload_n C (show decode cX9_step 26 = .ok (.aload_n 0, 1) from dk_at dq21_30 (i := 12) rfl) rfl rfl, ?_⟩
  refine List.forall_mem_cons.mpr ⟨ok_getf C (wi_X9) rfl (by decide) kw_60 (show decode cX9_step 27 = .ok (.getfield 26, 3) from dk_at dq21_30 (i := 13) rfl) rfl, ?_⟩
  refine List.forall_mem_cons.mpr ⟨ok_iaload C (show decode cX9_step 30 = .ok (.iaload, 1) from dk_at dq21_30 (i := 14) rfl) rfl, ?_⟩
  refine List.forall_mem_cons.mpr ⟨ok_putf C (wi_X9) tyX9 tyX9_ok nmX9 rfl (by decide) kw_63 (Or.inl rfl) (Or.inl ⟨rfl, rfl⟩) (show decode cX9_step 31 = .ok (.putfield 32, 3) from dk_at dq21_30 (i := 15) rfl) rfl, ?_⟩
  refine List.forall_mem_cons.mpr ⟨ok_aload_n C (show decode cX9_step 34 = .ok (.aload_n 0, 1) from dk_at dq21_31 (i := 0) rfl) rfl rfl, ?_⟩
  refine List.forall_mem_cons.mpr ⟨ok_aload_n C (show decode cX9_step 35 = .ok (.aload_n 0, 1) from dk_at dq21_31 (i := 1) rfl) rfl rfl, ?_⟩
  refine List.forall_mem_cons.mpr ⟨ok_getf C (wi_X9) rfl (by decide) kw_57 (show decode cX9_step 36 = .ok (.getfield 15, 3) from dk_at dq21_31 (i := 2) rfl) rfl, ?_⟩
  refine List.forall_mem_cons.mpr ⟨ok_aload_n C (show decode cX9_step 39 = .ok (.aload_n 0, 1) from dk_at dq21_31 (i := 3) rfl) rfl rfl, ?_⟩
  refine List.forall_mem_cons.mpr ⟨ok_getf C (wi_X9) rfl (by decide) kw_60 (show decode cX9_step 40 = .ok (.getfield 26, 3) from dk_at dq21_31 (i := 4) rfl) rfl, ?_⟩
  refine List.forall_mem_cons.mpr ⟨ok_iaload C (show decode cX9_step 43 = .ok (.iaload, 1) from dk_at dq21_31 (i := 5) rfl) rfl, ?_⟩
  refine List.forall_mem_cons.mpr ⟨ok_putf C (wi_X9) tyX9 tyX9_ok nmX9 rfl (by decide) kw_66 (Or.inl rfl) (Or.inl ⟨rfl, rfl⟩) (show decode cX9_step 44 = .ok (.putfield 35, 3) from dk_at dq21_31 (i := 6) rfl) rfl, ?_⟩
  refine List.forall_mem_cons.mpr ⟨ok_aload_n C (show decode cX9_step 47 = .ok (.aload_n 0, 1) from dk_at dq21_31 (i := 7) rfl) rfl rfl, ?_⟩
  refine List.forall_mem_cons.mpr ⟨ok_aload_n C (show decode cX9_step 48 = .ok (.aload_n 0, 1) from dk_at dq21_31 (i := 8) rfl) rfl rfl, ?_⟩
  refine List.forall_mem_cons.mpr ⟨ok_getf C (wi_X9) rfl (by decide) kw_58 (show decode cX9_step 49 = .ok (.getfield 18, 3) from dk_at dq21_31 (i := 9) rfl) rfl, ?_⟩
  refine List.forall_mem_cons.mpr ⟨ok_aload_n C (show decode cX9_step 52 = .ok (.aload_n 0, 1) from dk_at dq21_31 (i := 10) rfl) rfl rfl, ?_⟩
  refine List.forall_mem_cons.mpr ⟨ok_getf C (wi_X9) rfl (by decide) kw_60 (show decode cX9_step 53 = .ok (.getfield 26, 3) from dk_at dq21_31 (i := 11) rfl) rfl, ?_⟩
  refine List.forall_mem_cons.mpr ⟨ok_laload C (show decode cX9_step 56 = .ok (.laload, 1) from dk_at dq21_31 (i := 12) rfl) rfl, ?_⟩
  refine List.forall_mem_cons.mpr ⟨ok_putf C (wi_X9) tyX9 tyX9_ok nmX9 rfl (by decide) kw_72 (Or.inl rfl) (Or.inr (Or.inl ⟨rfl, rfl⟩)) (show decode cX9_step 57 = .ok (.putfield 38, 3) from dk_at dq21_31 (i := 13) rfl) rfl, ?_⟩
  refine List.forall_mem_cons.mpr ⟨ok_aload_n C (show decode cX9_step 60 = .ok (.aload_n 0, 1) from dk_at dq21_31 (i := 14) rfl) rfl rfl, ?_⟩
  refine List.forall_mem_cons.mpr ⟨ok_aload_n C (show decode cX9_step 61 = .ok (.aload_n 0, 1) from dk_at dq21_31 (i := 15) rfl) rfl rfl, ?_⟩
  refine List.forall_mem_cons.mpr ⟨ok_getf C (wi_X9) rfl (by decide) kw_58 (show decode cX9_step 62 = .ok (.getfield 18, 3) from dk_at dq21_32 (i := 0) rfl) rfl, ?_⟩
  refine List.forall_mem_cons.mpr ⟨ok_aload_n C (show decode cX9_step 65 = .ok (.aload_n 0, 1) from dk_at dq21_32 (i := 1) rfl) rfl rfl, ?_⟩
  refine List.forall_mem_cons.mpr ⟨ok_getf C (wi_X9) rfl (by decide) kw_60 (show decode cX9_step 66 = .ok (.getfield 26, 3) from dk_at dq21_32 (i := 2) rfl) rfl, ?_⟩
  refine List.forall_mem_cons.mpr ⟨ok_laload C (show decode cX9_step 69 = .ok (.laload, 1) from dk_at dq21_32 (i := 3) rfl) rfl, ?_⟩
  refine List.forall_mem_cons.mpr ⟨ok_l2i C (show decode cX9_step 70 = .ok (.l2i, 1) from dk_at dq21_32 (i := 4) rfl) rfl, ?_⟩
  refine List.forall_mem_cons.mpr ⟨ok_putf C (wi_X9) tyX9 tyX9_ok nmX9 rfl (by decide) kw_68 (Or.inl rfl) (Or.inl ⟨rfl, rfl⟩) (show decode cX9_step 71 = .ok (.putfield 42, 3) from dk_at dq21_32 (i := 5) rfl) rfl, ?_⟩
  refine List.forall_mem_cons.mpr ⟨ok_aload_n C (show decode cX9_step 74 = .ok (.aload_n 0, 1) from dk_at dq21_32 (i := 6) rfl) rfl rfl, ?_⟩
  refine List.forall_mem_cons.mpr ⟨ok_dup C (show decode cX9_step 75 = .ok (.dup, 1) from dk_at dq21_32 (i := 7) rfl) rfl, ?_⟩
  refine List.forall_mem_cons.mpr ⟨ok_getf C (wi_X9) rfl (by decide) kw_60 (show decode cX9_step 76 = .ok (.getfield 26, 3) from dk_at dq21_32 (i := 8) rfl) rfl, ?_⟩
  refine List.forall_mem_cons.mpr ⟨ok_iconst C (show decode cX9_step 79 = .ok (.iconst 1, 1) from dk_at dq21_32 (i := 9) rfl) (by decide) rfl, ?_⟩
  refine List.forall_mem_cons.mpr ⟨ok_iadd C (show decode cX9_step 80 = .ok (.iadd, 1) from dk_at dq21_32 (i := 10) rfl) rfl, ?_⟩
  refine List.forall_mem_cons.mpr ⟨ok_putf C (wi_X9) tyX9 tyX9_ok nmX9 rfl (by decide) kw_60 (Or.inl rfl) (Or.inl ⟨rfl, rfl⟩) (show decode cX9_step 81 = .ok (.putfield 26, 3) from dk_at dq21_32 (i := 11) rfl) rfl, ?_⟩
  refine List.forall_mem_cons.mpr ⟨ok_vret C rfl (show decode cX9_step 84 = .ok (.return_, 1) from dk_at dq21_32 (i := 12) rfl), ?_⟩
  exact fun _ h => absurd h List.not_mem_nil
def L_X9_fail : List (Nat × ab_A) := [
  (0, ab_nx 1 (ab_aload 0)),
  (1, ab_nx 2 (ab_iload 1)),
  (2, ab_nx 5 (ab_putf 9 9 0)),
  (5, ab_nx 6 (ab_lit (.int 0))),
  (6, ab_zret 0 0)]
set_option maxRecDepth 100000 in
theorem dq21_33 : ([(0, .aload_n 0, 1), (1, .iload_n 1, 1), (2, .putfield 29, 3), (5, .iconst 0, 1), (6, .ireturn, 1)] : List (Nat × Instr × Nat)).all (fun q => decide (decode cX9_fail q.1 = .ok q.2)) = true := by decide +kernel
set_option maxRecDepth 100000 in
set_option maxHeartbeats 4000000 in
theorem M_X9_fail {l : Launch} {b : ab_B} {D : va_G} {cA : Nat → ClassId} : ab_M l b D ab_cl cA (ab_E0 b) yX9_fail (Cond.code yX9_fail cX9_fail 2 (some .boolean) :: ab_G) ({ frames := 1, cells := 0, slots := 0, locals := 100 } : Room) (ab_X (ab_T L_X9_fail) 2) := by
  refine ab_meth (ret := (some .boolean)) L_X9_fail (by decide) rfl fun p e R s m args below meth c o C => ?_
  unfold L_X9_fail
  refine List.forall_mem_cons.mpr ⟨ok_aload_n C (show decode cX9_fail 0 = .ok (.aload_n 0, 1) from dk_at dq21_33 (i := 0) rfl) rfl rfl, ?_⟩
  refine List.forall_mem_cons.mpr ⟨ok_iload_n C (show decode cX9_fail 1 = .ok (.iload_n 1, 1) from dk_at dq21_33 (i := 1) rfl) rfl rfl, ?_⟩
  refine List.forall_mem_cons.mpr ⟨ok_putf C (wi_X9) tyX9 tyX9_ok nmX9 rfl (by decide) kw_74 (Or.inl rfl) (Or.inl ⟨rfl, rfl⟩) (show decode cX9_fail 2 = .ok (.putfield 29, 3) from dk_at dq21_33 (i := 2) rfl) rfl, ?_⟩
  refine List.forall_mem_cons.mpr ⟨ok_iconst C (show decode cX9_fail 5 = .ok (.iconst 0, 1) from dk_at dq21_33 (i := 3) rfl) (by decide) rfl, ?_⟩
  refine List.forall_mem_cons.mpr ⟨ok_zret C rfl (show decode cX9_fail 6 = .ok (.ireturn, 1) from dk_at dq21_33 (i := 4) rfl), ?_⟩
  exact fun _ h => absurd h List.not_mem_nil
def L_X7_manNamed : List (Nat × ab_A) := [
  (0, ab_nx 1 (ab_lit (.int 0))),
  (1, ab_nx 2 (ab_istore 3)),
  (2, ab_nx 3 (ab_iload 3)),
  (3, ab_nx 4 (ab_aload 0)),
  (4, ab_nx 7 (ab_getf 7 9)),
  (7, ab_icmp 10 29 (fun x y => decide (y ≤ x))),
  (10, ab_nx 11 (ab_aload 0)),
  (11, ab_nx 14 (ab_getf 7 1)),
  (14, ab_nx 15 (ab_iload 3)),
  (15, ab_nx 16 ab_lald),
  (16, ab_nx 17 (ab_lload 1)),
  (17, ab_nx 18 ab_lcmp),
  (18, ab_if 21 23 (fun x => !decide (x = 0))),
  (21, ab_nx 22 (ab_iload 3)),
  (22, ab_ret 0 0),
  (23, ab_nx 26 (ab_iinc 3 1)),
  (26, ab_goto 2),
  (29, ab_nx 30 (ab_lit (.int (-1)))),
  (30, ab_ret 0 0)]
set_option maxRecDepth 100000 in
theorem dq21_34 : ([(0, .iconst 0, 1), (1, .istore_n 3, 1), (2, .iload_n 3, 1), (3, .aload_n 0, 1), (4, .getfield 59, 3), (7, .if_icmp .ge 22, 3), (10, .aload_n 0, 1), (11, .getfield 15, 3), (14, .iload_n 3, 1), (15, .laload, 1), (16, .lload_n 1, 1), (17, .lcmp, 1), (18, .ifCond .ne 5, 3), (21, .iload_n 3, 1), (22, .ireturn, 1), (23, .iinc 3 1, 3)] : List (Nat × Instr × Nat)).all (fun q => decide (decode cX7_manNamed q.1 = .ok q.2)) = true := by decide +kernel
set_option maxRecDepth 100000 in
theorem dq21_35 : ([(26, .goto (-24), 3), (29, .iconst (-1), 1), (30, .ireturn, 1)] : List (Nat × Instr × Nat)).all (fun q => decide (decode cX7_manNamed q.1 = .ok q.2)) = true := by decide +kernel
set_option maxRecDepth 100000 in
set_option maxHeartbeats 4000000 in
theorem M_X7_manNamed {l : Launch} {b : ab_B} {D : va_G} {cA : Nat → ClassId} : ab_M l b D ab_cl cA (ab_E0 b) yX7_manNamed (Cond.code yX7_manNamed cX7_manNamed 4 (some .int) :: ab_G) ({ frames := 1, cells := 0, slots := 0, locals := 100 } : Room) (ab_X (ab_T L_X7_manNamed) 4) := by
  refine ab_meth (ret := (some .int)) L_X7_manNamed (by decide) rfl fun p e R s m args below meth c o C => ?_
  unfold L_X7_manNamed
  refine List.forall_mem_cons.mpr ⟨ok_iconst C (show decode cX7_manNamed 0 = .ok (.iconst 0, 1) from dk_at dq21_34 (i := 0) rfl) (by decide) rfl, ?_⟩
  refine List.forall_mem_cons.mpr ⟨ok_istore_n C (show decode cX7_manNamed 1 = .ok (.istore_n 3, 1) from dk_at dq21_34 (i := 1) rfl) rfl (by decide) rfl, ?_⟩
  refine List.forall_mem_cons.mpr ⟨ok_iload_n C (show decode cX7_manNamed 2 = .ok (.iload_n 3, 1) from dk_at dq21_34 (i := 2) rfl) rfl rfl, ?_⟩
  refine List.forall_mem_cons.mpr ⟨ok_aload_n C (show decode cX7_manNamed 3 = .ok (.aload_n 0, 1) from dk_at dq21_34 (i := 3) rfl) rfl rfl, ?_⟩
  refine List.forall_mem_cons.mpr ⟨ok_getf C (wi_X7) rfl (by decide) kw_253 (show decode cX7_manNamed 4 = .ok (.getfield 59, 3) from dk_at dq21_34 (i := 4) rfl) rfl, ?_⟩
  refine List.forall_mem_cons.mpr ⟨ok_icmpge C (show decode cX7_manNamed 7 = .ok (.if_icmp .ge 22, 3) from dk_at dq21_34 (i := 5) rfl) (tg := 29) (by decide) rfl rfl, ?_⟩
  refine List.forall_mem_cons.mpr ⟨ok_aload_n C (show decode cX7_manNamed 10 = .ok (.aload_n 0, 1) from dk_at dq21_34 (i := 6) rfl) rfl rfl, ?_⟩
  refine List.forall_mem_cons.mpr ⟨ok_getf C (wi_X7) rfl (by decide) kw_235 (show decode cX7_manNamed 11 = .ok (.getfield 15, 3) from dk_at dq21_34 (i := 7) rfl) rfl, ?_⟩
  refine List.forall_mem_cons.mpr ⟨ok_iload_n C (show decode cX7_manNamed 14 = .ok (.iload_n 3, 1) from dk_at dq21_34 (i := 8) rfl) rfl rfl, ?_⟩
  refine List.forall_mem_cons.mpr ⟨ok_laload C (show decode cX7_manNamed 15 = .ok (.laload, 1) from dk_at dq21_34 (i := 9) rfl) rfl, ?_⟩
  refine List.forall_mem_cons.mpr ⟨ok_lload_n C (show decode cX7_manNamed 16 = .ok (.lload_n 1, 1) from dk_at dq21_34 (i := 10) rfl) rfl rfl, ?_⟩
  refine List.forall_mem_cons.mpr ⟨ok_lcmp C (show decode cX7_manNamed 17 = .ok (.lcmp, 1) from dk_at dq21_34 (i := 11) rfl) rfl, ?_⟩
  refine List.forall_mem_cons.mpr ⟨ok_ifne C (show decode cX7_manNamed 18 = .ok (.ifCond .ne 5, 3) from dk_at dq21_34 (i := 12) rfl) (tg := 23) (by decide) rfl rfl, ?_⟩
  refine List.forall_mem_cons.mpr ⟨ok_iload_n C (show decode cX7_manNamed 21 = .ok (.iload_n 3, 1) from dk_at dq21_34 (i := 13) rfl) rfl rfl, ?_⟩
  refine List.forall_mem_cons.mpr ⟨ok_ret C rfl (show decode cX7_manNamed 22 = .ok (.ireturn, 1) from dk_at dq21_34 (i := 14) rfl), ?_⟩
  refine List.forall_mem_cons.mpr ⟨ok_iinc C (show decode cX7_manNamed 23 = .ok (.iinc 3 1, 3) from dk_at dq21_34 (i := 15) rfl) (by decide) (by decide) rfl, ?_⟩
  refine List.forall_mem_cons.mpr ⟨ok_goto C (show decode cX7_manNamed 26 = .ok (.goto (-24), 3) from dk_at dq21_35 (i := 0) rfl) (tg := 2) (by decide) rfl, ?_⟩
  refine List.forall_mem_cons.mpr ⟨ok_iconst C (show decode cX7_manNamed 29 = .ok (.iconst (-1), 1) from dk_at dq21_35 (i := 1) rfl) (by decide) rfl, ?_⟩
  refine List.forall_mem_cons.mpr ⟨ok_ret C rfl (show decode cX7_manNamed 30 = .ok (.ireturn, 1) from dk_at dq21_35 (i := 2) rfl), ?_⟩
  exact fun _ h => absurd h List.not_mem_nil
end
-- 22.m02.lean.txt
section
def L_X9_takeName (f_X9_step : List Value → ab_H → Option ab_O) (f_X9_fail : List Value → ab_H → Option ab_O) : List (Nat × ab_A) := [
  (0, ab_nx 1 (ab_aload 0)),
  (1, ab_nx 4 (ab_callV 1 9 f_X9_step 0 0 0 0)),
  (4, ab_nx 5 (ab_aload 0)),
  (5, ab_nx 8 (ab_getf 9 5)),
  (8, ab_nx 9 (ab_lit (.int 2))),
  (9, ab_icmp 12 20 (fun x y => decide (x = y))),
  (12, ab_nx 13 (ab_aload 0)),
  (13, ab_nx 14 (ab_lit (.int 1))),
  (14, ab_nx 17 (ab_callV 2 9 f_X9_fail 0 0 0 0)),
  (17, ab_if 20 24 (fun x => decide (x = 0))),
  (20, ab_nx 21 (ab_lit (.int 1))),
  (21, ab_goto 25),
  (24, ab_nx 25 (ab_lit (.int 0))),
  (25, ab_zret 0 0)]
set_option maxRecDepth 100000 in
theorem dq22_0 : ([(0, .aload_n 0, 1), (1, .invokevirtual 45, 3), (4, .aload_n 0, 1), (5, .getfield 32, 3), (8, .iconst 2, 1), (9, .if_icmp .eq 11, 3), (12, .aload_n 0, 1), (13, .iconst 1, 1), (14, .invokevirtual 48, 3), (17, .ifCond .eq 7, 3), (20, .iconst 1, 1), (21, .goto 4, 3), (24, .iconst 0, 1), (25, .ireturn, 1)] : List (Nat × Instr × Nat)).all (fun q => decide (decode cX9_takeName q.1 = .ok q.2)) = true := by decide +kernel
set_option maxRecDepth 100000 in
set_option maxHeartbeats 4000000 in
theorem M_X9_takeName {l : Launch} {b : ab_B} {D : va_G} {cA : Nat → ClassId} {f_X9_step : List Value → ab_H → Option ab_O} (h_X9_step : ab_M l b D ab_cl cA (ab_E0 b) yX9_step (Cond.code yX9_step cX9_step 1 none :: ab_G) ({ frames := 1, cells := 0, slots := 0, locals := 100 } : Room) f_X9_step) {f_X9_fail : List Value → ab_H → Option ab_O} (h_X9_fail : ab_M l b D ab_cl cA (ab_E0 b) yX9_fail (Cond.code yX9_fail cX9_fail 2 (some .boolean) :: ab_G) ({ frames := 1, cells := 0, slots := 0, locals := 100 } : Room) f_X9_fail) : ab_M l b D ab_cl cA (ab_E0 b) yX9_takeName (Cond.code yX9_takeName cX9_takeName 1 (some .boolean) :: ab_G) ({ frames := 2, cells := 0, slots := 0, locals := 200 } : Room) (ab_X (ab_T (L_X9_takeName f_X9_step f_X9_fail)) 1) := by
  refine ab_meth (ret := (some .boolean)) (L_X9_takeName f_X9_step f_X9_fail) (by decide) rfl fun p e R s m args below meth c o C => ?_
  unfold L_X9_takeName
  refine List.forall_mem_cons.mpr ⟨ok_aload_n C (show decode cX9_takeName 0 = .ok (.aload_n 0, 1) from dk_at dq22_0 (i := 0) rfl) rfl rfl, ?_⟩
  refine List.forall_mem_cons.mpr ⟨ok_callV C h_X9_step ⟨rfl, rfl⟩ rfl kw_499 kw_516 kw_497 kw_498 kw_3 rfl ds_X9_step ⟨by decide, by decide⟩ (show decode cX9_takeName 1 = .ok (.invokevirtual 45, 3) from dk_at dq22_0 (i := 1) rfl) rfl, ?_⟩
  refine List.forall_mem_cons.mpr ⟨ok_aload_n C (show decode cX9_takeName 4 = .ok (.aload_n 0, 1) from dk_at dq22_0 (i := 2) rfl) rfl rfl, ?_⟩
  refine List.forall_mem_cons.mpr ⟨ok_getf C (wi_X9) rfl (by decide) kw_63 (show decode cX9_takeName 5 = .ok (.getfield 32, 3) from dk_at dq22_0 (i := 3) rfl) rfl, ?_⟩
  refine List.forall_mem_cons.mpr ⟨ok_iconst C (show decode cX9_takeName 8 = .ok (.iconst 2, 1) from dk_at dq22_0 (i := 4) rfl) (by decide) rfl, ?_⟩
  refine List.forall_mem_cons.mpr ⟨ok_icmpeq C (show decode cX9_takeName 9 = .ok (.if_icmp .eq 11, 3) from dk_at dq22_0 (i := 5) rfl) (tg := 20) (by decide) rfl rfl, ?_⟩
  refine List.forall_mem_cons.mpr ⟨ok_aload_n C (show decode cX9_takeName 12 = .ok (.aload_n 0, 1) from dk_at dq22_0 (i := 6) rfl) rfl rfl, ?_⟩
  refine List.forall_mem_cons.mpr ⟨ok_iconst C (show decode cX9_takeName 13 = .ok (.iconst 1, 1) from dk_at dq22_0 (i := 7) rfl) (by decide) rfl, ?_⟩
  refine List.forall_mem_cons.mpr ⟨ok_callV C h_X9_fail ⟨rfl, rfl⟩ rfl kw_520 kw_517 kw_518 kw_519 kw_3 rfl ds_X9_fail ⟨by decide, by decide⟩ (show decode cX9_takeName 14 = .ok (.invokevirtual 48, 3) from dk_at dq22_0 (i := 8) rfl) rfl, ?_⟩
  refine List.forall_mem_cons.mpr ⟨ok_ifeq C (show decode cX9_takeName 17 = .ok (.ifCond .eq 7, 3) from dk_at dq22_0 (i := 9) rfl) (tg := 24) (by decide) rfl rfl, ?_⟩
  refine List.forall_mem_cons.mpr ⟨ok_iconst C (show decode cX9_takeName 20 = .ok (.iconst 1, 1) from dk_at dq22_0 (i := 10) rfl) (by decide) rfl, ?_⟩
  refine List.forall_mem_cons.mpr ⟨ok_goto C (show decode cX9_takeName 21 = .ok (.goto 4, 3) from dk_at dq22_0 (i := 11) rfl) (tg := 25) (by decide) rfl, ?_⟩
  refine List.forall_mem_cons.mpr ⟨ok_iconst C (show decode cX9_takeName 24 = .ok (.iconst 0, 1) from dk_at dq22_0 (i := 12) rfl) (by decide) rfl, ?_⟩
  refine List.forall_mem_cons.mpr ⟨ok_zret C rfl (show decode cX9_takeName 25 = .ok (.ireturn, 1) from dk_at dq22_0 (i := 13) rfl), ?_⟩
  exact fun _ h => absurd h List.not_mem_nil
def L_X7_goodNamed : List (Nat × ab_A) := [
  (0, ab_nx 1 (ab_lit (.int 0))),
  (1, ab_nx 2 (ab_istore 3)),
  (2, ab_nx 3 (ab_iload 3)),
  (3, ab_nx 4 (ab_aload 0)),
  (4, ab_nx 7 (ab_getf 7 8)),
  (7, ab_icmp 10 29 (fun x y => decide (y ≤ x))),
  (10, ab_nx 11 (ab_aload 0)),
  (11, ab_nx 14 (ab_getf 7 0)),
  (14, ab_nx 15 (ab_iload 3)),
  (15, ab_nx 16 ab_lald),
  (16, ab_nx 17 (ab_lload 1)),
  (17, ab_nx 18 ab_lcmp),
  (18, ab_if 21 23 (fun x => !decide (x = 0))),
  (21, ab_nx 22 (ab_iload 3)),
  (22, ab_ret 0 0),
  (23, ab_nx 26 (ab_iinc 3 1)),
  (26, ab_goto 2),
  (29, ab_nx 30 (ab_lit (.int (-1)))),
  (30, ab_ret 0 0)]
set_option maxRecDepth 100000 in
theorem dq22_1 : ([(0, .iconst 0, 1), (1, .istore_n 3, 1), (2, .iload_n 3, 1), (3, .aload_n 0, 1), (4, .getfield 56, 3), (7, .if_icmp .ge 22, 3), (10, .aload_n 0, 1), (11, .getfield 9, 3), (14, .iload_n 3, 1), (15, .laload, 1), (16, .lload_n 1, 1), (17, .lcmp, 1), (18, .ifCond .ne 5, 3), (21, .iload_n 3, 1), (22, .ireturn, 1), (23, .iinc 3 1, 3)] : List (Nat × Instr × Nat)).all (fun q => decide (decode cX7_goodNamed q.1 = .ok q.2)) = true := by decide +kernel
set_option maxRecDepth 100000 in
theorem dq22_2 : ([(26, .goto (-24), 3), (29, .iconst (-1), 1), (30, .ireturn, 1)] : List (Nat × Instr × Nat)).all (fun q => decide (decode cX7_goodNamed q.1 = .ok q.2)) = true := by decide +kernel
set_option maxRecDepth 100000 in
set_option maxHeartbeats 4000000 in
theorem M_X7_goodNamed {l : Launch} {b : ab_B} {D : va_G} {cA : Nat → ClassId} : ab_M l b D ab_cl cA (ab_E0 b) yX7_goodNamed (Cond.code yX7_goodNamed cX7_goodNamed 4 (some .int) :: ab_G) ({ frames := 1, cells := 0, slots := 0, locals := 100 } : Room) (ab_X (ab_T L_X7_goodNamed) 4) := by
  refine ab_meth (ret := (some .int)) L_X7_goodNamed (by decide) rfl fun p e R s m args below meth c o C => ?_
  unfold L_X7_goodNamed
  refine List.forall_mem_cons.mpr ⟨ok_iconst C (show decode cX7_goodNamed 0 = .ok (.iconst 0, 1) from dk_at dq22_1 (i := 0) rfl) (by decide) rfl, ?_⟩
  refine List.forall_mem_cons.mpr ⟨ok_istore_n C (show decode cX7_goodNamed 1 = .ok (.istore_n 3, 1) from dk_at dq22_1 (i := 1) rfl) rfl (by decide) rfl, ?_⟩
  refine List.forall_mem_cons.mpr ⟨ok_iload_n C (show decode cX7_goodNamed 2 = .ok (.iload_n 3, 1) from dk_at dq22_1 (i := 2) rfl) rfl rfl, ?_⟩
  refine List.forall_mem_cons.mpr ⟨ok_aload_n C (show decode cX7_goodNamed 3 = .ok (.aload_n 0, 1) from dk_at dq22_1 (i := 3) rfl) rfl rfl, ?_⟩
  refine List.forall_mem_cons.mpr ⟨ok_getf C (wi_X7) rfl (by decide) kw_249 (show decode cX7_goodNamed 4 = .ok (.getfield 56, 3) from dk_at dq22_1 (i := 4) rfl) rfl, ?_⟩
  refine List.forall_mem_cons.mpr ⟨ok_icmpge C (show decode cX7_goodNamed 7 = .ok (.if_icmp .ge 22, 3) from dk_at dq22_1 (i := 5) rfl) (tg := 29) (by decide) rfl rfl, ?_⟩
  refine List.forall_mem_cons.mpr ⟨ok_aload_n C (show decode cX7_goodNamed 10 = .ok (.aload_n 0, 1) from dk_at dq22_1 (i := 6) rfl) rfl rfl, ?_⟩
  refine List.forall_mem_cons.mpr ⟨ok_getf C (wi_X7) rfl (by decide) kw_234 (show decode cX7_goodNamed 11 = .ok (.getfield 9, 3) from dk_at dq22_1 (i := 7) rfl) rfl, ?_⟩
  refine List.forall_mem_cons.mpr ⟨ok_iload_n C (show decode cX7_goodNamed 14 = .ok (.iload_n 3, 1) from dk_at dq22_1 (i := 8) rfl) rfl rfl, ?_⟩
  refine List.forall_mem_cons.mpr ⟨ok_laload C (show decode cX7_goodNamed 15 = .ok (.laload, 1) from dk_at dq22_1 (i := 9) rfl) rfl, ?_⟩
  refine List.forall_mem_cons.mpr ⟨ok_lload_n C (show decode cX7_goodNamed 16 = .ok (.lload_n 1, 1) from dk_at dq22_1 (i := 10) rfl) rfl rfl, ?_⟩
  refine List.forall_mem_cons.mpr ⟨ok_lcmp C (show decode cX7_goodNamed 17 = .ok (.lcmp, 1) from dk_at dq22_1 (i := 11) rfl) rfl, ?_⟩
  refine List.forall_mem_cons.mpr ⟨ok_ifne C (show decode cX7_goodNamed 18 = .ok (.ifCond .ne 5, 3) from dk_at dq22_1 (i := 12) rfl) (tg := 23) (by decide) rfl rfl, ?_⟩
  refine List.forall_mem_cons.mpr ⟨ok_iload_n C (show decode cX7_goodNamed 21 = .ok (.iload_n 3, 1) from dk_at dq22_1 (i := 13) rfl) rfl rfl, ?_⟩
  refine List.forall_mem_cons.mpr ⟨ok_ret C rfl (show decode cX7_goodNamed 22 = .ok (.ireturn, 1) from dk_at dq22_1 (i := 14) rfl), ?_⟩
  refine List.forall_mem_cons.mpr ⟨ok_iinc C (show decode cX7_goodNamed 23 = .ok (.iinc 3 1, 3) from dk_at dq22_1 (i := 15) rfl) (by decide) (by decide) rfl, ?_⟩
  refine List.forall_mem_cons.mpr ⟨ok_goto C (show decode cX7_goodNamed 26 = .ok (.goto (-24), 3) from dk_at dq22_2 (i := 0) rfl) (tg := 2) (by decide) rfl, ?_⟩
  refine List.forall_mem_cons.mpr ⟨ok_iconst C (show decode cX7_goodNamed 29 = .ok (.iconst (-1), 1) from dk_at dq22_2 (i := 1) rfl) (by decide) rfl, ?_⟩
  refine List.forall_mem_cons.mpr ⟨ok_ret C rfl (show decode cX7_goodNamed 30 = .ok (.ireturn, 1) from dk_at dq22_2 (i := 2) rfl), ?_⟩
  exact fun _ h => absurd h List.not_mem_nil
def L_X7_takeGood (f_X9_takeName : List Value → ab_H → Option ab_O) (f_X7_goodNamed : List Value → ab_H → Option ab_O) (f_X9_fail : List Value → ab_H → Option ab_O) : List (Nat × ab_A) := [
  (0, ab_nx 1 (ab_aload 1)),
  (1, ab_nx 4 (ab_callV 1 9 f_X9_takeName 0 0 0 0)),
  (4, ab_if 7 9 (fun x => !decide (x = 0))),
  (7, ab_nx 8 (ab_lit (.int (-1)))),
  (8, ab_ret 0 0),
  (9, ab_nx 10 (ab_aload 0)),
  (10, ab_nx 11 (ab_aload 1)),
  (11, ab_nx 14 (ab_getf 9 8)),
  (14, ab_nx 17 (ab_callV 2 7 f_X7_goodNamed 0 0 0 0)),
  (17, ab_nx 18 (ab_istore 2)),
  (18, ab_nx 19 (ab_iload 2)),
  (19, ab_nx 20 (ab_lit (.int (-1)))),
  (20, ab_icmp 23 29 (fun x y => !decide (x = y))),
  (23, ab_nx 24 (ab_aload 1)),
  (24, ab_nx 25 (ab_lit (.int 3))),
  (25, ab_nx 28 (ab_callV 2 9 f_X9_fail 0 0 0 0)),
  (28, ab_nx 29 ab_pop),
  (29, ab_nx 30 (ab_iload 2)),
  (30, ab_ret 0 0)]
set_option maxRecDepth 100000 in
theorem dq22_3 : ([(0, .aload_n 1, 1), (1, .invokevirtual 118, 3), (4, .ifCond .ne 5, 3), (7, .iconst (-1), 1), (8, .ireturn, 1), (9, .aload_n 0, 1), (10, .aload_n 1, 1), (11, .getfield 122, 3), (14, .invokevirtual 125, 3), (17, .istore_n 2, 1), (18, .iload_n 2, 1), (19, .iconst (-1), 1), (20, .if_icmp .ne 9, 3), (23, .aload_n 1, 1), (24, .iconst 3, 1), (25, .invokevirtual 108, 3)] : List (Nat × Instr × Nat)).all (fun q => decide (decode cX7_takeGood q.1 = .ok q.2)) = true := by decide +kernel
set_option maxRecDepth 100000 in
theorem dq22_4 : ([(28, .pop, 1), (29, .iload_n 2, 1), (30, .ireturn, 1)] : List (Nat × Instr × Nat)).all (fun q => decide (decode cX7_takeGood q.1 = .ok q.2)) = true := by decide +kernel
set_option maxRecDepth 100000 in
set_option maxHeartbeats 4000000 in
theorem M_X7_takeGood {l : Launch} {b : ab_B} {D : va_G} {cA : Nat → ClassId} {f_X9_takeName : List Value → ab_H → Option ab_O} (h_X9_takeName : ab_M l b D ab_cl cA (ab_E0 b) yX9_takeName (Cond.code yX9_takeName cX9_takeName 1 (some .boolean) :: ab_G) ({ frames := 2, cells := 0, slots := 0, locals := 200 } : Room) f_X9_takeName) {f_X7_goodNamed : List Value → ab_H → Option ab_O} (h_X7_goodNamed : ab_M l b D ab_cl cA (ab_E0 b) yX7_goodNamed (Cond.code yX7_goodNamed cX7_goodNamed 4 (some .int) :: ab_G) ({ frames := 1, cells := 0, slots := 0, locals := 100 } : Room) f_X7_goodNamed) {f_X9_fail : List Value → ab_H → Option ab_O} (h_X9_fail : ab_M l b D ab_cl cA (ab_E0 b) yX9_fail (Cond.code yX9_fail cX9_fail 2 (some .boolean) :: ab_G) ({ frames := 1, cells := 0, slots := 0, locals := 100 } : Room) f_X9_fail) : ab_M l b D ab_cl cA (ab_E0 b) yX7_takeGood (Cond.code yX7_takeGood cX7_takeGood 3 (some .int) :: ab_G) ({ frames := 3, cells := 0, slots := 0, locals := 300 } : Room) (ab_X (ab_T (L_X7_takeGood f_X9_takeName f_X7_goodNamed f_X9_fail)) 3) := by
  refine ab_meth (ret := (some .int)) (L_X7_takeGood f_X9_takeName f_X7_goodNamed f_X9_fail) (by decide) rfl fun p e R s m args below meth c o C => ?_
  unfold L_X7_takeGood
  refine List.forall_mem_cons.mpr ⟨ok_aload_n C (show decode cX7_takeGood 0 = .ok (.aload_n 1, 1) from dk_at dq22_3 (i := 0) rfl) rfl rfl, ?_⟩
  refine List.forall_mem_cons.mpr ⟨ok_callV C h_X9_takeName ⟨rfl, rfl⟩ rfl kw_515 kw_512 kw_513 kw_514 kw_3 rfl ds_X9_takeName ⟨by decide, by decide⟩ (show decode cX7_takeGood 1 = .ok (.invokevirtual 118, 3) from dk_at dq22_3 (i := 1) rfl) rfl, ?_⟩
  refine List.forall_mem_cons.mpr ⟨ok_ifne C (show decode cX7_takeGood 4 = .ok (.ifCond .ne 5, 3) from dk_at dq22_3 (i := 2) rfl) (tg := 9) (by decide) rfl rfl, ?_⟩
  refine List.forall_mem_cons.mpr ⟨ok_iconst C (show decode cX7_takeGood 7 = .ok (.iconst (-1), 1) from dk_at dq22_3 (i := 3) rfl) (by decide) rfl, ?_⟩
  refine List.forall_mem_cons.mpr ⟨ok_ret C rfl (show decode cX7_takeGood 8 = .ok (.ireturn, 1) from dk_at dq22_3 (i := 4) rfl), ?_⟩
  refine List.forall_mem_cons.mpr ⟨ok_aload_n C (show decode cX7_takeGood 9 = .ok (.aload_n 0, 1) from dk_at dq22_3 (i := 5) rfl) rfl rfl, ?_⟩
  refine List.forall_mem_cons.mpr ⟨ok_aload_n C (show decode cX7_takeGood 10 = .ok (.aload_n 1, 1) from dk_at dq22_3 (i := 6) rfl) rfl rfl, ?_⟩
  refine List.forall_mem_cons.mpr ⟨ok_getf C (wi_X9) rfl (by decide) kw_73 (show decode cX7_takeGood 11 = .ok (.getfield 122, 3) from dk_at dq22_3 (i := 7) rfl) rfl, ?_⟩
  refine List.forall_mem_cons.mpr ⟨ok_callV C h_X7_goodNamed ⟨rfl, rfl⟩ rfl kw_524 kw_521 kw_522 kw_523 kw_9 rfl ds_X7_goodNamed ⟨by decide, by decide⟩ (show decode cX7_takeGood 14 = .ok (.invokevirtual 125, 3) from dk_at dq22_3 (i := 8) rfl) rfl, ?_⟩
  refine List.forall_mem_cons.mpr ⟨ok_istore_n C (show decode cX7_takeGood 17 = .ok (.istore_n 2, 1) from dk_at dq22_3 (i := 9) rfl) rfl (by decide) rfl, ?_⟩
  refine List.forall_mem_cons.mpr ⟨ok_iload_n C (show decode cX7_takeGood 18 = .ok (.iload_n 2, 1) from dk_at dq22_3 (i := 10) rfl) rfl rfl, ?_⟩
  refine List.forall_mem_cons.mpr ⟨ok_iconst C (show decode cX7_takeGood 19 = .ok (.iconst (-1), 1) from dk_at dq22_3 (i := 11) rfl) (by decide) rfl, ?_⟩
  refine List.forall_mem_cons.mpr ⟨ok_icmpne C (show decode cX7_takeGood 20 = .ok (.if_icmp .ne 9, 3) from dk_at dq22_3 (i := 12) rfl) (tg := 29) (by decide) rfl rfl, ?_⟩
  refine List.forall_mem_cons.mpr ⟨ok_aload_n C (show decode cX7_takeGood 23 = .ok (.aload_n 1, 1) from dk_at dq22_3 (i := 13) rfl) rfl rfl, ?_⟩
  refine List.forall_mem_cons.mpr ⟨ok_iconst C (show decode cX7_takeGood 24 = .ok (.iconst 3, 1) from dk_at dq22_3 (i := 14) rfl) (by decide) rfl, ?_⟩
  refine List.forall_mem_cons.mpr ⟨ok_callV C h_X9_fail ⟨rfl, rfl⟩ rfl kw_520 kw_525 kw_518 kw_519 kw_3 rfl ds_X9_fail ⟨by decide, by decide⟩ (show decode cX7_takeGood 25 = .ok (.invokevirtual 108, 3) from dk_at dq22_3 (i := 15) rfl) rfl, ?_⟩
  refine List.forall_mem_cons.mpr ⟨ok_pop C (show decode cX7_takeGood 28 = .ok (.pop, 1) from dk_at dq22_4 (i := 0) rfl) rfl, ?_⟩
  refine List.forall_mem_cons.mpr ⟨ok_iload_n C (show decode cX7_takeGood 29 = .ok (.iload_n 2, 1) from dk_at dq22_4 (i := 1) rfl) rfl rfl, ?_⟩
  refine List.forall_mem_cons.mpr ⟨ok_ret C rfl (show decode cX7_takeGood 30 = .ok (.ireturn, 1) from dk_at dq22_4 (i := 2) rfl), ?_⟩
  exact fun _ h => absurd h List.not_mem_nil
def L_X9_takeNumber (f_X9_step : List Value → ab_H → Option ab_O) (f_X9_fail : List Value → ab_H → Option ab_O) : List (Nat × ab_A) := [
  (0, ab_nx 1 (ab_aload 0)),
  (1, ab_nx 4 (ab_callV 1 9 f_X9_step 0 0 0 0)),
  (4, ab_nx 5 (ab_aload 0)),
  (5, ab_nx 8 (ab_getf 9 5)),
  (8, ab_nx 9 (ab_lit (.int 3))),
  (9, ab_icmp 12 18 (fun x y => decide (x = y))),
  (12, ab_nx 13 (ab_aload 0)),
  (13, ab_nx 14 (ab_lit (.int 1))),
  (14, ab_nx 17 (ab_callV 2 9 f_X9_fail 0 0 0 0)),
  (17, ab_zret 0 0),
  (18, ab_nx 19 (ab_aload 0)),
  (19, ab_nx 22 (ab_getf 9 7)),
  (22, ab_nx 23 (ab_iload 1)),
  (23, ab_icmp 26 34 (fun x y => decide (x < y))),
  (26, ab_nx 27 (ab_aload 0)),
  (27, ab_nx 30 (ab_getf 9 7)),
  (30, ab_nx 31 (ab_iload 2)),
  (31, ab_icmp 34 42 (fun x y => decide (x ≤ y))),
  (34, ab_nx 35 (ab_aload 0)),
  (35, ab_nx 36 (ab_lit (.int 2))),
  (36, ab_nx 39 (ab_callV 2 9 f_X9_fail 0 0 0 0)),
  (39, ab_if 42 46 (fun x => decide (x = 0))),
  (42, ab_nx 43 (ab_lit (.int 1))),
  (43, ab_goto 47),
  (46, ab_nx 47 (ab_lit (.int 0))),
  (47, ab_zret 0 0)]
set_option maxRecDepth 100000 in
theorem dq22_5 : ([(0, .aload_n 0, 1), (1, .invokevirtual 45, 3), (4, .aload_n 0, 1), (5, .getfield 32, 3), (8, .iconst 3, 1), (9, .if_icmp .eq 9, 3), (12, .aload_n 0, 1), (13, .iconst 1, 1), (14, .invokevirtual 48, 3), (17, .ireturn, 1), (18, .aload_n 0, 1), (19, .getfield 42, 3), (22, .iload_n 1, 1), (23, .if_icmp .lt 11, 3), (26, .aload_n 0, 1), (27, .getfield 42, 3)] : List (Nat × Instr × Nat)).all (fun q => decide (decode cX9_takeNumber q.1 = .ok q.2)) = true := by decide +kernel
set_option maxRecDepth 100000 in
theorem dq22_6 : ([(30, .iload_n 2, 1), (31, .if_icmp .le 11, 3), (34, .aload_n 0, 1), (35, .iconst 2, 1), (36, .invokevirtual 48, 3), (39, .ifCond .eq 7, 3), (42, .iconst 1, 1), (43, .goto 4, 3), (46, .iconst 0, 1), (47, .ireturn, 1)] : List (Nat × Instr × Nat)).all (fun q => decide (decode cX9_takeNumber q.1 = .ok q.2)) = true := by decide +kernel
set_option maxRecDepth 100000 in
set_option maxHeartbeats 4000000 in
theorem M_X9_takeNumber {l : Launch} {b : ab_B} {D : va_G} {cA : Nat → ClassId} {f_X9_step : List Value → ab_H → Option ab_O} (h_X9_step : ab_M l b D ab_cl cA (ab_E0 b) yX9_step (Cond.code yX9_step cX9_step 1 none :: ab_G) ({ frames := 1, cells := 0, slots := 0, locals := 100 } : Room) f_X9_step) {f_X9_fail : List Value → ab_H → Option ab_O} (h_X9_fail : ab_M l b D ab_cl cA (ab_E0 b) yX9_fail (Cond.code yX9_fail cX9_fail 2 (some .boolean) :: ab_G) ({ frames := 1, cells := 0, slots := 0, locals := 100 } : Room) f_X9_fail) : ab_M l b D ab_cl cA (ab_E0 b) yX9_takeNumber (Cond.code yX9_takeNumber cX9_takeNumber 3 (some .boolean) :: ab_G) ({ frames := 2, cells := 0, slots := 0, locals := 200 } : Room) (ab_X (ab_T (L_X9_takeNumber f_X9_step f_X9_fail)) 3) := by
  refine ab_meth (ret := (some .boolean)) (L_X9_takeNumber f_X9_step f_X9_fail) (by decide) rfl fun p e R s m args below meth c o C => ?_
  unfold L_X9_takeNumber
  refine List.forall_mem_cons.mpr ⟨ok_aload_n C (show decode cX9_takeNumber 0 = .ok (.aload_n 0, 1) from dk_at dq22_5 (i := 0) rfl) rfl rfl, ?_⟩
  refine List.forall_mem_cons.mpr ⟨ok_callV C h_X9_step ⟨rfl, rfl⟩ rfl kw_499 kw_516 kw_497 kw_498 kw_3 rfl ds_X9_step ⟨by decide, by decide⟩ (show decode cX9_takeNumber 1 = .ok (.invokevirtual 45, 3) from dk_at dq22_5 (i := 1) rfl) rfl, ?_⟩
  refine List.forall_mem_cons.mpr ⟨ok_aload_n C (show decode cX9_takeNumber 4 = .ok (.aload_n 0, 1) from dk_at dq22_5 (i := 2) rfl) rfl rfl, ?_⟩
  refine List.forall_mem_cons.mpr ⟨ok_getf C (wi_X9) rfl (by decide) kw_63 (show decode cX9_takeNumber 5 = .ok (.getfield 32, 3) from dk_at dq22_5 (i := 3) rfl) rfl, ?_⟩
  refine List.forall_mem_cons.mpr ⟨ok_iconst C (show decode cX9_takeNumber 8 = .ok (.iconst 3, 1) from dk_at dq22_5 (i := 4) rfl) (by decide) rfl, ?_⟩
  refine List.forall_mem_cons.mpr ⟨ok_icmpeq C (show decode cX9_takeNumber 9 = .ok (.if_icmp .eq 9, 3) from dk_at dq22_5 (i := 5) rfl) (tg := 18) (by decide) rfl rfl, ?_⟩
  refine List.forall_mem_cons.mpr ⟨ok_aload_n C (show decode cX9_takeNumber 12 = .ok (.aload_n 0, 1) from dk_at dq22_5 (i := 6) rfl) rfl rfl, ?_⟩
  refine List.forall_mem_cons.mpr ⟨ok_iconst C (show decode cX9_takeNumber 13 = .ok (.iconst 1, 1) from dk_at dq22_5 (i := 7) rfl) (by decide) rfl, ?_⟩
  refine List.forall_mem_cons.mpr ⟨ok_callV C h_X9_fail ⟨rfl, rfl⟩ rfl kw_520 kw_517 kw_518 kw_519 kw_3 rfl ds_X9_fail ⟨by decide, by decide⟩ (show decode cX9_takeNumber 14 = .ok (.invokevirtual 48, 3) from dk_at dq22_5 (i := 8) rfl) rfl, ?_⟩
  refine List.forall_mem_cons.mpr ⟨ok_zret C rfl (show decode cX9_takeNumber 17 = .ok (.ireturn, 1) from dk_at dq22_5 (i := 9) rfl), ?_⟩
  refine List.forall_mem_cons.mpr ⟨ok_aload_n C (show decode cX9_takeNumber 18 = .ok (.aload_n 0, 1) from dk_at dq22_5 (i := 10) rfl) rfl rfl, ?_⟩
  refine List.forall_mem_cons.mpr ⟨ok_getf C (wi_X9) rfl (by decide) kw_68 (show decode cX9_takeNumber 19 = .ok (.getfield 42, 3) from dk_at dq22_5 (i := 11) rfl) rfl, ?_⟩
  refine List.forall_mem_cons.mpr ⟨ok_iload_n C (show decode cX9_takeNumber 22 = .ok (.iload_n 1, 1) from dk_at dq22_5 (i := 12) rfl) rfl rfl, ?_⟩
  refine List.forall_mem_cons.mpr ⟨ok_icmplt C (show decode cX9_takeNumber 23 = .ok (.if_icmp .lt 11, 3) from dk_at dq22_5 (i := 13) rfl) (tg := 34) (by decide) rfl rfl, ?_⟩
  refine List.forall_mem_cons.mpr ⟨ok_aload_n C (show decode cX9_takeNumber 26 = .ok (.aload_n 0, 1) from dk_at dq22_5 (i := 14) rfl) rfl rfl, ?_⟩
  refine List.forall_mem_cons.mpr ⟨ok_getf C (wi_X9) rfl (by decide) kw_68 (show decode cX9_takeNumber 27 = .ok (.getfield 42, 3) from dk_at dq22_5 (i := 15) rfl) rfl, ?_⟩
  refine List.forall_mem_cons.mpr ⟨ok_iload_n C (show decode cX9_takeNumber 30 = .ok (.iload_n 2, 1) from dk_at dq22_6 (i := 0) rfl) rfl rfl, ?_⟩
  refine List.forall_mem_cons.mpr ⟨ok_icmple C (show decode cX9_takeNumber 31 = .ok (.if_icmp .le 11, 3) from dk_at dq22_6 (i := 1) rfl) (tg := 42) (by decide) rfl rfl, ?_⟩
  refine List.forall_mem_cons.mpr ⟨ok_aload_n C (show decode cX9_takeNumber 34 = .ok (.aload_n 0, 1) from dk_at dq22_6 (i := 2) rfl) rfl rfl, ?_⟩
  refine List.forall_mem_cons.mpr ⟨ok_iconst C (show decode cX9_takeNumber 35 = .ok (.iconst 2, 1) from dk_at dq22_6 (i := 3) rfl) (by decide) rfl, ?_⟩
  refine List.forall_mem_cons.mpr ⟨ok_callV C h_X9_fail ⟨rfl, rfl⟩ rfl kw_520 kw_517 kw_518 kw_519 kw_3 rfl ds_X9_fail ⟨by decide, by decide⟩ (show decode cX9_takeNumber 36 = .ok (.invokevirtual 48, 3) from dk_at dq22_6 (i := 4) rfl) rfl, ?_⟩
  refine List.forall_mem_cons.mpr ⟨ok_ifeq C (show decode cX9_takeNumber 39 = .ok (.ifCond .eq 7, 3) from dk_at dq22_6 (i := 5) rfl) (tg := 46) (by decide) rfl rfl, ?_⟩
  refine List.forall_mem_cons.mpr ⟨ok_iconst C (show decode cX9_takeNumber 42 = .ok (.iconst 1, 1) from dk_at dq22_6 (i := 6) rfl) (by decide) rfl, ?_⟩
  refine List.forall_mem_cons.mpr ⟨ok_goto C (show decode cX9_takeNumber 43 = .ok (.goto 4, 3) from dk_at dq22_6 (i := 7) rfl) (tg := 47) (by decide) rfl, ?_⟩
  refine List.forall_mem_cons.mpr ⟨ok_iconst C (show decode cX9_takeNumber 46 = .ok (.iconst 0, 1) from dk_at dq22_6 (i := 8) rfl) (by decide) rfl, ?_⟩
  refine List.forall_mem_cons.mpr ⟨ok_zret C rfl (show decode cX9_takeNumber 47 = .ok (.ireturn, 1) from dk_at dq22_6 (i := 9) rfl), ?_⟩
  exact fun _ h => absurd h List.not_mem_nil
def L_X4_addLine : List (Nat × ab_A) := [
  (0, ab_nx 1 (ab_aload 0)),
  (1, ab_nx 4 (ab_getf 4 0)),
  (4, ab_nx 5 (ab_aload 0)),
  (5, ab_nx 8 (ab_getf 4 3)),
  (8, ab_nx 9 (ab_iload 1)),
  (9, ab_nx 10 (ab_ast 1)),
  (10, ab_nx 11 (ab_aload 0)),
  (11, ab_nx 14 (ab_getf 4 1)),
  (14, ab_nx 15 (ab_aload 0)),
  (15, ab_nx 18 (ab_getf 4 3)),
  (18, ab_nx 19 (ab_iload 2)),
  (19, ab_nx 20 (ab_ast 1)),
  (20, ab_nx 21 (ab_aload 0)),
  (21, ab_nx 24 (ab_getf 4 2)),
  (24, ab_nx 25 (ab_aload 0)),
  (25, ab_nx 28 (ab_getf 4 3)),
  (28, ab_nx 29 (ab_iload 3)),
  (29, ab_nx 30 (ab_ast 1)),
  (30, ab_nx 31 (ab_aload 0)),
  (31, ab_nx 32 ab_dup),
  (32, ab_nx 35 (ab_getf 4 3)),
  (35, ab_nx 36 (ab_lit (.int 1))),
  (36, ab_nx 37 (ab_bin (fun x y => x + y))),
  (37, ab_nx 40 (ab_putf 4 3 0)),
  (40, ab_nx 41 (ab_lit (.int 1))),
  (41, ab_zret 0 0)]
set_option maxRecDepth 100000 in
theorem dq22_7 : ([(0, .aload_n 0, 1), (1, .getfield 9, 3), (4, .aload_n 0, 1), (5, .getfield 21, 3), (8, .iload_n 1, 1), (9, .iastore, 1), (10, .aload_n 0, 1), (11, .getfield 15, 3), (14, .aload_n 0, 1), (15, .getfield 21, 3), (18, .iload_n 2, 1), (19, .iastore, 1), (20, .aload_n 0, 1), (21, .getfield 18, 3), (24, .aload_n 0, 1), (25, .getfield 21, 3)] : List (Nat × Instr × Nat)).all (fun q => decide (decode cX4_addLine q.1 = .ok q.2)) = true := by decide +kernel
set_option maxRecDepth 100000 in
theorem dq22_8 : ([(28, .iload_n 3, 1), (29, .iastore, 1), (30, .aload_n 0, 1), (31, .dup, 1), (32, .getfield 21, 3), (35, .iconst 1, 1), (36, .iadd, 1), (37, .putfield 21, 3), (40, .iconst 1, 1), (41, .ireturn, 1)] : List (Nat × Instr × Nat)).all (fun q => decide (decode cX4_addLine q.1 = .ok q.2)) = true := by decide +kernel
set_option maxRecDepth 100000 in
set_option maxHeartbeats 4000000 in
theorem M_X4_addLine {l : Launch} {b : ab_B} {D : va_G} {cA : Nat → ClassId} : ab_M l b D ab_cl cA (ab_E0 b) yX4_addLine (Cond.code yX4_addLine cX4_addLine 4 (some .boolean) :: ab_G) ({ frames := 1, cells := 0, slots := 0, locals := 100 } : Room) (ab_X (ab_T L_X4_addLine) 4) := by
  refine ab_meth (ret := (some .boolean)) L_X4_addLine (by decide) rfl fun p e R s m args below meth c o C => ?_
  unfold L_X4_addLine
  refine List.forall_mem_cons.mpr ⟨ok_aload_n C (show decode cX4_addLine 0 = .ok (.aload_n 0, 1) from dk_at dq22_7 (i := 0) rfl) rfl rfl, ?_⟩
  refine List.forall_mem_cons.mpr ⟨ok_getf C (wi_X4) rfl (by decide) kw_198 (show decode cX4_addLine 1 = .ok (.getfield 9, 3) from dk_at dq22_7 (i := 1) rfl) rfl, ?_⟩
  refine List.forall_mem_cons.mpr ⟨ok_aload_n C (show decode cX4_addLine 4 = .ok (.aload_n 0, 1) from dk_at dq22_7 (i := 2) rfl) rfl rfl, ?_⟩
  refine List.forall_mem_cons.mpr ⟨ok_getf C (wi_X4) rfl (by decide) kw_204 (show decode cX4_addLine 5 = .ok (.getfield 21, 3) from dk_at dq22_7 (i := 3) rfl) rfl, ?_⟩
  refine List.forall_mem_cons.mpr ⟨ok_iload_n C (show decode cX4_addLine 8 = .ok (.iload_n 1, 1) from dk_at dq22_7 (i := 4) rfl) rfl rfl, ?_⟩
  refine List.forall_mem_cons.mpr ⟨ok_iastore C (show decode cX4_addLine 9 = .ok (.iastore, 1) from dk_at dq22_7 (i := 5) rfl) rfl, ?_⟩
  refine List.forall_mem_cons.mpr ⟨ok_aload_n C (show decode cX4_addLine 10 = .ok (.aload_n 0, 1) from dk_at dq22_7 (i := 6) rfl) rfl rfl, ?_⟩
  refine List.forall_mem_cons.mpr ⟨ok_getf C (wi_X4) rfl (by decide) kw_200 (show decode cX4_addLine 11 = .ok (.getfield 15, 3) from dk_at dq22_7 (i := 7) rfl) rfl, ?_⟩
  refine List.forall_mem_cons.mpr ⟨ok_aload_n C (show decode cX4_addLine 14 = .ok (.aload_n 0, 1) from dk_at dq22_7 (i := 8) rfl) rfl rfl, ?_⟩
  refine List.forall_mem_cons.mpr ⟨ok_getf C (wi_X4) rfl (by decide) kw_204 (show decode cX4_addLine 15 = .ok (.getfield 21, 3) from dk_at dq22_7 (i := 9) rfl) rfl, ?_⟩
  refine List.forall_mem_cons.mpr ⟨ok_iload_n C (show decode cX4_addLine 18 = .ok (.iload_n 2, 1) from dk_at dq22_7 (i := 10) rfl) rfl rfl, ?_⟩
  refine List.forall_mem_cons.mpr ⟨ok_iastore C (show decode cX4_addLine 19 = .ok (.iastore, 1) from dk_at dq22_7 (i := 11) rfl) rfl, ?_⟩
  refine List.forall_mem_cons.mpr ⟨ok_aload_n C (show decode cX4_addLine 20 = .ok (.aload_n 0, 1) from dk_at dq22_7 (i := 12) rfl) rfl rfl, ?_⟩
  refine List.forall_mem_cons.mpr ⟨ok_getf C (wi_X4) rfl (by decide) kw_202 (show decode cX4_addLine 21 = .ok (.getfield 18, 3) from dk_at dq22_7 (i := 13) rfl) rfl, ?_⟩
  refine List.forall_mem_cons.mpr ⟨ok_aload_n C (show decode cX4_addLine 24 = .ok (.aload_n 0, 1) from dk_at dq22_7 (i := 14) rfl) rfl rfl, ?_⟩
  refine List.forall_mem_cons.mpr ⟨ok_getf C (wi_X4) rfl (by decide) kw_204 (show decode cX4_addLine 25 = .ok (.getfield 21, 3) from dk_at dq22_7 (i := 15) rfl) rfl, ?_⟩
  refine List.forall_mem_cons.mpr ⟨ok_iload_n C (show decode cX4_addLine 28 = .ok (.iload_n 3, 1) from dk_at dq22_8 (i := 0) rfl) rfl rfl, ?_⟩
  refine List.forall_mem_cons.mpr ⟨ok_iastore C (show decode cX4_addLine 29 = .ok (.iastore, 1) from dk_at dq22_8 (i := 1) rfl) rfl, ?_⟩
  refine List.forall_mem_cons.mpr ⟨ok_aload_n C (show decode cX4_addLine 30 = .ok (.aload_n 0, 1) from dk_at dq22_8 (i := 2) rfl) rfl rfl, ?_⟩
  refine List.forall_mem_cons.mpr ⟨ok_dup C (show decode cX4_addLine 31 = .ok (.dup, 1) from dk_at dq22_8 (i := 3) rfl) rfl, ?_⟩
  refine List.forall_mem_cons.mpr ⟨ok_getf C (wi_X4) rfl (by decide) kw_204 (show decode cX4_addLine 32 = .ok (.getfield 21, 3) from dk_at dq22_8 (i := 4) rfl) rfl, ?_⟩
  refine List.forall_mem_cons.mpr ⟨ok_iconst C (show decode cX4_addLine 35 = .ok (.iconst 1, 1) from dk_at dq22_8 (i := 5) rfl) (by decide) rfl, ?_⟩
  refine List.forall_mem_cons.mpr ⟨ok_iadd C (show decode cX4_addLine 36 = .ok (.iadd, 1) from dk_at dq22_8 (i := 6) rfl) rfl, ?_⟩
  refine List.forall_mem_cons.mpr ⟨ok_putf C (wi_X4) tyX4 tyX4_ok nmX4 rfl (by decide) kw_204 (Or.inl rfl) (Or.inl ⟨rfl, rfl⟩) (show decode cX4_addLine 37 = .ok (.putfield 21, 3) from dk_at dq22_8 (i := 7) rfl) rfl, ?_⟩
  refine List.forall_mem_cons.mpr ⟨ok_iconst C (show decode cX4_addLine 40 = .ok (.iconst 1, 1) from dk_at dq22_8 (i := 8) rfl) (by decide) rfl, ?_⟩
  refine List.forall_mem_cons.mpr ⟨ok_zret C rfl (show decode cX4_addLine 41 = .ok (.ireturn, 1) from dk_at dq22_8 (i := 9) rfl), ?_⟩
  exact fun _ h => absurd h List.not_mem_nil
def L_X4_readDeed (f_X7_takeGood : List Value → ab_H → Option ab_O) (f_X9_takeNumber : List Value → ab_H → Option ab_O) (f_X10_slotOf : List Value → ab_H → Option ab_O) (f_X4_addLine : List Value → ab_H → Option ab_O) : List (Nat × ab_A) := [
  (0, ab_nx 1 (ab_aload 2)),
  (1, ab_nx 2 (ab_aload 1)),
  (2, ab_nx 5 (ab_callV 2 7 f_X7_takeGood 0 0 0 0)),
  (5, ab_nx 7 (ab_istore 4)),
  (7, ab_nx 9 (ab_iload 4)),
  (9, ab_nx 10 (ab_lit (.int (-1)))),
  (10, ab_icmp 13 22 (fun x y => decide (x = y))),
  (13, ab_nx 14 (ab_aload 1)),
  (14, ab_nx 15 (ab_lit (.int 0))),
  (15, ab_nx 16 (ab_lit (.int 1))),
  (16, ab_nx 19 (ab_callV 3 9 f_X9_takeNumber 0 0 0 0)),
  (19, ab_if 22 24 (fun x => !decide (x = 0))),
  (22, ab_nx 23 (ab_lit (.int 0))),
  (23, ab_zret 0 0),
  (24, ab_nx 26 (ab_iload 4)),
  (26, ab_nx 27 (ab_aload 1)),
  (27, ab_nx 30 (ab_getf 9 7)),
  (30, ab_nx 33 (ab_call 2 f_X10_slotOf 0 0 0 0)),
  (33, ab_nx 35 (ab_istore 5)),
  (35, ab_nx 36 (ab_aload 1)),
  (36, ab_nx 37 (ab_lit (.int 1))),
  (37, ab_nx 40 (ab_lit (.int 250))),
  (40, ab_nx 43 (ab_callV 3 9 f_X9_takeNumber 0 0 0 0)),
  (43, ab_if 46 64 (fun x => decide (x = 0))),
  (46, ab_nx 47 (ab_aload 0)),
  (47, ab_nx 48 (ab_iload 3)),
  (48, ab_nx 50 (ab_iload 5)),
  (50, ab_nx 51 (ab_aload 1)),
  (51, ab_nx 54 (ab_getf 9 7)),
  (54, ab_nx 57 (ab_callV 4 4 f_X4_addLine 0 0 0 0)),
  (57, ab_if 60 64 (fun x => decide (x = 0))),
  (60, ab_nx 61 (ab_lit (.int 1))),
  (61, ab_goto 65),
  (64, ab_nx 65 (ab_lit (.int 0))),
  (65, ab_zret 0 0)]
set_option maxRecDepth 100000 in
theorem dq22_9 : ([(0, .aload_n 2, 1), (1, .aload_n 1, 1), (2, .invokevirtual 66, 3), (5, .istore 4, 2), (7, .iload 4, 2), (9, .iconst (-1), 1), (10, .if_icmp .eq 12, 3), (13, .aload_n 1, 1), (14, .iconst 0, 1), (15, .iconst 1, 1), (16, .invokevirtual 70, 3), (19, .ifCond .ne 5, 3), (22, .iconst 0, 1), (23, .ireturn, 1), (24, .iload 4, 2), (26, .aload_n 1, 1)] : List (Nat × Instr × Nat)).all (fun q => decide (decode cX4_readDeed q.1 = .ok q.2)) = true := by decide +kernel
set_option maxRecDepth 100000 in
theorem dq22_10 : ([(27, .getfield 74, 3), (30, .invokestatic 77, 3), (33, .istore 5, 2), (35, .aload_n 1, 1), (36, .iconst 1, 1), (37, .sipush 250, 3), (40, .invokevirtual 70, 3), (43, .ifCond .eq 21, 3), (46, .aload_n 0, 1), (47, .iload_n 3, 1), (48, .iload 5, 2), (50, .aload_n 1, 1), (51, .getfield 74, 3), (54, .invokevirtual 81, 3), (57, .ifCond .eq 7, 3), (60, .iconst 1, 1)] : List (Nat × Instr × Nat)).all (fun q => decide (decode cX4_readDeed q.1 = .ok q.2)) = true := by decide +kernel
set_option maxRecDepth 100000 in
theorem dq22_11 : ([(61, .goto 4, 3), (64, .iconst 0, 1), (65, .ireturn, 1)] : List (Nat × Instr × Nat)).all (fun q => decide (decode cX4_readDeed q.1 = .ok q.2)) = true := by decide +kernel
set_option maxRecDepth 100000 in
set_option maxHeartbeats 4000000 in
theorem M_X4_readDeed {l : Launch} {b : ab_B} {D : va_G} {cA : Nat → ClassId} {f_X7_takeGood : List Value → ab_H → Option ab_O} (h_X7_takeGood : ab_M l b D ab_cl cA (ab_E0 b) yX7_takeGood (Cond.code yX7_takeGood cX7_takeGood 3 (some .int) :: ab_G) ({ frames := 3, cells := 0, slots := 0, locals := 300 } : Room) f_X7_takeGood) {f_X9_takeNumber : List Value → ab_H → Option ab_O} (h_X9_takeNumber : ab_M l b D ab_cl cA (ab_E0 b) yX9_takeNumber (Cond.code yX9_takeNumber cX9_takeNumber 3 (some .boolean) :: ab_G) ({ frames := 2, cells := 0, slots := 0, locals := 200 } : Room) f_X9_takeNumber) {f_X10_slotOf : List Value → ab_H → Option ab_O} (h_X10_slotOf : ab_M l b D ab_cl cA (ab_E0 b) yX10_slotOf (Cond.code yX10_slotOf cX10_slotOf 2 (some .int) :: ab_G) ({ frames := 1, cells := 0, slots := 0, locals := 100 } : Room) f_X10_slotOf) {f_X4_addLine : List Value → ab_H → Option ab_O} (h_X4_addLine : ab_M l b D ab_cl cA (ab_E0 b) yX4_addLine (Cond.code yX4_addLine cX4_addLine 4 (some .boolean) :: ab_G) ({ frames := 1, cells := 0, slots := 0, locals := 100 } : Room) f_X4_addLine) : ab_M l b D ab_cl cA (ab_E0 b) yX4_readDeed (Cond.code yX4_readDeed cX4_readDeed 6 (some .boolean) :: ab_G) ({ frames := 4, cells := 0, slots := 0, locals := 400 } : Room) (ab_X (ab_T (L_X4_readDeed f_X7_takeGood f_X9_takeNumber f_X10_slotOf f_X4_addLine)) 6) := by
  refine ab_meth (ret := (some .boolean)) (L_X4_readDeed f_X7_takeGood f_X9_takeNumber f_X10_slotOf f_X4_addLine) (by decide) rfl fun p e R s m args below meth c o C => ?_
  unfold L_X4_readDeed
  refine List.forall_mem_cons.mpr ⟨ok_aload_n C (show decode cX4_readDeed 0 = .ok (.aload_n 2, 1) from dk_at dq22_9 (i := 0) rfl) rfl rfl, ?_⟩
  refine List.forall_mem_cons.mpr ⟨ok_aload_n C (show decode cX4_readDeed 1 = .ok (.aload_n 1, 1) from dk_at dq22_9 (i := 1) rfl) rfl rfl, ?_⟩
  refine List.forall_mem_cons.mpr ⟨ok_callV C h_X7_takeGood ⟨rfl, rfl⟩ rfl kw_511 kw_925 kw_509 kw_510 kw_9 rfl ds_X7_takeGood ⟨by decide, by decide⟩ (show decode cX4_readDeed 2 = .ok (.invokevirtual 66, 3) from dk_at dq22_9 (i := 2) rfl) rfl, ?_⟩
  refine List.forall_mem_cons.mpr ⟨ok_istore C (show decode cX4_readDeed 5 = .ok (.istore 4, 2) from dk_at dq22_9 (i := 3) rfl) (by decide) rfl, ?_⟩
  refine List.forall_mem_cons.mpr ⟨ok_iload C (show decode cX4_readDeed 7 = .ok (.iload 4, 2) from dk_at dq22_9 (i := 4) rfl) rfl, ?_⟩
  refine List.forall_mem_cons.mpr ⟨ok_iconst C (show decode cX4_readDeed 9 = .ok (.iconst (-1), 1) from dk_at dq22_9 (i := 5) rfl) (by decide) rfl, ?_⟩
  refine List.forall_mem_cons.mpr ⟨ok_icmpeq C (show decode cX4_readDeed 10 = .ok (.if_icmp .eq 12, 3) from dk_at dq22_9 (i := 6) rfl) (tg := 22) (by decide) rfl rfl, ?_⟩
  refine List.forall_mem_cons.mpr ⟨ok_aload_n C (show decode cX4_readDeed 13 = .ok (.aload_n 1, 1) from dk_at dq22_9 (i := 7) rfl) rfl rfl, ?_⟩
  refine List.forall_mem_cons.mpr ⟨ok_iconst C (show decode cX4_readDeed 14 = .ok (.iconst 0, 1) from dk_at dq22_9 (i := 8) rfl) (by decide) rfl, ?_⟩
  refine List.forall_mem_cons.mpr ⟨ok_iconst C (show decode cX4_readDeed 15 = .ok (.iconst 1, 1) from dk_at dq22_9 (i := 9) rfl) (by decide) rfl, ?_⟩
  refine List.forall_mem_cons.mpr ⟨ok_callV C h_X9_takeNumber ⟨rfl, rfl⟩ rfl kw_529 kw_926 kw_527 kw_528 kw_3 rfl ds_X9_takeNumber ⟨by decide, by decide⟩ (show decode cX4_readDeed 16 = .ok (.invokevirtual 70, 3) from dk_at dq22_9 (i := 10) rfl) rfl, ?_⟩
  refine List.forall_mem_cons.mpr ⟨ok_ifne C (show decode cX4_readDeed 19 = .ok (.ifCond .ne 5, 3) from dk_at dq22_9 (i := 11) rfl) (tg := 24) (by decide) rfl rfl, ?_⟩
  refine List.forall_mem_cons.mpr ⟨ok_iconst C (show decode cX4_readDeed 22 = .ok (.iconst 0, 1) from dk_at dq22_9 (i := 12) rfl) (by decide) rfl, ?_⟩
  refine List.forall_mem_cons.mpr ⟨ok_zret C rfl (show decode cX4_readDeed 23 = .ok (.ireturn, 1) from dk_at dq22_9 (i := 13) rfl), ?_⟩
  refine List.forall_mem_cons.mpr ⟨ok_iload C (show decode cX4_readDeed 24 = .ok (.iload 4, 2) from dk_at dq22_9 (i := 14) rfl) rfl, ?_⟩
  refine List.forall_mem_cons.mpr ⟨ok_aload_n C (show decode cX4_readDeed 26 = .ok (.aload_n 1, 1) from dk_at dq22_9 (i := 15) rfl) rfl rfl, ?_⟩
  refine List.forall_mem_cons.mpr ⟨ok_getf C (wi_X9) rfl (by decide) kw_67 (show decode cX4_readDeed 27 = .ok (.getfield 74, 3) from dk_at dq22_10 (i := 0) rfl) rfl, ?_⟩
  refine List.forall_mem_cons.mpr ⟨ok_callSN C h_X10_slotOf ⟨rfl, rfl⟩ kw_532 (host := "LackFerry") (by decide +kernel) kw_531 kw_1 ds_X10_slotOf ⟨by decide, by decide⟩ (show decode cX4_readDeed 30 = .ok (.invokestatic 77, 3) from dk_at dq22_10 (i := 1) rfl) rfl, ?_⟩
  refine List.forall_mem_cons.mpr ⟨ok_istore C (show decode cX4_readDeed 33 = .ok (.istore 5, 2) from dk_at dq22_10 (i := 2) rfl) (by decide) rfl, ?_⟩
  refine List.forall_mem_cons.mpr ⟨ok_aload_n C (show decode cX4_readDeed 35 = .ok (.aload_n 1, 1) from dk_at dq22_10 (i := 3) rfl) rfl rfl, ?_⟩
  refine List.forall_mem_cons.mpr ⟨ok_iconst C (show decode cX4_readDeed 36 = .ok (.iconst 1, 1) from dk_at dq22_10 (i := 4) rfl) (by decide) rfl, ?_⟩
  refine List.forall_mem_cons.mpr ⟨ok_sipush C (show decode cX4_readDeed 37 = .ok (.sipush 250, 3) from dk_at dq22_10 (i := 5) rfl) (by decide) rfl, ?_⟩
  refine List.forall_mem_cons.mpr ⟨ok_callV C h_X9_takeNumber ⟨rfl, rfl⟩ rfl kw_529 kw_926 kw_527 kw_528 kw_3 rfl ds_X9_takeNumber ⟨by decide, by decide⟩ (show decode cX4_readDeed 40 = .ok (.invokevirtual 70, 3) from dk_at dq22_10 (i := 6) rfl) rfl, ?_⟩
  refine List.forall_mem_cons.mpr ⟨ok_ifeq C (show decode cX4_readDeed 43 = .ok (.ifCond .eq 21, 3) from dk_at dq22_10 (i := 7) rfl) (tg := 64) (by decide) rfl rfl, ?_⟩
  refine List.forall_mem_cons.mpr ⟨ok_aload_n C (show decode cX4_readDeed 46 = .ok (.aload_n 0, 1) from dk_at dq22_10 (i := 8) rfl) rfl rfl, ?_⟩
  refine List.forall_mem_cons.mpr ⟨ok_iload_n C (show decode cX4_readDeed 47 = .ok (.iload_n 3, 1) from dk_at dq22_10 (i := 9) rfl) rfl rfl, ?_⟩
  refine List.forall_mem_cons.mpr ⟨ok_iload C (show decode cX4_readDeed 48 = .ok (.iload 5, 2) from dk_at dq22_10 (i := 10) rfl) rfl, ?_⟩
  refine List.forall_mem_cons.mpr ⟨ok_aload_n C (show decode cX4_readDeed 50 = .ok (.aload_n 1, 1) from dk_at dq22_10 (i := 11) rfl) rfl rfl, ?_⟩
  refine List.forall_mem_cons.mpr ⟨ok_getf C (wi_X9) rfl (by decide) kw_67 (show decode cX4_readDeed 51 = .ok (.getfield 74, 3) from dk_at dq22_10 (i := 12) rfl) rfl, ?_⟩
  refine List.forall_mem_cons.mpr ⟨ok_callV C h_X4_addLine ⟨rfl, rfl⟩ rfl kw_931 kw_928 kw_930 kp_33 kw_7 rfl ds_X4_addLine ⟨by decide, by decide⟩ (show decode cX4_readDeed 54 = .ok (.invokevirtual 81, 3) from dk_at dq22_10 (i := 13) rfl) rfl, ?_⟩
  refine List.forall_mem_cons.mpr ⟨ok_ifeq C (show decode cX4_readDeed 57 = .ok (.ifCond .eq 7, 3) from dk_at dq22_10 (i := 14) rfl) (tg := 64) (by decide) rfl rfl, ?_⟩
  refine List.forall_mem_cons.mpr ⟨ok_iconst C (show decode cX4_readDeed 60 = .ok (.iconst 1, 1) from dk_at dq22_10 (i := 15) rfl) (by decide) rfl, ?_⟩
  refine List.forall_mem_cons.mpr ⟨ok_goto C (show decode cX4_readDeed 61 = .ok (.goto 4, 3) from dk_at dq22_11 (i := 0) rfl) (tg := 65) (by decide) rfl, ?_⟩
  refine List.forall_mem_cons.mpr ⟨ok_iconst C (show decode cX4_readDeed 64 = .ok (.iconst 0, 1) from dk_at dq22_11 (i := 1) rfl) (by decide) rfl, ?_⟩
  refine List.forall_mem_cons.mpr ⟨ok_zret C rfl (show decode cX4_readDeed 65 = .ok (.ireturn, 1) from dk_at dq22_11 (i := 2) rfl), ?_⟩
  exact fun _ h => absurd h List.not_mem_nil
def L_X4_readDays (f_X9_takeNumber : List Value → ab_H → Option ab_O) (f_X4_addLine : List Value → ab_H → Option ab_O) : List (Nat × ab_A) := [
  (0, ab_nx 1 (ab_aload 1)),
  (1, ab_nx 2 (ab_lit (.int 1))),
  (2, ab_nx 4 (ab_lit (.int 60))),
  (4, ab_nx 7 (ab_callV 3 9 f_X9_takeNumber 0 0 0 0)),
  (7, ab_if 10 27 (fun x => decide (x = 0))),
  (10, ab_nx 11 (ab_aload 0)),
  (11, ab_nx 12 (ab_lit (.int 4))),
  (12, ab_nx 13 (ab_lit (.int 0))),
  (13, ab_nx 14 (ab_aload 1)),
  (14, ab_nx 17 (ab_getf 9 7)),
  (17, ab_nx 20 (ab_callV 4 4 f_X4_addLine 0 0 0 0)),
  (20, ab_if 23 27 (fun x => decide (x = 0))),
  (23, ab_nx 24 (ab_lit (.int 1))),
  (24, ab_goto 28),
  (27, ab_nx 28 (ab_lit (.int 0))),
  (28, ab_zret 0 0)]
set_option maxRecDepth 100000 in
theorem dq22_12 : ([(0, .aload_n 1, 1), (1, .iconst 1, 1), (2, .bipush 60, 2), (4, .invokevirtual 70, 3), (7, .ifCond .eq 20, 3), (10, .aload_n 0, 1), (11, .iconst 4, 1), (12, .iconst 0, 1), (13, .aload_n 1, 1), (14, .getfield 74, 3), (17, .invokevirtual 81, 3), (20, .ifCond .eq 7, 3), (23, .iconst 1, 1), (24, .goto 4, 3), (27, .iconst 0, 1), (28, .ireturn, 1)] : List (Nat × Instr × Nat)).all (fun q => decide (decode cX4_readDays q.1 = .ok q.2)) = true := by decide +kernel
set_option maxRecDepth 100000 in
set_option maxHeartbeats 4000000 in
theorem M_X4_readDays {l : Launch} {b : ab_B} {D : va_G} {cA : Nat → ClassId} {f_X9_takeNumber : List Value → ab_H → Option ab_O} (h_X9_takeNumber : ab_M l b D ab_cl cA (ab_E0 b) yX9_takeNumber (Cond.code yX9_takeNumber cX9_takeNumber 3 (some .boolean) :: ab_G) ({ frames := 2, cells := 0, slots := 0, locals := 200 } : Room) f_X9_takeNumber) {f_X4_addLine : List Value → ab_H → Option ab_O} (h_X4_addLine : ab_M l b D ab_cl cA (ab_E0 b) yX4_addLine (Cond.code yX4_addLine cX4_addLine 4 (some .boolean) :: ab_G) ({ frames := 1, cells := 0, slots := 0, locals := 100 } : Room) f_X4_addLine) : ab_M l b D ab_cl cA (ab_E0 b) yX4_readDays (Cond.code yX4_readDays cX4_readDays 2 (some .boolean) :: ab_G) ({ frames := 3, cells := 0, slots := 0, locals := 300 } : Room) (ab_X (ab_T (L_X4_readDays f_X9_takeNumber f_X4_addLine)) 2) := by
  refine ab_meth (ret := (some .boolean)) (L_X4_readDays f_X9_takeNumber f_X4_addLine) (by decide) rfl fun p e R s m args below meth c o C => ?_
  unfold L_X4_readDays
  refine List.forall_mem_cons.mpr ⟨ok_aload_n C (show decode cX4_readDays 0 = .ok (.aload_n 1, 1) from dk_at dq22_12 (i := 0) rfl) rfl rfl, ?_⟩
  refine List.forall_mem_cons.mpr ⟨ok_iconst C (show decode cX4_readDays 1 = .ok (.iconst 1, 1) from dk_at dq22_12 (i := 1) rfl) (by decide) rfl, ?_⟩
  refine List.forall_mem_cons.mpr ⟨ok_bipush C (show decode cX4_readDays 2 = .ok (.bipush 60, 2) from dk_at dq22_12 (i := 2) rfl) (by decide) rfl, ?_⟩
  refine List.forall_mem_cons.mpr ⟨ok_callV C h_X9_takeNumber ⟨rfl, rfl⟩ rfl kw_529 kw_926 kw_527 kw_528 kw_3 rfl ds_X9_takeNumber ⟨by decide, by decide⟩ (show decode cX4_readDays 4 = .ok (.invokevirtual 70, 3) from dk_at dq22_12 (i := 3) rfl) rfl, ?_⟩
  refine List.forall_mem_cons.mpr ⟨ok_ifeq C (show decode cX4_readDays 7 = .ok (.ifCond .eq 20, 3) from dk_at dq22_12 (i := 4) rfl) (tg := 27) (by decide) rfl rfl, ?_⟩
  refine List.forall_mem_cons.mpr ⟨ok_aload_n C (show decode cX4_readDays 10 = .ok (.aload_n 0, 1) from dk_at dq22_12 (i := 5) rfl) rfl rfl, ?_⟩
  refine List.forall_mem_cons.mpr ⟨ok_iconst C (show decode cX4_readDays 11 = .ok (.iconst 4, 1) from dk_at dq22_12 (i := 6) rfl) (by decide) rfl, ?_⟩
  refine List.forall_mem_cons.mpr ⟨ok_iconst C (show decode cX4_readDays 12 = .ok (.iconst 0, 1) from dk_at dq22_12 (i := 7) rfl) (by decide) rfl, ?_⟩
  refine List.forall_mem_cons.mpr ⟨ok_aload_n C (show decode cX4_readDays 13 = .ok (.aload_n 1, 1) from dk_at dq22_12 (i := 8) rfl) rfl rfl, ?_⟩
  refine List.forall_mem_cons.mpr ⟨ok_getf C (wi_X9) rfl (by decide) kw_67 (show decode cX4_readDays 14 = .ok (.getfield 74, 3) from dk_at dq22_12 (i := 9) rfl) rfl, ?_⟩
  refine List.forall_mem_cons.mpr ⟨ok_callV C h_X4_addLine ⟨rfl, rfl⟩ rfl kw_931 kw_928 kw_930 kp_33 kw_7 rfl ds_X4_addLine ⟨by decide, by decide⟩ (show decode cX4_readDays 17 = .ok (.invokevirtual 81, 3) from dk_at dq22_12 (i := 10) rfl) rfl, ?_⟩
  refine List.forall_mem_cons.mpr ⟨ok_ifeq C (show decode cX4_readDays 20 = .ok (.ifCond .eq 7, 3) from dk_at dq22_12 (i := 11) rfl) (tg := 27) (by decide) rfl rfl, ?_⟩
  refine List.forall_mem_cons.mpr ⟨ok_iconst C (show decode cX4_readDays 23 = .ok (.iconst 1, 1) from dk_at dq22_12 (i := 12) rfl) (by decide) rfl, ?_⟩
  refine List.forall_mem_cons.mpr ⟨ok_goto C (show decode cX4_readDays 24 = .ok (.goto 4, 3) from dk_at dq22_12 (i := 13) rfl) (tg := 28) (by decide) rfl, ?_⟩
  refine List.forall_mem_cons.mpr ⟨ok_iconst C (show decode cX4_readDays 27 = .ok (.iconst 0, 1) from dk_at dq22_12 (i := 14) rfl) (by decide) rfl, ?_⟩
  refine List.forall_mem_cons.mpr ⟨ok_zret C rfl (show decode cX4_readDays 28 = .ok (.ireturn, 1) from dk_at dq22_12 (i := 15) rfl), ?_⟩
  exact fun _ h => absurd h List.not_mem_nil
def L_X4_readDeath (f_X9_step : List Value → ab_H → Option ab_O) (f_X4_addLine : List Value → ab_H → Option ab_O) (f_X9_fail : List Value → ab_H → Option ab_O) : List (Nat × ab_A) := [
  (0, ab_nx 1 (ab_aload 1)),
  (1, ab_nx 4 (ab_callV 1 9 f_X9_step 0 0 0 0)),
  (4, ab_nx 5 (ab_aload 1)),
  (5, ab_nx 8 (ab_getf 9 5)),
  (8, ab_nx 10 (ab_lit (.int 75))),
  (10, ab_icmp 13 23 (fun x y => !decide (x = y))),
  (13, ab_nx 14 (ab_aload 0)),
  (14, ab_nx 15 (ab_lit (.int 3))),
  (15, ab_nx 16 (ab_iload 2)),
  (16, ab_nx 17 (ab_lit (.int 0))),
  (17, ab_nx 20 (ab_callV 4 4 f_X4_addLine 0 0 0 0)),
  (20, ab_goto 28),
  (23, ab_nx 24 (ab_aload 1)),
  (24, ab_nx 25 (ab_lit (.int 1))),
  (25, ab_nx 28 (ab_callV 2 9 f_X9_fail 0 0 0 0)),
  (28, ab_zret 0 0)]
set_option maxRecDepth 100000 in
theorem dq22_13 : ([(0, .aload_n 1, 1), (1, .invokevirtual 25, 3), (4, .aload_n 1, 1), (5, .getfield 30, 3), (8, .bipush 75, 2), (10, .if_icmp .ne 13, 3), (13, .aload_n 0, 1), (14, .iconst 3, 1), (15, .iload_n 2, 1), (16, .iconst 0, 1), (17, .invokevirtual 81, 3), (20, .goto 8, 3), (23, .aload_n 1, 1), (24, .iconst 1, 1), (25, .invokevirtual 41, 3), (28, .ireturn, 1)] : List (Nat × Instr × Nat)).all (fun q => decide (decode cX4_readDeath q.1 = .ok q.2)) = true := by decide +kernel
set_option maxRecDepth 100000 in
set_option maxHeartbeats 4000000 in
theorem M_X4_readDeath {l : Launch} {b : ab_B} {D : va_G} {cA : Nat → ClassId} {f_X9_step : List Value → ab_H → Option ab_O} (h_X9_step : ab_M l b D ab_cl cA (ab_E0 b) yX9_step (Cond.code yX9_step cX9_step 1 none :: ab_G) ({ frames := 1, cells := 0, slots := 0, locals := 100 } : Room) f_X9_step) {f_X4_addLine : List Value → ab_H → Option ab_O} (h_X4_addLine : ab_M l b D ab_cl cA (ab_E0 b) yX4_addLine (Cond.code yX4_addLine cX4_addLine 4 (some .boolean) :: ab_G) ({ frames := 1, cells := 0, slots := 0, locals := 100 } : Room) f_X4_addLine) {f_X9_fail : List Value → ab_H → Option ab_O} (h_X9_fail : ab_M l b D ab_cl cA (ab_E0 b) yX9_fail (Cond.code yX9_fail cX9_fail 2 (some .boolean) :: ab_G) ({ frames := 1, cells := 0, slots := 0, locals := 100 } : Room) f_X9_fail) : ab_M l b D ab_cl cA (ab_E0 b) yX4_readDeath (Cond.code yX4_readDeath cX4_readDeath 3 (some .boolean) :: ab_G) ({ frames := 2, cells := 0, slots := 0, locals := 200 } : Room) (ab_X (ab_T (L_X4_readDeath f_X9_step f_X4_addLine f_X9_fail)) 3) := by
  refine ab_meth (ret := (some .boolean)) (L_X4_readDeath f_X9_step f_X4_addLine f_X9_fail) (by decide) rfl fun p e R s m args below meth c o C => ?_
  unfold L_X4_readDeath
  refine List.forall_mem_cons.mpr ⟨ok_aload_n C (show decode cX4_readDeath 0 = .ok (.aload_n 1, 1) from dk_at dq22_13 (i := 0) rfl) rfl rfl, ?_⟩
  refine List.forall_mem_cons.mpr ⟨ok_callV C h_X9_step ⟨rfl, rfl⟩ rfl kw_499 kw_914 kw_497 kw_498 kw_3 rfl ds_X9_step ⟨by decide, by decide⟩ (show decode cX4_readDeath 1 = .ok (.invokevirtual 25, 3) from dk_at dq22_13 (i := 1) rfl) rfl, ?_⟩
  refine List.forall_mem_cons.mpr ⟨ok_aload_n C (show decode cX4_readDeath 4 = .ok (.aload_n 1, 1) from dk_at dq22_13 (i := 2) rfl) rfl rfl, ?_⟩
  refine List.forall_mem_cons.mpr ⟨ok_getf C (wi_X9) rfl (by decide) kw_61 (show decode cX4_readDeath 5 = .ok (.getfield 30, 3) from dk_at dq22_13 (i := 3) rfl) rfl, ?_⟩
  refine List.forall_mem_cons.mpr ⟨ok_bipush C (show decode cX4_readDeath 8 = .ok (.bipush 75, 2) from dk_at dq22_13 (i := 4) rfl) (by decide) rfl, ?_⟩
  refine List.forall_mem_cons.mpr ⟨ok_icmpne C (show decode cX4_readDeath 10 = .ok (.if_icmp .ne 13, 3) from dk_at dq22_13 (i := 5) rfl) (tg := 23) (by decide) rfl rfl, ?_⟩
  refine List.forall_mem_cons.mpr ⟨ok_aload_n C (show decode cX4_readDeath 13 = .ok (.aload_n 0, 1) from dk_at dq22_13 (i := 6) rfl) rfl rfl, ?_⟩
  refine List.forall_mem_cons.mpr ⟨ok_iconst C (show decode cX4_readDeath 14 = .ok (.iconst 3, 1) from dk_at dq22_13 (i := 7) rfl) (by decide) rfl, ?_⟩
  refine List.forall_mem_cons.mpr ⟨ok_iload_n C (show decode cX4_readDeath 15 = .ok (.iload_n 2, 1) from dk_at dq22_13 (i := 8) rfl) rfl rfl, ?_⟩
  refine List.forall_mem_cons.mpr ⟨ok_iconst C (show decode cX4_readDeath 16 = .ok (.iconst 0, 1) from dk_at dq22_13 (i := 9) rfl) (by decide) rfl, ?_⟩
  refine List.forall_mem_cons.mpr ⟨ok_callV C h_X4_addLine ⟨rfl, rfl⟩ rfl kw_931 kw_928 kw_930 kp_33 kw_7 rfl ds_X4_addLine ⟨by decide, by decide⟩ (show decode cX4_readDeath 17 = .ok (.invokevirtual 81, 3) from dk_at dq22_13 (i := 10) rfl) rfl, ?_⟩
  refine List.forall_mem_cons.mpr ⟨ok_goto C (show decode cX4_readDeath 20 = .ok (.goto 8, 3) from dk_at dq22_13 (i := 11) rfl) (tg := 28) (by decide) rfl, ?_⟩
  refine List.forall_mem_cons.mpr ⟨ok_aload_n C (show decode cX4_readDeath 23 = .ok (.aload_n 1, 1) from dk_at dq22_13 (i := 12) rfl) rfl rfl, ?_⟩
  refine List.forall_mem_cons.mpr ⟨ok_iconst C (show decode cX4_readDeath 24 = .ok (.iconst 1, 1) from dk_at dq22_13 (i := 13) rfl) (by decide) rfl, ?_⟩
  refine List.forall_mem_cons.mpr ⟨ok_callV C h_X9_fail ⟨rfl, rfl⟩ rfl kw_520 kw_919 kw_518 kw_519 kw_3 rfl ds_X9_fail ⟨by decide, by decide⟩ (show decode cX4_readDeath 25 = .ok (.invokevirtual 41, 3) from dk_at dq22_13 (i := 14) rfl) rfl, ?_⟩
  refine List.forall_mem_cons.mpr ⟨ok_zret C rfl (show decode cX4_readDeath 28 = .ok (.ireturn, 1) from dk_at dq22_13 (i := 15) rfl), ?_⟩
  exact fun _ h => absurd h List.not_mem_nil
def L_X4_readLine (f_X9_fail : List Value → ab_H → Option ab_O) (f_X7_manNamed : List Value → ab_H → Option ab_O) (f_X4_readDeed : List Value → ab_H → Option ab_O) (f_X4_readDays : List Value → ab_H → Option ab_O) (f_X4_readDeath : List Value → ab_H → Option ab_O) : List (Nat × ab_A) := [
  (0, ab_nx 1 (ab_aload 1)),
  (1, ab_nx 4 (ab_getf 9 5)),
  (4, ab_nx 5 (ab_istore 3)),
  (5, ab_nx 6 (ab_iload 3)),
  (6, ab_nx 8 (ab_lit (.int 72))),
  (8, ab_icmp 11 21 (fun x y => decide (x < y))),
  (11, ab_nx 12 (ab_iload 3)),
  (12, ab_nx 14 (ab_lit (.int 74))),
  (14, ab_icmp 17 21 (fun x y => decide (y < x))),
  (17, ab_nx 18 (ab_lit (.int 1))),
  (18, ab_goto 22),
  (21, ab_nx 22 (ab_lit (.int 0))),
  (22, ab_nx 24 (ab_istore 4)),
  (24, ab_nx 26 (ab_iload 4)),
  (26, ab_if 29 46 (fun x => !decide (x = 0))),
  (29, ab_nx 30 (ab_iload 3)),
  (30, ab_nx 32 (ab_lit (.int 76))),
  (32, ab_icmp 35 46 (fun x y => decide (x = y))),
  (35, ab_nx 36 (ab_iload 3)),
  (36, ab_nx 37 (ab_lit (.int 2))),
  (37, ab_icmp 40 46 (fun x y => decide (x = y))),
  (40, ab_nx 41 (ab_aload 1)),
  (41, ab_nx 42 (ab_lit (.int 1))),
  (42, ab_nx 45 (ab_callV 2 9 f_X9_fail 0 0 0 0)),
  (45, ab_zret 0 0),
  (46, ab_nx 47 (ab_iload 3)),
  (47, ab_nx 48 (ab_lit (.int 2))),
  (48, ab_icmp 51 62 (fun x y => !decide (x = y))),
  (51, ab_nx 52 (ab_aload 2)),
  (52, ab_nx 53 (ab_aload 1)),
  (53, ab_nx 56 (ab_getf 9 8)),
  (56, ab_nx 59 (ab_callV 2 7 f_X7_manNamed 0 0 0 0)),
  (59, ab_goto 63),
  (62, ab_nx 63 (ab_lit (.int (-1)))),
  (63, ab_nx 65 (ab_istore 5)),
  (65, ab_nx 66 (ab_iload 3)),
  (66, ab_nx 67 (ab_lit (.int 2))),
  (67, ab_icmp 70 82 (fun x y => !decide (x = y))),
  (70, ab_nx 72 (ab_iload 5)),
  (72, ab_nx 73 (ab_lit (.int (-1)))),
  (73, ab_icmp 76 82 (fun x y => !decide (x = y))),
  (76, ab_nx 77 (ab_aload 1)),
  (77, ab_nx 78 (ab_lit (.int 3))),
  (78, ab_nx 81 (ab_callV 2 9 f_X9_fail 0 0 0 0)),
  (81, ab_zret 0 0),
  (82, ab_nx 83 (ab_aload 0)),
  (83, ab_nx 86 (ab_getf 4 3)),
  (86, ab_nx 88 (ab_lit (.int 40))),
  (88, ab_icmp 91 97 (fun x y => decide (x < y))),
  (91, ab_nx 92 (ab_aload 1)),
  (92, ab_nx 93 (ab_lit (.int 4))),
  (93, ab_nx 96 (ab_callV 2 9 f_X9_fail 0 0 0 0)),
  (96, ab_zret 0 0),
  (97, ab_nx 99 (ab_iload 4)),
  (99, ab_if 102 113 (fun x => decide (x = 0))),
  (102, ab_nx 103 (ab_aload 0)),
  (103, ab_nx 104 (ab_aload 1)),
  (104, ab_nx 105 (ab_aload 2)),
  (105, ab_nx 106 (ab_iload 3)),
  (106, ab_nx 108 (ab_lit (.int 72))),
  (108, ab_nx 109 (ab_bin (fun x y => x - y))),
  (109, ab_nx 112 (ab_callV 4 4 f_X4_readDeed 0 0 0 0)),
  (112, ab_zret 0 0),
  (113, ab_nx 114 (ab_iload 3)),
  (114, ab_nx 116 (ab_lit (.int 76))),
  (116, ab_icmp 119 127 (fun x y => !decide (x = y))),
  (119, ab_nx 120 (ab_aload 0)),
  (120, ab_nx 121 (ab_aload 1)),
  (121, ab_nx 124 (ab_callV 2 4 f_X4_readDays 0 0 0 0)),
  (124, ab_goto 134),
  (127, ab_nx 128 (ab_aload 0)),
  (128, ab_nx 129 (ab_aload 1)),
  (129, ab_nx 131 (ab_iload 5)),
  (131, ab_nx 134 (ab_callV 3 4 f_X4_readDeath 0 0 0 0)),
  (134, ab_zret 0 0)]
set_option maxRecDepth 100000 in
theorem dq22_14 : ([(0, .aload_n 1, 1), (1, .getfield 30, 3), (4, .istore_n 3, 1), (5, .iload_n 3, 1), (6, .bipush 72, 2), (8, .if_icmp .lt 13, 3), (11, .iload_n 3, 1), (12, .bipush 74, 2), (14, .if_icmp .gt 7, 3), (17, .iconst 1, 1), (18, .goto 4, 3), (21, .iconst 0, 1), (22, .istore 4, 2), (24, .iload 4, 2), (26, .ifCond .ne 20, 3), (29, .iload_n 3, 1)] : List (Nat × Instr × Nat)).all (fun q => decide (decode cX4_readLine q.1 = .ok q.2)) = true := by decide +kernel
set_option maxRecDepth 100000 in
theorem dq22_15 : ([(30, .bipush 76, 2), (32, .if_icmp .eq 14, 3), (35, .iload_n 3, 1), (36, .iconst 2, 1), (37, .if_icmp .eq 9, 3), (40, .aload_n 1, 1), (41, .iconst 1, 1), (42, .invokevirtual 41, 3), (45, .ireturn, 1), (46, .iload_n 3, 1), (47, .iconst 2, 1), (48, .if_icmp .ne 14, 3), (51, .aload_n 2, 1), (52, .aload_n 1, 1), (53, .getfield 44, 3), (56, .invokevirtual 48, 3)] : List (Nat × Instr × Nat)).all (fun q => decide (decode cX4_readLine q.1 = .ok q.2)) = true := by decide +kernel
set_option maxRecDepth 100000 in
theorem dq22_16 : ([(59, .goto 4, 3), (62, .iconst (-1), 1), (63, .istore 5, 2), (65, .iload_n 3, 1), (66, .iconst 2, 1), (67, .if_icmp .ne 15, 3), (70, .iload 5, 2), (72, .iconst (-1), 1), (73, .if_icmp .ne 9, 3), (76, .aload_n 1, 1), (77, .iconst 3, 1), (78, .invokevirtual 41, 3), (81, .ireturn, 1), (82, .aload_n 0, 1), (83, .getfield 21, 3), (86, .bipush 40, 2)] : List (Nat × Instr × Nat)).all (fun q => decide (decode cX4_readLine q.1 = .ok q.2)) = true := by decide +kernel
set_option maxRecDepth 100000 in
theorem dq22_17 : ([(88, .if_icmp .lt 9, 3), (91, .aload_n 1, 1), (92, .iconst 4, 1), (93, .invokevirtual 41, 3), (96, .ireturn, 1), (97, .iload 4, 2), (99, .ifCond .eq 14, 3), (102, .aload_n 0, 1), (103, .aload_n 1, 1), (104, .aload_n 2, 1), (105, .iload_n 3, 1), (106, .bipush 72, 2), (108, .isub, 1), (109, .invokevirtual 54, 3), (112, .ireturn, 1), (113, .iload_n 3, 1)] : List (Nat × Instr × Nat)).all (fun q => decide (decode cX4_readLine q.1 = .ok q.2)) = true := by decide +kernel
set_option maxRecDepth 100000 in
theorem dq22_18 : ([(114, .bipush 76, 2), (116, .if_icmp .ne 11, 3), (119, .aload_n 0, 1), (120, .aload_n 1, 1), (121, .invokevirtual 58, 3), (124, .goto 10, 3), (127, .aload_n 0, 1), (128, .aload_n 1, 1), (129, .iload 5, 2), (131, .invokevirtual 62, 3), (134, .ireturn, 1)] : List (Nat × Instr × Nat)).all (fun q => decide (decode cX4_readLine q.1 = .ok q.2)) = true := by decide +kernel
set_option maxRecDepth 100000 in
set_option maxHeartbeats 4000000 in
theorem M_X4_readLine {l : Launch} {b : ab_B} {D : va_G} {cA : Nat → ClassId} {f_X9_fail : List Value → ab_H → Option ab_O} (h_X9_fail : ab_M l b D ab_cl cA (ab_E0 b) yX9_fail (Cond.code yX9_fail cX9_fail 2 (some .boolean) :: ab_G) ({ frames := 1, cells := 0, slots := 0, locals := 100 } : Room) f_X9_fail) {f_X7_manNamed : List Value → ab_H → Option ab_O} (h_X7_manNamed : ab_M l b D ab_cl cA (ab_E0 b) yX7_manNamed (Cond.code yX7_manNamed cX7_manNamed 4 (some .int) :: ab_G) ({ frames := 1, cells := 0, slots := 0, locals := 100 } : Room) f_X7_manNamed) {f_X4_readDeed : List Value → ab_H → Option ab_O} (h_X4_readDeed : ab_M l b D ab_cl cA (ab_E0 b) yX4_readDeed (Cond.code yX4_readDeed cX4_readDeed 6 (some .boolean) :: ab_G) ({ frames := 4, cells := 0, slots := 0, locals := 400 } : Room) f_X4_readDeed) {f_X4_readDays : List Value → ab_H → Option ab_O} (h_X4_readDays : ab_M l b D ab_cl cA (ab_E0 b) yX4_readDays (Cond.code yX4_readDays cX4_readDays 2 (some .boolean) :: ab_G) ({ frames := 3, cells := 0, slots := 0, locals := 300 } : Room) f_X4_readDays) {f_X4_readDeath : List Value → ab_H → Option ab_O} (h_X4_readDeath : ab_M l b D ab_cl cA (ab_E0 b) yX4_readDeath (Cond.code yX4_readDeath cX4_readDeath 3 (some .boolean) :: ab_G) ({ frames := 2, cells := 0, slots := 0, locals := 200 } : Room) f_X4_readDeath) : ab_M l b D ab_cl cA (ab_E0 b) yX4_readLine (Cond.code yX4_readLine cX4_readLine 6 (some .boolean) :: ab_G) ({ frames := 5, cells := 0, slots := 0, locals := 500 } : Room) (ab_X (ab_T (L_X4_readLine f_X9_fail f_X7_manNamed f_X4_readDeed f_X4_readDays f_X4_readDeath)) 6) := by
  refine ab_meth (ret := (some .boolean)) (L_X4_readLine f_X9_fail f_X7_manNamed f_X4_readDeed f_X4_readDays f_X4_readDeath) (by decide) rfl fun p e R s m args below meth c o C => ?_
  unfold L_X4_readLine
  refine List.forall_mem_cons.mpr ⟨ok_aload_n C (show decode cX4_readLine 0 = .ok (.aload_n 1, 1) from dk_at dq22_14 (i := 0) rfl) rfl rfl, ?_⟩
  refine List.forall_mem_cons.mpr ⟨ok_getf C (wi_X9) rfl (by decide) kw_61 (show decode cX4_readLine 1 = .ok (.getfield 30, 3) from dk_at dq22_14 (i := 1) rfl) rfl, ?_⟩
  refine List.forall_mem_cons.mpr ⟨ok_istore_n C (show decode cX4_readLine 4 = .ok (.istore_n 3, 1) from dk_at dq22_14 (i := 2) rfl) rfl (by decide) rfl, ?_⟩
  refine List.forall_mem_cons.mpr ⟨ok_iload_n C (show decode cX4_readLine 5 = .ok (.iload_n 3, 1) from dk_at dq22_14 (i := 3) rfl) rfl rfl, ?_⟩
  refine List.forall_mem_cons.mpr ⟨ok_bipush C (show decode cX4_readLine 6 = .ok (.bipush 72, 2) from dk_at dq22_14 (i := 4) rfl) (by decide) rfl, ?_⟩
  refine List.forall_mem_cons.mpr ⟨ok_icmplt C (show decode cX4_readLine 8 = .ok (.if_icmp .lt 13, 3) from dk_at dq22_14 (i := 5) rfl) (tg := 21) (by decide) rfl rfl, ?_⟩
  refine List.forall_mem_cons.mpr ⟨ok_iload_n C (show decode cX4_readLine 11 = .ok (.iload_n 3, 1) from dk_at dq22_14 (i := 6) rfl) rfl rfl, ?_⟩
  refine List.forall_mem_cons.mpr ⟨ok_bipush C (show decode cX4_readLine 12 = .ok (.bipush 74, 2) from dk_at dq22_14 (i := 7) rfl) (by decide) rfl, ?_⟩
  refine List.forall_mem_cons.mpr ⟨ok_icmpgt C (show decode cX4_readLine 14 = .ok (.if_icmp .gt 7, 3) from dk_at dq22_14 (i := 8) rfl) (tg := 21) (by decide) rfl rfl, ?_⟩
  refine List.forall_mem_cons.mpr ⟨ok_iconst C (show decode cX4_readLine 17 = .ok (.iconst 1, 1) from dk_at dq22_14 (i := 9) rfl) (by decide) rfl, ?_⟩
  refine List.forall_mem_cons.mpr ⟨ok_goto C (show decode cX4_readLine 18 = .ok (.goto 4, 3) from dk_at dq22_14 (i := 10) rfl) (tg := 22) (by decide) rfl, ?_⟩
  refine List.forall_mem_cons.mpr ⟨ok_iconst C (show decode cX4_readLine 21 = .ok (.iconst 0, 1) from dk_at dq22_14 (i := 11) rfl) (by decide) rfl, ?_⟩
  refine List.forall_mem_cons.mpr ⟨ok_istore C (show decode cX4_readLine 22 = .ok (.istore 4, 2) from dk_at dq22_14 (i := 12) rfl) (by decide) rfl, ?_⟩
  refine List.forall_mem_cons.mpr ⟨ok_iload C (show decode cX4_readLine 24 = .ok (.iload 4, 2) from dk_at dq22_14 (i := 13) rfl) rfl, ?_⟩
  refine List.forall_mem_cons.mpr ⟨ok_ifne C (show decode cX4_readLine 26 = .ok (.ifCond .ne 20, 3) from dk_at dq22_14 (i := 14) rfl) (tg := 46) (by decide) rfl rfl, ?_⟩
  refine List.forall_mem_cons.mpr ⟨ok_iload_n C (show decode cX4_readLine 29 = .ok (.iload_n 3, 1) from dk_at dq22_14 (i := 15) rfl) rfl rfl, ?_⟩
  refine List.forall_mem_cons.mpr ⟨ok_bipush C (show decode cX4_readLine 30 = .ok (.bipush 76, 2) from dk_at dq22_15 (i := 0) rfl) (by decide) rfl, ?_⟩
  refine List.forall_mem_cons.mpr ⟨ok_icmpeq C (show decode cX4_readLine 32 = .ok (.if_icmp .eq 14, 3) from dk_at dq22_15 (i := 1) rfl) (tg := 46) (by decide) rfl rfl, ?_⟩
  refine List.forall_mem_cons.mpr ⟨ok_iload_n C (show decode cX4_readLine 35 = .ok (.iload_n 3, 1) from dk_at dq22_15 (i := 2) rfl) rfl rfl, ?_⟩
  refine List.forall_mem_cons.mpr ⟨ok_iconst C (show decode cX4_readLine 36 = .ok (.iconst 2, 1) from dk_at dq22_15 (i := 3) rfl) (by decide) rfl, ?_⟩
  refine List.forall_mem_cons.mpr ⟨ok_icmpeq C (show decode cX4_readLine 37 = .ok (.if_icmp .eq 9, 3) from dk_at dq22_15 (i := 4) rfl) (tg := 46) (by decide) rfl rfl, ?_⟩
  refine List.forall_mem_cons.mpr ⟨ok_aload_n C (show decode cX4_readLine 40 = .ok (.aload_n 1, 1) from dk_at dq22_15 (i := 5) rfl) rfl rfl, ?_⟩
  refine List.forall_mem_cons.mpr ⟨ok_iconst C (show decode cX4_readLine 41 = .ok (.iconst 1, 1) from dk_at dq22_15 (i := 6) rfl) (by decide) rfl, ?_⟩
  refine List.forall_mem_cons.mpr ⟨ok_callV C h_X9_fail ⟨rfl, rfl⟩ rfl kw_520 kw_919 kw_518 kw_519 kw_3 rfl ds_X9_fail ⟨by decide, by decide⟩ (show decode cX4_readLine 42 = .ok (.invokevirtual 41, 3) from dk_at dq22_15 (i := 7) rfl) rfl, ?_⟩
  refine List.forall_mem_cons.mpr ⟨ok_zret C rfl (show decode cX4_readLine 45 = .ok (.ireturn, 1) from dk_at dq22_15 (i := 8) rfl), ?_⟩
  refine List.forall_mem_cons.mpr ⟨ok_iload_n C (show decode cX4_readLine 46 = .ok (.iload_n 3, 1) from dk_at dq22_15 (i := 9) rfl) rfl rfl, ?_⟩
  refine List.forall_mem_cons.mpr ⟨ok_iconst C (show decode cX4_readLine 47 = .ok (.iconst 2, 1) from dk_at dq22_15 (i := 10) rfl) (by decide) rfl, ?_⟩
  refine List.forall_mem_cons.mpr ⟨ok_icmpne C (show decode cX4_readLine 48 = .ok (.if_icmp .ne 14, 3) from dk_at dq22_15 (i := 11) rfl) (tg := 62) (by decide) rfl rfl, ?_⟩
  refine List.forall_mem_cons.mpr ⟨ok_aload_n C (show decode cX4_readLine 51 = .ok (.aload_n 2, 1) from dk_at dq22_15 (i := 12) rfl) rfl rfl, ?_⟩
  refine List.forall_mem_cons.mpr ⟨ok_aload_n C (show decode cX4_readLine 52 = .ok (.aload_n 1, 1) from dk_at dq22_15 (i := 13) rfl) rfl rfl, ?_⟩
  refine List.forall_mem_cons.mpr ⟨ok_getf C (wi_X9) rfl (by decide) kw_71 (show decode cX4_readLine 53 = .ok (.getfield 44, 3) from dk_at dq22_15 (i := 14) rfl) rfl, ?_⟩
  refine List.forall_mem_cons.mpr ⟨ok_callV C h_X7_manNamed ⟨rfl, rfl⟩ rfl kw_548 kw_920 kw_546 kw_547 kw_9 rfl ds_X7_manNamed ⟨by decide, by decide⟩ (show decode cX4_readLine 56 = .ok (.invokevirtual 48, 3) from dk_at dq22_15 (i := 15) rfl) rfl, ?_⟩
  refine List.forall_mem_cons.mpr ⟨ok_goto C (show decode cX4_readLine 59 = .ok (.goto 4, 3) from dk_at dq22_16 (i := 0) rfl) (tg := 63) (by decide) rfl, ?_⟩
  refine List.forall_mem_cons.mpr ⟨ok_iconst C (show decode cX4_readLine 62 = .ok (.iconst (-1), 1) from dk_at dq22_16 (i := 1) rfl) (by decide) rfl, ?_⟩
  refine List.forall_mem_cons.mpr ⟨ok_istore C (show decode cX4_readLine 63 = .ok (.istore 5, 2) from dk_at dq22_16 (i := 2) rfl) (by decide) rfl, ?_⟩
  refine List.forall_mem_cons.mpr ⟨ok_iload_n C (show decode cX4_readLine 65 = .ok (.iload_n 3, 1) from dk_at dq22_16 (i := 3) rfl) rfl rfl, ?_⟩
  refine List.forall_mem_cons.mpr ⟨ok_iconst C (show decode cX4_readLine 66 = .ok (.iconst 2, 1) from dk_at dq22_16 (i := 4) rfl) (by decide) rfl, ?_⟩
  refine List.forall_mem_cons.mpr ⟨ok_icmpne C (show decode cX4_readLine 67 = .ok (.if_icmp .ne 15, 3) from dk_at dq22_16 (i := 5) rfl) (tg := 82) (by decide) rfl rfl, ?_⟩
  refine List.forall_mem_cons.mpr ⟨ok_iload C (show decode cX4_readLine 70 = .ok (.iload 5, 2) from dk_at dq22_16 (i := 6) rfl) rfl, ?_⟩
  refine List.forall_mem_cons.mpr ⟨ok_iconst C (show decode cX4_readLine 72 = .ok (.iconst (-1), 1) from dk_at dq22_16 (i := 7) rfl) (by decide) rfl, ?_⟩
  refine List.forall_mem_cons.mpr ⟨ok_icmpne C (show decode cX4_readLine 73 = .ok (.if_icmp .ne 9, 3) from dk_at dq22_16 (i := 8) rfl) (tg := 82) (by decide) rfl rfl, ?_⟩
  refine List.forall_mem_cons.mpr ⟨ok_aload_n C (show decode cX4_readLine 76 = .ok (.aload_n 1, 1) from dk_at dq22_16 (i := 9) rfl) rfl rfl, ?_⟩
  refine List.forall_mem_cons.mpr ⟨ok_iconst C (show decode cX4_readLine 77 = .ok (.iconst 3, 1) from dk_at dq22_16 (i := 10) rfl) (by decide) rfl, ?_⟩
  refine List.forall_mem_cons.mpr ⟨ok_callV C h_X9_fail ⟨rfl, rfl⟩ rfl kw_520 kw_919 kw_518 kw_519 kw_3 rfl ds_X9_fail ⟨by decide, by decide⟩ (show decode cX4_readLine 78 = .ok (.invokevirtual 41, 3) from dk_at dq22_16 (i := 11) rfl) rfl, ?_⟩
  refine List.forall_mem_cons.mpr ⟨ok_zret C rfl (show decode cX4_readLine 81 = .ok (.ireturn, 1) from dk_at dq22_16 (i := 12) rfl), ?_⟩
  refine List.forall_mem_cons.mpr ⟨ok_aload_n C (show decode cX4_readLine 82 = .ok (.aload_n 0, 1) from dk_at dq22_16 (i := 13) rfl) rfl rfl, ?_⟩
  refine List.forall_mem_cons.mpr ⟨ok_getf C (wi_X4) rfl (by decide) kw_204 (show decode cX4_readLine 83 = .ok (.getfield 21, 3) from dk_at dq22_16 (i := 14) rfl) rfl, ?_⟩
  refine List.forall_mem_cons.mpr ⟨ok_bipush C (show decode cX4_readLine 86 = .ok (.bipush 40, 2) from dk_at dq22_16 (i := 15) rfl) (by decide) rfl, ?_⟩
  refine List.forall_mem_cons.mpr ⟨ok_icmplt C (show decode cX4_readLine 88 = .ok (.if_icmp .lt 9, 3) from dk_at dq22_17 (i := 0) rfl) (tg := 97) (by decide) rfl rfl, ?_⟩
  refine List.forall_mem_cons.mpr ⟨ok_aload_n C (show decode cX4_readLine 91 = .ok (.aload_n 1, 1) from dk_at dq22_17 (i := 1) rfl) rfl rfl, ?_⟩
  refine List.forall_mem_cons.mpr ⟨ok_iconst C (show decode cX4_readLine 92 = .ok (.iconst 4, 1) from dk_at dq22_17 (i := 2) rfl) (by decide) rfl, ?_⟩
  refine List.forall_mem_cons.mpr ⟨ok_callV C h_X9_fail ⟨rfl, rfl⟩ rfl kw_520 kw_919 kw_518 kw_519 kw_3 rfl ds_X9_fail ⟨by decide, by decide⟩ (show decode cX4_readLine 93 = .ok (.invokevirtual 41, 3) from dk_at dq22_17 (i := 3) rfl) rfl, ?_⟩
  refine List.forall_mem_cons.mpr ⟨ok_zret C rfl (show decode cX4_readLine 96 = .ok (.ireturn, 1) from dk_at dq22_17 (i := 4) rfl), ?_⟩
  refine List.forall_mem_cons.mpr ⟨ok_iload C (show decode cX4_readLine 97 = .ok (.iload 4, 2) from dk_at dq22_17 (i := 5) rfl) rfl, ?_⟩
  refine List.forall_mem_cons.mpr ⟨ok_ifeq C (show decode cX4_readLine 99 = .ok (.ifCond .eq 14, 3) from dk_at dq22_17 (i := 6) rfl) (tg := 113) (by decide) rfl rfl, ?_⟩
  refine List.forall_mem_cons.mpr ⟨ok_aload_n C (show decode cX4_readLine 102 = .ok (.aload_n 0, 1) from dk_at dq22_17 (i := 7) rfl) rfl rfl, ?_⟩
  refine List.forall_mem_cons.mpr ⟨ok_aload_n C (show decode cX4_readLine 103 = .ok (.aload_n 1, 1) from dk_at dq22_17 (i := 8) rfl) rfl rfl, ?_⟩
  refine List.forall_mem_cons.mpr ⟨ok_aload_n C (show decode cX4_readLine 104 = .ok (.aload_n 2, 1) from dk_at dq22_17 (i := 9) rfl) rfl rfl, ?_⟩
  refine List.forall_mem_cons.mpr ⟨ok_iload_n C (show decode cX4_readLine 105 = .ok (.iload_n 3, 1) from dk_at dq22_17 (i := 10) rfl) rfl rfl, ?_⟩
  refine List.forall_mem_cons.mpr ⟨ok_bipush C (show decode cX4_readLine 106 = .ok (.bipush 72, 2) from dk_at dq22_17 (i := 11) rfl) (by decide) rfl, ?_⟩
  refine List.forall_mem_cons.mpr ⟨ok_isub C (show decode cX4_readLine 108 = .ok (.isub, 1) from dk_at dq22_17 (i := 12) rfl) rfl, ?_⟩
  refine List.forall_mem_cons.mpr ⟨ok_callV C h_X4_readDeed ⟨rfl, rfl⟩ rfl kw_924 kw_921 kw_923 kp_32 kw_7 rfl ds_X4_readDeed ⟨by decide, by decide⟩ (show decode cX4_readLine 109 = .ok (.invokevirtual 54, 3) from dk_at dq22_17 (i := 13) rfl) rfl, ?_⟩
  refine List.forall_mem_cons.mpr ⟨ok_zret C rfl (show decode cX4_readLine 112 = .ok (.ireturn, 1) from dk_at dq22_17 (i := 14) rfl), ?_⟩
  refine List.forall_mem_cons.mpr ⟨ok_iload_n C (show decode cX4_readLine 113 = .ok (.iload_n 3, 1) from dk_at dq22_17 (i := 15) rfl) rfl rfl, ?_⟩
  refine List.forall_mem_cons.mpr ⟨ok_bipush C (show decode cX4_readLine 114 = .ok (.bipush 76, 2) from dk_at dq22_18 (i := 0) rfl) (by decide) rfl, ?_⟩
  refine List.forall_mem_cons.mpr ⟨ok_icmpne C (show decode cX4_readLine 116 = .ok (.if_icmp .ne 11, 3) from dk_at dq22_18 (i := 1) rfl) (tg := 127) (by decide) rfl rfl, ?_⟩
  refine List.forall_mem_cons.mpr ⟨ok_aload_n C (show decode cX4_readLine 119 = .ok (.aload_n 0, 1) from dk_at dq22_18 (i := 2) rfl) rfl rfl, ?_⟩
  refine List.forall_mem_cons.mpr ⟨ok_aload_n C (show decode cX4_readLine 120 = .ok (.aload_n 1, 1) from dk_at dq22_18 (i := 3) rfl) rfl rfl, ?_⟩
  refine List.forall_mem_cons.mpr ⟨ok_callV C h_X4_readDays ⟨rfl, rfl⟩ rfl kw_935 kw_932 kw_934 kp_34 kw_7 rfl ds_X4_readDays ⟨by decide, by decide⟩ (show decode cX4_readLine 121 = .ok (.invokevirtual 58, 3) from dk_at dq22_18 (i := 4) rfl) rfl, ?_⟩
  refine List.forall_mem_cons.mpr ⟨ok_goto C (show decode cX4_readLine 124 = .ok (.goto 10, 3) from dk_at dq22_18 (i := 5) rfl) (tg := 134) (by decide) rfl, ?_⟩
  refine List.forall_mem_cons.mpr ⟨ok_aload_n C (show decode cX4_readLine 127 = .ok (.aload_n 0, 1) from dk_at dq22_18 (i := 6) rfl) rfl rfl, ?_⟩
  refine List.forall_mem_cons.mpr ⟨ok_aload_n C (show decode cX4_readLine 128 = .ok (.aload_n 1, 1) from dk_at dq22_18 (i := 7) rfl) rfl rfl, ?_⟩
  refine List.forall_mem_cons.mpr ⟨ok_iload C (show decode cX4_readLine 129 = .ok (.iload 5, 2) from dk_at dq22_18 (i := 8) rfl) rfl, ?_⟩
  refine List.forall_mem_cons.mpr ⟨ok_callV C h_X4_readDeath ⟨rfl, rfl⟩ rfl kw_939 kw_936 kw_938 kp_35 kw_7 rfl ds_X4_readDeath ⟨by decide, by decide⟩ (show decode cX4_readLine 131 = .ok (.invokevirtual 62, 3) from dk_at dq22_18 (i := 9) rfl) rfl, ?_⟩
  refine List.forall_mem_cons.mpr ⟨ok_zret C rfl (show decode cX4_readLine 134 = .ok (.ireturn, 1) from dk_at dq22_18 (i := 10) rfl), ?_⟩
  exact fun _ h => absurd h List.not_mem_nil
def L_X9_takeSign (f_X9_step : List Value → ab_H → Option ab_O) (f_X9_fail : List Value → ab_H → Option ab_O) : List (Nat × ab_A) := [
  (0, ab_nx 1 (ab_aload 0)),
  (1, ab_nx 4 (ab_callV 1 9 f_X9_step 0 0 0 0)),
  (4, ab_nx 5 (ab_aload 0)),
  (5, ab_nx 8 (ab_getf 9 5)),
  (8, ab_nx 9 (ab_iload 1)),
  (9, ab_icmp 12 20 (fun x y => decide (x = y))),
  (12, ab_nx 13 (ab_aload 0)),
  (13, ab_nx 14 (ab_lit (.int 1))),
  (14, ab_nx 17 (ab_callV 2 9 f_X9_fail 0 0 0 0)),
  (17, ab_if 20 24 (fun x => decide (x = 0))),
  (20, ab_nx 21 (ab_lit (.int 1))),
  (21, ab_goto 25),
  (24, ab_nx 25 (ab_lit (.int 0))),
  (25, ab_zret 0 0)]
set_option maxRecDepth 100000 in
theorem dq22_19 : ([(0, .aload_n 0, 1), (1, .invokevirtual 45, 3), (4, .aload_n 0, 1), (5, .getfield 32, 3), (8, .iload_n 1, 1), (9, .if_icmp .eq 11, 3), (12, .aload_n 0, 1), (13, .iconst 1, 1), (14, .invokevirtual 48, 3), (17, .ifCond .eq 7, 3), (20, .iconst 1, 1), (21, .goto 4, 3), (24, .iconst 0, 1), (25, .ireturn, 1)] : List (Nat × Instr × Nat)).all (fun q => decide (decode cX9_takeSign q.1 = .ok q.2)) = true := by decide +kernel
set_option maxRecDepth 100000 in
set_option maxHeartbeats 4000000 in
theorem M_X9_takeSign {l : Launch} {b : ab_B} {D : va_G} {cA : Nat → ClassId} {f_X9_step : List Value → ab_H → Option ab_O} (h_X9_step : ab_M l b D ab_cl cA (ab_E0 b) yX9_step (Cond.code yX9_step cX9_step 1 none :: ab_G) ({ frames := 1, cells := 0, slots := 0, locals := 100 } : Room) f_X9_step) {f_X9_fail : List Value → ab_H → Option ab_O} (h_X9_fail : ab_M l b D ab_cl cA (ab_E0 b) yX9_fail (Cond.code yX9_fail cX9_fail 2 (some .boolean) :: ab_G) ({ frames := 1, cells := 0, slots := 0, locals := 100 } : Room) f_X9_fail) : ab_M l b D ab_cl cA (ab_E0 b) yX9_takeSign (Cond.code yX9_takeSign cX9_takeSign 2 (some .boolean) :: ab_G) ({ frames := 2, cells := 0, slots := 0, locals := 200 } : Room) (ab_X (ab_T (L_X9_takeSign f_X9_step f_X9_fail)) 2) := by
  refine ab_meth (ret := (some .boolean)) (L_X9_takeSign f_X9_step f_X9_fail) (by decide) rfl fun p e R s m args below meth c o C => ?_
  unfold L_X9_takeSign
  refine List.forall_mem_cons.mpr ⟨ok_aload_n C (show decode cX9_takeSign 0 = .ok (.aload_n 0, 1) from dk_at dq22_19 (i := 0) rfl) rfl rfl, ?_⟩
  refine List.forall_mem_cons.mpr ⟨ok_callV C h_X9_step ⟨rfl, rfl⟩ rfl kw_499 kw_516 kw_497 kw_498 kw_3 rfl ds_X9_step ⟨by decide, by decide⟩ (show decode cX9_takeSign 1 = .ok (.invokevirtual 45, 3) from dk_at dq22_19 (i := 1) rfl) rfl, ?_⟩
  refine List.forall_mem_cons.mpr ⟨ok_aload_n C (show decode cX9_takeSign 4 = .ok (.aload_n 0, 1) from dk_at dq22_19 (i := 2) rfl) rfl rfl, ?_⟩
  refine List.forall_mem_cons.mpr ⟨ok_getf C (wi_X9) rfl (by decide) kw_63 (show decode cX9_takeSign 5 = .ok (.getfield 32, 3) from dk_at dq22_19 (i := 3) rfl) rfl, ?_⟩
  refine List.forall_mem_cons.mpr ⟨ok_iload_n C (show decode cX9_takeSign 8 = .ok (.iload_n 1, 1) from dk_at dq22_19 (i := 4) rfl) rfl rfl, ?_⟩
  refine List.forall_mem_cons.mpr ⟨ok_icmpeq C (show decode cX9_takeSign 9 = .ok (.if_icmp .eq 11, 3) from dk_at dq22_19 (i := 5) rfl) (tg := 20) (by decide) rfl rfl, ?_⟩
  refine List.forall_mem_cons.mpr ⟨ok_aload_n C (show decode cX9_takeSign 12 = .ok (.aload_n 0, 1) from dk_at dq22_19 (i := 6) rfl) rfl rfl, ?_⟩
  refine List.forall_mem_cons.mpr ⟨ok_iconst C (show decode cX9_takeSign 13 = .ok (.iconst 1, 1) from dk_at dq22_19 (i := 7) rfl) (by decide) rfl, ?_⟩
  refine List.forall_mem_cons.mpr ⟨ok_callV C h_X9_fail ⟨rfl, rfl⟩ rfl kw_520 kw_517 kw_518 kw_519 kw_3 rfl ds_X9_fail ⟨by decide, by decide⟩ (show decode cX9_takeSign 14 = .ok (.invokevirtual 48, 3) from dk_at dq22_19 (i := 8) rfl) rfl, ?_⟩
  refine List.forall_mem_cons.mpr ⟨ok_ifeq C (show decode cX9_takeSign 17 = .ok (.ifCond .eq 7, 3) from dk_at dq22_19 (i := 9) rfl) (tg := 24) (by decide) rfl rfl, ?_⟩
  refine List.forall_mem_cons.mpr ⟨ok_iconst C (show decode cX9_takeSign 20 = .ok (.iconst 1, 1) from dk_at dq22_19 (i := 10) rfl) (by decide) rfl, ?_⟩
  refine List.forall_mem_cons.mpr ⟨ok_goto C (show decode cX9_takeSign 21 = .ok (.goto 4, 3) from dk_at dq22_19 (i := 11) rfl) (tg := 25) (by decide) rfl, ?_⟩
  refine List.forall_mem_cons.mpr ⟨ok_iconst C (show decode cX9_takeSign 24 = .ok (.iconst 0, 1) from dk_at dq22_19 (i := 12) rfl) (by decide) rfl, ?_⟩
  refine List.forall_mem_cons.mpr ⟨ok_zret C rfl (show decode cX9_takeSign 25 = .ok (.ireturn, 1) from dk_at dq22_19 (i := 13) rfl), ?_⟩
  exact fun _ h => absurd h List.not_mem_nil
def L_X4_readText (f_X9_step : List Value → ab_H → Option ab_O) (f_X4_readLine : List Value → ab_H → Option ab_O) (f_X9_takeSign : List Value → ab_H → Option ab_O) : List (Nat × ab_A) := [
  (0, ab_nx 1 (ab_aload 0)),
  (1, ab_nx 2 (ab_lit (.int 0))),
  (2, ab_nx 5 (ab_putf 4 3 0)),
  (5, ab_nx 6 (ab_lit (.int 1))),
  (6, ab_nx 7 (ab_istore 3)),
  (7, ab_nx 8 (ab_lit (.int 0))),
  (8, ab_nx 10 (ab_istore 4)),
  (10, ab_nx 12 (ab_iload 4)),
  (12, ab_nx 14 (ab_lit (.int 40))),
  (14, ab_icmp 17 62 (fun x y => decide (y < x))),
  (17, ab_nx 18 (ab_iload 3)),
  (18, ab_if 21 62 (fun x => decide (x = 0))),
  (21, ab_nx 22 (ab_aload 1)),
  (22, ab_nx 25 (ab_callV 1 9 f_X9_step 0 0 0 0)),
  (25, ab_nx 26 (ab_aload 1)),
  (26, ab_nx 29 (ab_getf 9 5)),
  (29, ab_if 32 54 (fun x => decide (x = 0))),
  (32, ab_nx 33 (ab_aload 0)),
  (33, ab_nx 34 (ab_aload 1)),
  (34, ab_nx 35 (ab_aload 2)),
  (35, ab_nx 38 (ab_callV 3 4 f_X4_readLine 0 0 0 0)),
  (38, ab_if 41 54 (fun x => decide (x = 0))),
  (41, ab_nx 42 (ab_aload 1)),
  (42, ab_nx 44 (ab_lit (.int 59))),
  (44, ab_nx 47 (ab_callV 2 9 f_X9_takeSign 0 0 0 0)),
  (47, ab_if 50 54 (fun x => decide (x = 0))),
  (50, ab_nx 51 (ab_lit (.int 1))),
  (51, ab_goto 55),
  (54, ab_nx 55 (ab_lit (.int 0))),
  (55, ab_nx 56 (ab_istore 3)),
  (56, ab_nx 59 (ab_iinc 4 1)),
  (59, ab_goto 10),
  (62, ab_vret 0 0)]
set_option maxRecDepth 100000 in
theorem dq22_20 : ([(0, .aload_n 0, 1), (1, .iconst 0, 1), (2, .putfield 21, 3), (5, .iconst 1, 1), (6, .istore_n 3, 1), (7, .iconst 0, 1), (8, .istore 4, 2), (10, .iload 4, 2), (12, .bipush 40, 2), (14, .if_icmp .gt 48, 3), (17, .iload_n 3, 1), (18, .ifCond .eq 44, 3), (21, .aload_n 1, 1), (22, .invokevirtual 25, 3), (25, .aload_n 1, 1), (26, .getfield 30, 3)] : List (Nat × Instr × Nat)).all (fun q => decide (decode cX4_readText q.1 = .ok q.2)) = true := by decide +kernel
set_option maxRecDepth 100000 in
theorem dq22_21 : ([(29, .ifCond .eq 25, 3), (32, .aload_n 0, 1), (33, .aload_n 1, 1), (34, .aload_n 2, 1), (35, .invokevirtual 33, 3), (38, .ifCond .eq 16, 3), (41, .aload_n 1, 1), (42, .bipush 59, 2), (44, .invokevirtual 37, 3), (47, .ifCond .eq 7, 3), (50, .iconst 1, 1), (51, .goto 4, 3), (54, .iconst 0, 1), (55, .istore_n 3, 1), (56, .iinc 4 1, 3), (59, .goto (-49), 3)] : List (Nat × Instr × Nat)).all (fun q => decide (decode cX4_readText q.1 = .ok q.2)) = true := by decide +kernel
set_option maxRecDepth 100000 in
theorem dq22_22 : ([(62, .return_, 1)] : List (Nat × Instr × Nat)).all (fun q => decide (decode cX4_readText q.1 = .ok q.2)) = true := by decide +kernel
set_option maxRecDepth 100000 in
set_option maxHeartbeats 4000000 in
theorem M_X4_readText {l : Launch} {b : ab_B} {D : va_G} {cA : Nat → ClassId} {f_X9_step : List Value → ab_H → Option ab_O} (h_X9_step : ab_M l b D ab_cl cA (ab_E0 b) yX9_step (Cond.code yX9_step cX9_step 1 none :: ab_G) ({ frames := 1, cells := 0, slots := 0, locals := 100 } : Room) f_X9_step) {f_X4_readLine : List Value → ab_H → Option ab_O} (h_X4_readLine : ab_M l b D ab_cl cA (ab_E0 b) yX4_readLine (Cond.code yX4_readLine cX4_readLine 6 (some .boolean) :: ab_G) ({ frames := 5, cells := 0, slots := 0, locals := 500 } : Room) f_X4_readLine) {f_X9_takeSign : List Value → ab_H → Option ab_O} (h_X9_takeSign : ab_M l b D ab_cl cA (ab_E0 b) yX9_takeSign (Cond.code yX9_takeSign cX9_takeSign 2 (some .boolean) :: ab_G) ({ frames := 2, cells := 0, slots := 0, locals := 200 } : Room) f_X9_takeSign) : ab_M l b D ab_cl cA (ab_E0 b) yX4_readText (Cond.code yX4_readText cX4_readText 5 none :: ab_G) ({ frames := 6, cells := 0, slots := 0, locals := 600 } : Room) (ab_X (ab_T (L_X4_readText f_X9_step f_X4_readLine f_X9_takeSign)) 5) := by
  refine ab_meth (ret := none) (L_X4_readText f_X9_step f_X4_readLine f_X9_takeSign) (by decide) rfl fun p e R s m args below meth c o C => ?_
  unfold L_X4_readText
  refine List.forall_mem_cons.mpr ⟨ok_aload_n C (show decode cX4_readText 0 = .ok (.aload_n 0, 1) from dk_at dq22_20 (i := 0) rfl) rfl rfl, ?_⟩
  refine List.forall_mem_cons.mpr ⟨ok_iconst C (show decode cX4_readText 1 = .ok (.iconst 0, 1) from dk_at dq22_20 (i := 1) rfl) (by decide) rfl, ?_⟩
  refine List.forall_mem_cons.mpr ⟨ok_putf C (wi_X4) tyX4 tyX4_ok nmX4 rfl (by decide) kw_204 (Or.inl rfl) (Or.inl ⟨rfl, rfl⟩) (show decode cX4_readText 2 = .ok (.putfield 21, 3) from dk_at dq22_20 (i := 2) rfl) rfl, ?_⟩
  refine List.forall_mem_cons.mpr ⟨ok_iconst C (show decode cX4_readText 5 = .ok (.iconst 1, 1) from dk_at dq22_20 (i := 3) rfl) (by decide) rfl, ?_⟩
  refine List.forall_mem_cons.mpr ⟨ok_istore_n C (show decode cX4_readText 6 = .ok (.istore_n 3, 1) from dk_at dq22_20 (i := 4) rfl) rfl (by decide) rfl, ?_⟩
  refine List.forall_mem_cons.mpr ⟨ok_iconst C (show decode cX4_readText 7 = .ok (.iconst 0, 1) from dk_at dq22_20 (i := 5) rfl) (by decide) rfl, ?_⟩
  refine List.forall_mem_cons.mpr ⟨ok_istore C (show decode cX4_readText 8 = .ok (.istore 4, 2) from dk_at dq22_20 (i := 6) rfl) (by decide) rfl, ?_⟩
  refine List.forall_mem_cons.mpr ⟨ok_iload C (show decode cX4_readText 10 = .ok (.iload 4, 2) from dk_at dq22_20 (i := 7) rfl) rfl, ?_⟩
  refine List.forall_mem_cons.mpr ⟨ok_bipush C (show decode cX4_readText 12 = .ok (.bipush 40, 2) from dk_at dq22_20 (i := 8) rfl) (by decide) rfl, ?_⟩
  refine List.forall_mem_cons.mpr ⟨ok_icmpgt C (show decode cX4_readText 14 = .ok (.if_icmp .gt 48, 3) from dk_at dq22_20 (i := 9) rfl) (tg := 62) (by decide) rfl rfl, ?_⟩
  refine List.forall_mem_cons.mpr ⟨ok_iload_n C (show decode cX4_readText 17 = .ok (.iload_n 3, 1) from dk_at dq22_20 (i := 10) rfl) rfl rfl, ?_⟩
  refine List.forall_mem_cons.mpr ⟨ok_ifeq C (show decode cX4_readText 18 = .ok (.ifCond .eq 44, 3) from dk_at dq22_20 (i := 11) rfl) (tg := 62) (by decide) rfl rfl, ?_⟩
  refine List.forall_mem_cons.mpr ⟨ok_aload_n C (show decode cX4_readText 21 = .ok (.aload_n 1, 1) from dk_at dq22_20 (i := 12) rfl) rfl rfl, ?_⟩
  refine List.forall_mem_cons.mpr ⟨ok_callV C h_X9_step ⟨rfl, rfl⟩ rfl kw_499 kw_914 kw_497 kw_498 kw_3 rfl ds_X9_step ⟨by decide, by decide⟩ (show decode cX4_readText 22 = .ok (.invokevirtual 25, 3) from dk_at dq22_20 (i := 13) rfl) rfl, ?_⟩
  refine List.forall_mem_cons.mpr ⟨ok_aload_n C (show decode cX4_readText 25 = .ok (.aload_n 1, 1) from dk_at dq22_20 (i := 14) rfl) rfl rfl, ?_⟩
  refine List.forall_mem_cons.mpr ⟨ok_getf C (wi_X9) rfl (by decide) kw_61 (show decode cX4_readText 26 = .ok (.getfield 30, 3) from dk_at dq22_20 (i := 15) rfl) rfl, ?_⟩
  refine List.forall_mem_cons.mpr ⟨ok_ifeq C (show decode cX4_readText 29 = .ok (.ifCond .eq 25, 3) from dk_at dq22_21 (i := 0) rfl) (tg := 54) (by decide) rfl rfl, ?_⟩
  refine List.forall_mem_cons.mpr ⟨ok_aload_n C (show decode cX4_readText 32 = .ok (.aload_n 0, 1) from dk_at dq22_21 (i := 1) rfl) rfl rfl, ?_⟩
  refine List.forall_mem_cons.mpr ⟨ok_aload_n C (show decode cX4_readText 33 = .ok (.aload_n 1, 1) from dk_at dq22_21 (i := 2) rfl) rfl rfl, ?_⟩
  refine List.forall_mem_cons.mpr ⟨ok_aload_n C (show decode cX4_readText 34 = .ok (.aload_n 2, 1) from dk_at dq22_21 (i := 3) rfl) rfl rfl, ?_⟩
  refine List.forall_mem_cons.mpr ⟨ok_callV C h_X4_readLine ⟨rfl, rfl⟩ rfl kw_918 kw_915 kw_917 kp_31 kw_7 rfl ds_X4_readLine ⟨by decide, by decide⟩ (show decode cX4_readText 35 = .ok (.invokevirtual 33, 3) from dk_at dq22_21 (i := 4) rfl) rfl, ?_⟩
  refine List.forall_mem_cons.mpr ⟨ok_ifeq C (show decode cX4_readText 38 = .ok (.ifCond .eq 16, 3) from dk_at dq22_21 (i := 5) rfl) (tg := 54) (by decide) rfl rfl, ?_⟩
  refine List.forall_mem_cons.mpr ⟨ok_aload_n C (show decode cX4_readText 41 = .ok (.aload_n 1, 1) from dk_at dq22_21 (i := 6) rfl) rfl rfl, ?_⟩
  refine List.forall_mem_cons.mpr ⟨ok_bipush C (show decode cX4_readText 42 = .ok (.bipush 59, 2) from dk_at dq22_21 (i := 7) rfl) (by decide) rfl, ?_⟩
  refine List.forall_mem_cons.mpr ⟨ok_callV C h_X9_takeSign ⟨rfl, rfl⟩ rfl kw_568 kw_940 kw_566 kw_567 kw_3 rfl ds_X9_takeSign ⟨by decide, by decide⟩ (show decode cX4_readText 44 = .ok (.invokevirtual 37, 3) from dk_at dq22_21 (i := 8) rfl) rfl, ?_⟩
  refine List.forall_mem_cons.mpr ⟨ok_ifeq C (show decode cX4_readText 47 = .ok (.ifCond .eq 7, 3) from dk_at dq22_21 (i := 9) rfl) (tg := 54) (by decide) rfl rfl, ?_⟩
  refine List.forall_mem_cons.mpr ⟨ok_iconst C (show decode cX4_readText 50 = .ok (.iconst 1, 1) from dk_at dq22_21 (i := 10) rfl) (by decide) rfl, ?_⟩
  refine List.forall_mem_cons.mpr ⟨ok_goto C (show decode cX4_readText 51 = .ok (.goto 4, 3) from dk_at dq22_21 (i := 11) rfl) (tg := 55) (by decide) rfl, ?_⟩
  refine List.forall_mem_cons.mpr ⟨ok_iconst C (show decode cX4_readText 54 = .ok (.iconst 0, 1) from dk_at dq22_21 (i := 12) rfl) (by decide) rfl, ?_⟩
  refine List.forall_mem_cons.mpr ⟨ok_istore_n C (show decode cX4_readText 55 = .ok (.istore_n 3, 1) from dk_at dq22_21 (i := 13) rfl) rfl (by decide) rfl, ?_⟩
  refine List.forall_mem_cons.mpr ⟨ok_iinc C (show decode cX4_readText 56 = .ok (.iinc 4 1, 3) from dk_at dq22_21 (i := 14) rfl) (by decide) (by decide) rfl, ?_⟩
  refine List.forall_mem_cons.mpr ⟨ok_goto C (show decode cX4_readText 59 = .ok (.goto (-49), 3) from dk_at dq22_21 (i := 15) rfl) (tg := 10) (by decide) rfl, ?_⟩
  refine List.forall_mem_cons.mpr ⟨ok_vret C rfl (show decode cX4_readText 62 = .ok (.return_, 1) from dk_at dq22_22 (i := 0) rfl), ?_⟩
  exact fun _ h => absurd h List.not_mem_nil
def L_X5_copyFrom : List (Nat × ab_A) := [
  (0, ab_nx 1 (ab_aload 1)),
  (1, ab_nx 4 (ab_getf 5 0)),
  (4, ab_nx 5 (ab_lit (.int 0))),
  (5, ab_nx 6 (ab_aload 0)),
  (6, ab_nx 9 (ab_getf 5 0)),
  (9, ab_nx 10 (ab_lit (.int 0))),
  (10, ab_nx 12 (ab_lit (.int 40))),
  (12, ab_nx 15 ab_copy),
  (15, ab_nx 16 (ab_aload 1)),
  (16, ab_nx 19 (ab_getf 5 1)),
  (19, ab_nx 20 (ab_lit (.int 0))),
  (20, ab_nx 21 (ab_aload 0)),
  (21, ab_nx 24 (ab_getf 5 1)),
  (24, ab_nx 25 (ab_lit (.int 0))),
  (25, ab_nx 27 (ab_lit (.int 40))),
  (27, ab_nx 30 ab_copy),
  (30, ab_nx 31 (ab_aload 1)),
  (31, ab_nx 34 (ab_getf 5 2)),
  (34, ab_nx 35 (ab_lit (.int 0))),
  (35, ab_nx 36 (ab_aload 0)),
  (36, ab_nx 39 (ab_getf 5 2)),
  (39, ab_nx 40 (ab_lit (.int 0))),
  (40, ab_nx 42 (ab_lit (.int 40))),
  (42, ab_nx 45 ab_copy),
  (45, ab_nx 46 (ab_aload 0)),
  (46, ab_nx 47 (ab_aload 1)),
  (47, ab_nx 50 (ab_getf 5 3)),
  (50, ab_nx 53 (ab_putf 5 3 0)),
  (53, ab_nx 54 (ab_aload 0)),
  (54, ab_nx 55 (ab_aload 1)),
  (55, ab_nx 58 (ab_getf 5 4)),
  (58, ab_nx 61 (ab_putf 5 4 0)),
  (61, ab_nx 62 (ab_aload 0)),
  (62, ab_nx 63 (ab_aload 1)),
  (63, ab_nx 66 (ab_getf 5 5)),
  (66, ab_nx 69 (ab_putf 5 5 3)),
  (69, ab_vret 0 0)]
set_option maxRecDepth 100000 in
theorem dq22_23 : ([(0, .aload_n 1, 1), (1, .getfield 11, 3), (4, .iconst 0, 1), (5, .aload_n 0, 1), (6, .getfield 11, 3), (9, .iconst 0, 1), (10, .bipush 40, 2), (12, .invokestatic 21, 3), (15, .aload_n 1, 1), (16, .getfield 15, 3), (19, .iconst 0, 1), (20, .aload_n 0, 1), (21, .getfield 15, 3), (24, .iconst 0, 1), (25, .bipush 40, 2), (27, .invokestatic 21, 3)] : List (Nat × Instr × Nat)).all (fun q => decide (decode cX5_copyFrom q.1 = .ok q.2)) = true := by decide +kernel
set_option maxRecDepth 100000 in
theorem dq22_24 : ([(30, .aload_n 1, 1), (31, .getfield 18, 3), (34, .iconst 0, 1), (35, .aload_n 0, 1), (36, .getfield 18, 3), (39, .iconst 0, 1), (40, .bipush 40, 2), (42, .invokestatic 21, 3), (45, .aload_n 0, 1), (46, .aload_n 1, 1), (47, .getfield 27, 3), (50, .putfield 27, 3), (53, .aload_n 0, 1), (54, .aload_n 1, 1), (55, .getfield 31, 3), (58, .putfield 31, 3)] : List (Nat × Instr × Nat)).all (fun q => decide (decode cX5_copyFrom q.1 = .ok q.2)) = true := by decide +kernel
set_option maxRecDepth 100000 in
theorem dq22_25 : ([(61, .aload_n 0, 1), (62, .aload_n 1, 1), (63, .getfield 34, 3), (66, .putfield 34, 3), (69, .return_, 1)] : List (Nat × Instr × Nat)).all (fun q => decide (decode cX5_copyFrom q.1 = .ok q.2)) = true := by decide +kernel
set_option maxRecDepth 100000 in
set_option maxHeartbeats 4000000 in
theorem M_X5_copyFrom {l : Launch} {b : ab_B} {D : va_G} {cA : Nat → ClassId} : ab_M l b D ab_cl cA (ab_E0 b) yX5_copyFrom (Cond.code yX5_copyFrom cX5_copyFrom 2 none :: ab_G) ({ frames := 2, cells := 0, slots := 0, locals := 200 } : Room) (ab_X (ab_T L_X5_copyFrom) 2) := by
  refine ab_meth (ret := none) L_X5_copyFrom (by decide) rfl fun p e R s m args below meth c o C => ?_
  unfold L_X5_copyFrom
  refine List.forall_mem_cons.mpr ⟨ok_aload_n C (show decode cX5_copyFrom 0 = .ok (.aload_n 1, 1) from dk_at dq22_23 (i := 0) rfl) rfl rfl, ?_⟩
  refine List.forall_mem_cons.mpr ⟨ok_getf C (wi_X5) rfl (by decide) kw_294 (show decode cX5_copyFrom 1 = .ok (.getfield 11, 3) from dk_at dq22_23 (i := 1) rfl) rfl, ?_⟩
  refine List.forall_mem_cons.mpr ⟨ok_iconst C (show decode cX5_copyFrom 4 = .ok (.iconst 0, 1) from dk_at dq22_23 (i := 2) rfl) (by decide) rfl, ?_⟩
  refine List.forall_mem_cons.mpr ⟨ok_aload_n C (show decode cX5_copyFrom 5 = .ok (.aload_n 0, 1) from dk_at dq22_23 (i := 3) rfl) rfl rfl, ?_⟩
  refine List.forall_mem_cons.mpr ⟨ok_getf C (wi_X5) rfl (by decide) kw_294 (show decode cX5_copyFrom 6 = .ok (.getfield 11, 3) from dk_at dq22_23 (i := 4) rfl) rfl, ?_⟩
  refine List.forall_mem_cons.mpr ⟨ok_iconst C (show decode cX5_copyFrom 9 = .ok (.iconst 0, 1) from dk_at dq22_23 (i := 5) rfl) (by decide) rfl, ?_⟩
  refine List.forall_mem_cons.mpr ⟨ok_bipush C (show decode cX5_copyFrom 10 = .ok (.bipush 40, 2) from dk_at dq22_23 (i := 6) rfl) (by decide) rfl, ?_⟩
  refine List.forall_mem_cons.mpr ⟨ok_copy C kw_1054 kw_727 kw_726 kw_21 ⟨by decide, by decide +kernel⟩ (show decode cX5_copyFrom 12 = .ok (.invokestatic 21, 3) from dk_at dq22_23 (i := 7) rfl) rfl, ?_⟩
  refine List.forall_mem_cons.mpr ⟨ok_aload_n C (show decode cX5_copyFrom 15 = .ok (.aload_n 1, 1) from dk_at dq22_23 (i := 8) rfl) rfl rfl, ?_⟩
  refine List.forall_mem_cons.mpr ⟨ok_getf C (wi_X5) rfl (by decide) kw_295 (show decode cX5_copyFrom 16 = .ok (.getfield 15, 3) from dk_at dq22_23 (i := 9) rfl) rfl, ?_⟩
  refine List.forall_mem_cons.mpr ⟨ok_iconst C (show decode cX5_copyFrom 19 = .ok (.iconst 0, 1) from dk_at dq22_23 (i := 10) rfl) (by decide) rfl, ?_⟩
  refine List.forall_mem_cons.mpr ⟨ok_aload_n C (show decode cX5_copyFrom 20 = .ok (.aload_n 0, 1) from dk_at dq22_23 (i := 11) rfl) rfl rfl, ?_⟩
  refine List.forall_mem_cons.mpr ⟨ok_getf C (wi_X5) rfl (by decide) kw_295 (show decode cX5_copyFrom 21 = .ok (.getfield 15, 3) from dk_at dq22_23 (i := 12) rfl) rfl, ?_⟩
  refine List.forall_mem_cons.mpr ⟨ok_iconst C (show decode cX5_copyFrom 24 = .ok (.iconst 0, 1) from dk_at dq22_23 (i := 13) rfl) (by decide) rfl, ?_⟩
  refine List.forall_mem_cons.mpr ⟨ok_bipush C (show decode cX5_copyFrom 25 = .ok (.bipush 40, 2) from dk_at dq22_23 (i := 14) rfl) (by decide) rfl, ?_⟩
  refine List.forall_mem_cons.mpr ⟨ok_copy C kw_1054 kw_727 kw_726 kw_21 ⟨by decide, by decide +kernel⟩ (show decode cX5_copyFrom 27 = .ok (.invokestatic 21, 3) from dk_at dq22_23 (i := 15) rfl) rfl, ?_⟩
  refine List.forall_mem_cons.mpr ⟨ok_aload_n C (show decode cX5_copyFrom 30 = .ok (.aload_n 1, 1) from dk_at dq22_24 (i := 0) rfl) rfl rfl, ?_⟩
  refine List.forall_mem_cons.mpr ⟨ok_getf C (wi_X5) rfl (by decide) kw_296 (show decode cX5_copyFrom 31 = .ok (.getfield 18, 3) from dk_at dq22_24 (i := 1) rfl) rfl, ?_⟩
  refine List.forall_mem_cons.mpr ⟨ok_iconst C (show decode cX5_copyFrom 34 = .ok (.iconst 0, 1) from dk_at dq22_24 (i := 2) rfl) (by decide) rfl, ?_⟩
  refine List.forall_mem_cons.mpr ⟨ok_aload_n C (show decode cX5_copyFrom 35 = .ok (.aload_n 0, 1) from dk_at dq22_24 (i := 3) rfl) rfl rfl, ?_⟩
  refine List.forall_mem_cons.mpr ⟨ok_getf C (wi_X5) rfl (by decide) kw_296 (show decode cX5_copyFrom 36 = .ok (.getfield 18, 3) from dk_at dq22_24 (i := 4) rfl) rfl, ?_⟩
  refine List.forall_mem_cons.mpr ⟨ok_iconst C (show decode cX5_copyFrom 39 = .ok (.iconst 0, 1) from dk_at dq22_24 (i := 5) rfl) (by decide) rfl, ?_⟩
  refine List.forall_mem_cons.mpr ⟨ok_bipush C (show decode cX5_copyFrom 40 = .ok (.bipush 40, 2) from dk_at dq22_24 (i := 6) rfl) (by decide) rfl, ?_⟩
  refine List.forall_mem_cons.mpr ⟨ok_copy C kw_1054 kw_727 kw_726 kw_21 ⟨by decide, by decide +kernel⟩ (show decode cX5_copyFrom 42 = .ok (.invokestatic 21, 3) from dk_at dq22_24 (i := 7) rfl) rfl, ?_⟩
  refine List.forall_mem_cons.mpr ⟨ok_aload_n C (show decode cX5_copyFrom 45 = .ok (.aload_n 0, 1) from dk_at dq22_24 (i := 8) rfl) rfl rfl, ?_⟩
  refine List.forall_mem_cons.mpr ⟨ok_aload_n C (show decode cX5_copyFrom 46 = .ok (.aload_n 1, 1) from dk_at dq22_24 (i := 9) rfl) rfl rfl, ?_⟩
  refine List.forall_mem_cons.mpr ⟨ok_getf C (wi_X5) rfl (by decide) kw_297 (show decode cX5_copyFrom 47 = .ok (.getfield 27, 3) from dk_at dq22_24 (i := 10) rfl) rfl, ?_⟩
  refine List.forall_mem_cons.mpr ⟨ok_putf C (wi_X5) tyX5 tyX5_ok nmX5 rfl (by decide) kw_297 (Or.inl rfl) (Or.inl ⟨rfl, rfl⟩) (show decode cX5_copyFrom 50 = .ok (.putfield 27, 3) from dk_at dq22_24 (i := 11) rfl) rfl, ?_⟩
  refine List.forall_mem_cons.mpr ⟨ok_aload_n C (show decode cX5_copyFrom 53 = .ok (.aload_n 0, 1) from dk_at dq22_24 (i := 12) rfl) rfl rfl, ?_⟩
  refine List.forall_mem_cons.mpr ⟨ok_aload_n C (show decode cX5_copyFrom 54 = .ok (.aload_n 1, 1) from dk_at dq22_24 (i := 13) rfl) rfl rfl, ?_⟩
  refine List.forall_mem_cons.mpr ⟨ok_getf C (wi_X5) rfl (by decide) kw_298 (show decode cX5_copyFrom 55 = .ok (.getfield 31, 3) from dk_at dq22_24 (i := 14) rfl) rfl, ?_⟩
  refine List.forall_mem_cons.mpr ⟨ok_putf C (wi_X5) tyX5 tyX5_ok nmX5 rfl (by decide) kw_298 (Or.inl rfl) (Or.inl ⟨rfl, rfl⟩) (show decode cX5_copyFrom 58 = .ok (.putfield 31, 3) from dk_at dq22_24 (i := 15) rfl) rfl, ?_⟩
  refine List.forall_mem_cons.mpr ⟨ok_aload_n C (show decode cX5_copyFrom 61 = .ok (.aload_n 0, 1) from dk_at dq22_25 (i := 0) rfl) rfl rfl, ?_⟩
  refine List.forall_mem_cons.mpr ⟨ok_aload_n C (show decode cX5_copyFrom 62 = .ok (.aload_n 1, 1) from dk_at dq22_25 (i := 1) rfl) rfl rfl, ?_⟩
  refine List.forall_mem_cons.mpr ⟨ok_getf C (wi_X5) rfl (by decide) kw_300 (show decode cX5_copyFrom 63 = .ok (.getfield 34, 3) from dk_at dq22_25 (i := 2) rfl) rfl, ?_⟩
  refine List.forall_mem_cons.mpr ⟨ok_putf C (wi_X5) tyX5 tyX5_ok nmX5 rfl (by decide) kw_300 (Or.inl rfl) (Or.inr (Or.inr (Or.inr ⟨rfl, rfl⟩))) (show decode cX5_copyFrom 66 = .ok (.putfield 34, 3) from dk_at dq22_25 (i := 3) rfl) rfl, ?_⟩
  refine List.forall_mem_cons.mpr ⟨ok_vret C rfl (show decode cX5_copyFrom 69 = .ok (.return_, 1) from dk_at dq22_25 (i := 4) rfl), ?_⟩
  exact fun _ h => absurd h List.not_mem_nil
def L_X5_addOp : List (Nat × ab_A) := [
  (0, ab_nx 1 (ab_aload 0)),
  (1, ab_nx 4 (ab_getf 5 3)),
  (4, ab_nx 6 (ab_lit (.int 40))),
  (6, ab_icmp 9 11 (fun x y => decide (x < y))),
  (9, ab_nx 10 (ab_lit (.int 0))),
  (10, ab_zret 0 0),
  (11, ab_nx 12 (ab_aload 0)),
  (12, ab_nx 15 (ab_getf 5 0)),
  (15, ab_nx 16 (ab_aload 0)),
  (16, ab_nx 19 (ab_getf 5 3)),
  (19, ab_nx 20 (ab_iload 1)),
  (20, ab_nx 21 (ab_ast 1)),
  (21, ab_nx 22 (ab_aload 0)),
  (22, ab_nx 25 (ab_getf 5 1)),
  (25, ab_nx 26 (ab_aload 0)),
  (26, ab_nx 29 (ab_getf 5 3)),
  (29, ab_nx 30 (ab_iload 2)),
  (30, ab_nx 31 (ab_ast 1)),
  (31, ab_nx 32 (ab_aload 0)),
  (32, ab_nx 35 (ab_getf 5 2)),
  (35, ab_nx 36 (ab_aload 0)),
  (36, ab_nx 39 (ab_getf 5 3)),
  (39, ab_nx 40 (ab_iload 3)),
  (40, ab_nx 41 (ab_ast 1)),
  (41, ab_nx 42 (ab_aload 0)),
  (42, ab_nx 43 ab_dup),
  (43, ab_nx 46 (ab_getf 5 3)),
  (46, ab_nx 47 (ab_lit (.int 1))),
  (47, ab_nx 48 (ab_bin (fun x y => x + y))),
  (48, ab_nx 51 (ab_putf 5 3 0)),
  (51, ab_nx 52 (ab_lit (.int 1))),
  (52, ab_zret 0 0)]
set_option maxRecDepth 100000 in
theorem dq22_26 : ([(0, .aload_n 0, 1), (1, .getfield 27, 3), (4, .bipush 40, 2), (6, .if_icmp .lt 5, 3), (9, .iconst 0, 1), (10, .ireturn, 1), (11, .aload_n 0, 1), (12, .getfield 11, 3), (15, .aload_n 0, 1), (16, .getfield 27, 3), (19, .iload_n 1, 1), (20, .iastore, 1), (21, .aload_n 0, 1), (22, .getfield 15, 3), (25, .aload_n 0, 1), (26, .getfield 27, 3)] : List (Nat × Instr × Nat)).all (fun q => decide (decode cX5_addOp q.1 = .ok q.2)) = true := by decide +kernel
set_option maxRecDepth 100000 in
theorem dq22_27 : ([(29, .iload_n 2, 1), (30, .iastore, 1), (31, .aload_n 0, 1), (32, .getfield 18, 3), (35, .aload_n 0, 1), (36, .getfield 27, 3), (39, .iload_n 3, 1), (40, .iastore, 1), (41, .aload_n 0, 1), (42, .dup, 1), (43, .getfield 27, 3), (46, .iconst 1, 1), (47, .iadd, 1), (48, .putfield 27, 3), (51, .iconst 1, 1), (52, .ireturn, 1)] : List (Nat × Instr × Nat)).all (fun q => decide (decode cX5_addOp q.1 = .ok q.2)) = true := by decide +kernel
set_option maxRecDepth 100000 in
set_option maxHeartbeats 4000000 in
theorem M_X5_addOp {l : Launch} {b : ab_B} {D : va_G} {cA : Nat → ClassId} : ab_M l b D ab_cl cA (ab_E0 b) yX5_addOp (Cond.code yX5_addOp cX5_addOp 4 (some .boolean) :: ab_G) ({ frames := 1, cells := 0, slots := 0, locals := 100 } : Room) (ab_X (ab_T L_X5_addOp) 4) := by
  refine ab_meth (ret := (some .boolean)) L_X5_addOp (by decide) rfl fun p e R s m args below meth c o C => ?_
  unfold L_X5_addOp
  refine List.forall_mem_cons.mpr ⟨ok_aload_n C (show decode cX5_addOp 0 = .ok (.aload_n 0, 1) from dk_at dq22_26 (i := 0) rfl) rfl rfl, ?_⟩
  refine List.forall_mem_cons.mpr ⟨ok_getf C (wi_X5) rfl (by decide) kw_297 (show decode cX5_addOp 1 = .ok (.getfield 27, 3) from dk_at dq22_26 (i := 1) rfl) rfl, ?_⟩
  refine List.forall_mem_cons.mpr ⟨ok_bipush C (show decode cX5_addOp 4 = .ok (.bipush 40, 2) from dk_at dq22_26 (i := 2) rfl) (by decide) rfl, ?_⟩
  refine List.forall_mem_cons.mpr ⟨ok_icmplt C (show decode cX5_addOp 6 = .ok (.if_icmp .lt 5, 3) from dk_at dq22_26 (i := 3) rfl) (tg := 11) (by decide) rfl rfl, ?_⟩
  refine List.forall_mem_cons.mpr ⟨ok_iconst C (show decode cX5_addOp 9 = .ok (.iconst 0, 1) from dk_at dq22_26 (i := 4) rfl) (by decide) rfl, ?_⟩
  refine List.forall_mem_cons.mpr ⟨ok_zret C rfl (show decode cX5_addOp 10 = .ok (.ireturn, 1) from dk_at dq22_26 (i := 5) rfl), ?_⟩
  refine List.forall_mem_cons.mpr ⟨ok_aload_n C (show decode cX5_addOp 11 = .ok (.aload_n 0, 1) from dk_at dq22_26 (i := 6) rfl) rfl rfl, ?_⟩
  refine List.forall_mem_cons.mpr ⟨ok_getf C (wi_X5) rfl (by decide) kw_294 (show decode cX5_addOp 12 = .ok (.getfield 11, 3) from dk_at dq22_26 (i := 7) rfl) rfl, ?_⟩
  refine List.forall_mem_cons.mpr ⟨ok_aload_n C (show decode cX5_addOp 15 = .ok (.aload_n 0, 1) from dk_at dq22_26 (i := 8) rfl) rfl rfl, ?_⟩
  refine List.forall_mem_cons.mpr ⟨ok_getf C (wi_X5) rfl (by decide) kw_297 (show decode cX5_addOp 16 = .ok (.getfield 27, 3) from dk_at dq22_26 (i := 9) rfl) rfl, ?_⟩
  refine List.forall_mem_cons.mpr ⟨ok_iload_n C (show decode cX5_addOp 19 = .ok (.iload_n 1, 1) from dk_at dq22_26 (i := 10) rfl) rfl rfl, ?_⟩
  refine List.forall_mem_cons.mpr ⟨ok_iastore C (show decode cX5_addOp 20 = .ok (.iastore, 1) from dk_at dq22_26 (i := 11) rfl) rfl, ?_⟩
  refine List.forall_mem_cons.mpr ⟨ok_aload_n C (show decode cX5_addOp 21 = .ok (.aload_n 0, 1) from dk_at dq22_26 (i := 12) rfl) rfl rfl, ?_⟩
  refine List.forall_mem_cons.mpr ⟨ok_getf C (wi_X5) rfl (by decide) kw_295 (show decode cX5_addOp 22 = .ok (.getfield 15, 3) from dk_at dq22_26 (i := 13) rfl) rfl, ?_⟩
  refine List.forall_mem_cons.mpr ⟨ok_aload_n C (show decode cX5_addOp 25 = .ok (.aload_n 0, 1) from dk_at dq22_26 (i := 14) rfl) rfl rfl, ?_⟩
  refine List.forall_mem_cons.mpr ⟨ok_getf C (wi_X5) rfl (by decide) kw_297 (show decode cX5_addOp 26 = .ok (.getfield 27, 3) from dk_at dq22_26 (i := 15) rfl) rfl, ?_⟩
  refine List.forall_mem_cons.mpr ⟨ok_iload_n C (show decode cX5_addOp 29 = .ok (.iload_n 2, 1) from dk_at dq22_27 (i := 0) rfl) rfl rfl, ?_⟩
  refine List.forall_mem_cons.mpr ⟨ok_iastore C (show decode cX5_addOp 30 = .ok (.iastore, 1) from dk_at dq22_27 (i := 1) rfl) rfl, ?_⟩
  refine List.forall_mem_cons.mpr ⟨ok_aload_n C (show decode cX5_addOp 31 = .ok (.aload_n 0, 1) from dk_at dq22_27 (i := 2) rfl) rfl rfl, ?_⟩
  refine List.forall_mem_cons.mpr ⟨ok_getf C (wi_X5) rfl (by decide) kw_296 (show decode cX5_addOp 32 = .ok (.getfield 18, 3) from dk_at dq22_27 (i := 3) rfl) rfl, ?_⟩
  refine List.forall_mem_cons.mpr ⟨ok_aload_n C (show decode cX5_addOp 35 = .ok (.aload_n 0, 1) from dk_at dq22_27 (i := 4) rfl) rfl rfl, ?_⟩
  refine List.forall_mem_cons.mpr ⟨ok_getf C (wi_X5) rfl (by decide) kw_297 (show decode cX5_addOp 36 = .ok (.getfield 27, 3) from dk_at dq22_27 (i := 5) rfl) rfl, ?_⟩
  refine List.forall_mem_cons.mpr ⟨ok_iload_n C (show decode cX5_addOp 39 = .ok (.iload_n 3, 1) from dk_at dq22_27 (i := 6) rfl) rfl rfl, ?_⟩
  refine List.forall_mem_cons.mpr ⟨ok_iastore C (show decode cX5_addOp 40 = .ok (.iastore, 1) from dk_at dq22_27 (i := 7) rfl) rfl, ?_⟩
  refine List.forall_mem_cons.mpr ⟨ok_aload_n C (show decode cX5_addOp 41 = .ok (.aload_n 0, 1) from dk_at dq22_27 (i := 8) rfl) rfl rfl, ?_⟩
  refine List.forall_mem_cons.mpr ⟨ok_dup C (show decode cX5_addOp 42 = .ok (.dup, 1) from dk_at dq22_27 (i := 9) rfl) rfl, ?_⟩
  refine List.forall_mem_cons.mpr ⟨ok_getf C (wi_X5) rfl (by decide) kw_297 (show decode cX5_addOp 43 = .ok (.getfield 27, 3) from dk_at dq22_27 (i := 10) rfl) rfl, ?_⟩
  refine List.forall_mem_cons.mpr ⟨ok_iconst C (show decode cX5_addOp 46 = .ok (.iconst 1, 1) from dk_at dq22_27 (i := 11) rfl) (by decide) rfl, ?_⟩
  refine List.forall_mem_cons.mpr ⟨ok_iadd C (show decode cX5_addOp 47 = .ok (.iadd, 1) from dk_at dq22_27 (i := 12) rfl) rfl, ?_⟩
  refine List.forall_mem_cons.mpr ⟨ok_putf C (wi_X5) tyX5 tyX5_ok nmX5 rfl (by decide) kw_297 (Or.inl rfl) (Or.inl ⟨rfl, rfl⟩) (show decode cX5_addOp 48 = .ok (.putfield 27, 3) from dk_at dq22_27 (i := 13) rfl) rfl, ?_⟩
  refine List.forall_mem_cons.mpr ⟨ok_iconst C (show decode cX5_addOp 51 = .ok (.iconst 1, 1) from dk_at dq22_27 (i := 14) rfl) (by decide) rfl, ?_⟩
  refine List.forall_mem_cons.mpr ⟨ok_zret C rfl (show decode cX5_addOp 52 = .ok (.ireturn, 1) from dk_at dq22_27 (i := 15) rfl), ?_⟩
  exact fun _ h => absurd h List.not_mem_nil
def L_X5_readOnShore (f_X9_takeNumber : List Value → ab_H → Option ab_O) (f_X9_step : List Value → ab_H → Option ab_O) (f_X5_addOp : List Value → ab_H → Option ab_O) : List (Nat × ab_A) := [
  (0, ab_nx 1 (ab_aload 1)),
  (1, ab_nx 2 (ab_lit (.int 0))),
  (2, ab_nx 3 (ab_lit (.int 1))),
  (3, ab_nx 6 (ab_callV 3 9 f_X9_takeNumber 0 0 0 0)),
  (6, ab_if 9 11 (fun x => !decide (x = 0))),
  (9, ab_nx 10 (ab_lit (.int 0))),
  (10, ab_zret 0 0),
  (11, ab_nx 12 (ab_aload 1)),
  (12, ab_nx 15 (ab_getf 9 7)),
  (15, ab_nx 16 (ab_istore 3)),
  (16, ab_nx 17 (ab_aload 1)),
  (17, ab_nx 20 (ab_callV 1 9 f_X9_step 0 0 0 0)),
  (20, ab_nx 21 (ab_aload 0)),
  (21, ab_nx 22 (ab_iload 2)),
  (22, ab_nx 23 (ab_iload 3)),
  (23, ab_nx 24 (ab_lit (.int 0))),
  (24, ab_nx 27 (ab_callV 4 5 f_X5_addOp 0 0 0 0)),
  (27, ab_zret 0 0)]
set_option maxRecDepth 100000 in
theorem dq22_28 : ([(0, .aload_n 1, 1), (1, .iconst 0, 1), (2, .iconst 1, 1), (3, .invokevirtual 73, 3), (6, .ifCond .ne 5, 3), (9, .iconst 0, 1), (10, .ireturn, 1), (11, .aload_n 1, 1), (12, .getfield 77, 3), (15, .istore_n 3, 1), (16, .aload_n 1, 1), (17, .invokevirtual 38, 3), (20, .aload_n 0, 1), (21, .iload_n 2, 1), (22, .iload_n 3, 1), (23, .iconst 0, 1)] : List (Nat × Instr × Nat)).all (fun q => decide (decode cX5_readOnShore q.1 = .ok q.2)) = true := by decide +kernel
set_option maxRecDepth 100000 in
theorem dq22_29 : ([(24, .invokevirtual 57, 3), (27, .ireturn, 1)] : List (Nat × Instr × Nat)).all (fun q => decide (decode cX5_readOnShore q.1 = .ok q.2)) = true := by decide +kernel
set_option maxRecDepth 100000 in
set_option maxHeartbeats 4000000 in
theorem M_X5_readOnShore {l : Launch} {b : ab_B} {D : va_G} {cA : Nat → ClassId} {f_X9_takeNumber : List Value → ab_H → Option ab_O} (h_X9_takeNumber : ab_M l b D ab_cl cA (ab_E0 b) yX9_takeNumber (Cond.code yX9_takeNumber cX9_takeNumber 3 (some .boolean) :: ab_G) ({ frames := 2, cells := 0, slots := 0, locals := 200 } : Room) f_X9_takeNumber) {f_X9_step : List Value → ab_H → Option ab_O} (h_X9_step : ab_M l b D ab_cl cA (ab_E0 b) yX9_step (Cond.code yX9_step cX9_step 1 none :: ab_G) ({ frames := 1, cells := 0, slots := 0, locals := 100 } : Room) f_X9_step) {f_X5_addOp : List Value → ab_H → Option ab_O} (h_X5_addOp : ab_M l b D ab_cl cA (ab_E0 b) yX5_addOp (Cond.code yX5_addOp cX5_addOp 4 (some .boolean) :: ab_G) ({ frames := 1, cells := 0, slots := 0, locals := 100 } : Room) f_X5_addOp) : ab_M l b D ab_cl cA (ab_E0 b) yX5_readOnShore (Cond.code yX5_readOnShore cX5_readOnShore 4 (some .boolean) :: ab_G) ({ frames := 3, cells := 0, slots := 0, locals := 300 } : Room) (ab_X (ab_T (L_X5_readOnShore f_X9_takeNumber f_X9_step f_X5_addOp)) 4) := by
  refine ab_meth (ret := (some .boolean)) (L_X5_readOnShore f_X9_takeNumber f_X9_step f_X5_addOp) (by decide) rfl fun p e R s m args below meth c o C => ?_
  unfold L_X5_readOnShore
  refine List.forall_mem_cons.mpr ⟨ok_aload_n C (show decode cX5_readOnShore 0 = .ok (.aload_n 1, 1) from dk_at dq22_28 (i := 0) rfl) rfl rfl, ?_⟩
  refine List.forall_mem_cons.mpr ⟨ok_iconst C (show decode cX5_readOnShore 1 = .ok (.iconst 0, 1) from dk_at dq22_28 (i := 1) rfl) (by decide) rfl, ?_⟩
  refine List.forall_mem_cons.mpr ⟨ok_iconst C (show decode cX5_readOnShore 2 = .ok (.iconst 1, 1) from dk_at dq22_28 (i := 2) rfl) (by decide) rfl, ?_⟩
  refine List.forall_mem_cons.mpr ⟨ok_callV C h_X9_takeNumber ⟨rfl, rfl⟩ rfl kw_529 kw_987 kw_527 kw_528 kw_3 rfl ds_X9_takeNumber ⟨by decide, by decide⟩ (show decode cX5_readOnShore 3 = .ok (.invokevirtual 73, 3) from dk_at dq22_28 (i := 3) rfl) rfl, ?_⟩
  refine List.forall_mem_cons.mpr ⟨ok_ifne C (show decode cX5_readOnShore 6 = .ok (.ifCond .ne 5, 3) from dk_at dq22_28 (i := 4) rfl) (tg := 11) (by decide) rfl rfl, ?_⟩
  refine List.forall_mem_cons.mpr ⟨ok_iconst C (show decode cX5_readOnShore 9 = .ok (.iconst 0, 1) from dk_at dq22_28 (i := 5) rfl) (by decide) rfl, ?_⟩
  refine List.forall_mem_cons.mpr ⟨ok_zret C rfl (show decode cX5_readOnShore 10 = .ok (.ireturn, 1) from dk_at dq22_28 (i := 6) rfl), ?_⟩
  refine List.forall_mem_cons.mpr ⟨ok_aload_n C (show decode cX5_readOnShore 11 = .ok (.aload_n 1, 1) from dk_at dq22_28 (i := 7) rfl) rfl rfl, ?_⟩
  refine List.forall_mem_cons.mpr ⟨ok_getf C (wi_X9) rfl (by decide) kw_69 (show decode cX5_readOnShore 12 = .ok (.getfield 77, 3) from dk_at dq22_28 (i := 8) rfl) rfl, ?_⟩
  refine List.forall_mem_cons.mpr ⟨ok_istore_n C (show decode cX5_readOnShore 15 = .ok (.istore_n 3, 1) from dk_at dq22_28 (i := 9) rfl) rfl (by decide) rfl, ?_⟩
  refine List.forall_mem_cons.mpr ⟨ok_aload_n C (show decode cX5_readOnShore 16 = .ok (.aload_n 1, 1) from dk_at dq22_28 (i := 10) rfl) rfl rfl, ?_⟩
  refine List.forall_mem_cons.mpr ⟨ok_callV C h_X9_step ⟨rfl, rfl⟩ rfl kw_499 kw_961 kw_497 kw_498 kw_3 rfl ds_X9_step ⟨by decide, by decide⟩ (show decode cX5_readOnShore 17 = .ok (.invokevirtual 38, 3) from dk_at dq22_28 (i := 11) rfl) rfl, ?_⟩
  refine List.forall_mem_cons.mpr ⟨ok_aload_n C (show decode cX5_readOnShore 20 = .ok (.aload_n 0, 1) from dk_at dq22_28 (i := 12) rfl) rfl rfl, ?_⟩
  refine List.forall_mem_cons.mpr ⟨ok_iload_n C (show decode cX5_readOnShore 21 = .ok (.iload_n 2, 1) from dk_at dq22_28 (i := 13) rfl) rfl rfl, ?_⟩
  refine List.forall_mem_cons.mpr ⟨ok_iload_n C (show decode cX5_readOnShore 22 = .ok (.iload_n 3, 1) from dk_at dq22_28 (i := 14) rfl) rfl rfl, ?_⟩
  refine List.forall_mem_cons.mpr ⟨ok_iconst C (show decode cX5_readOnShore 23 = .ok (.iconst 0, 1) from dk_at dq22_28 (i := 15) rfl) (by decide) rfl, ?_⟩
  refine List.forall_mem_cons.mpr ⟨ok_callV C h_X5_addOp ⟨rfl, rfl⟩ rfl kw_982 kw_979 kw_981 kp_42 kw_10 rfl ds_X5_addOp ⟨by decide, by decide⟩ (show decode cX5_readOnShore 24 = .ok (.invokevirtual 57, 3) from dk_at dq22_29 (i := 0) rfl) rfl, ?_⟩
  refine List.forall_mem_cons.mpr ⟨ok_zret C rfl (show decode cX5_readOnShore 27 = .ok (.ireturn, 1) from dk_at dq22_29 (i := 1) rfl), ?_⟩
  exact fun _ h => absurd h List.not_mem_nil
def L_X5_readCompared (f_X9_step : List Value → ab_H → Option ab_O) (f_X9_fail : List Value → ab_H → Option ab_O) (f_X9_takeNumber : List Value → ab_H → Option ab_O) (f_X5_addOp : List Value → ab_H → Option ab_O) : List (Nat × ab_A) := [
  (0, ab_nx 1 (ab_aload 1)),
  (1, ab_nx 4 (ab_callV 1 9 f_X9_step 0 0 0 0)),
  (4, ab_nx 5 (ab_aload 1)),
  (5, ab_nx 8 (ab_getf 9 5)),
  (8, ab_nx 9 (ab_istore 3)),
  (9, ab_nx 10 (ab_iload 3)),
  (10, ab_nx 12 (ab_lit (.int 60))),
  (12, ab_icmp 15 33 (fun x y => decide (x = y))),
  (15, ab_nx 16 (ab_iload 3)),
  (16, ab_nx 18 (ab_lit (.int 61))),
  (18, ab_icmp 21 33 (fun x y => decide (x = y))),
  (21, ab_nx 22 (ab_iload 3)),
  (22, ab_nx 24 (ab_lit (.int 62))),
  (24, ab_icmp 27 33 (fun x y => decide (x = y))),
  (27, ab_nx 28 (ab_aload 1)),
  (28, ab_nx 29 (ab_lit (.int 1))),
  (29, ab_nx 32 (ab_callV 2 9 f_X9_fail 0 0 0 0)),
  (32, ab_zret 0 0),
  (33, ab_nx 34 (ab_aload 1)),
  (34, ab_nx 35 (ab_lit (.int 0))),
  (35, ab_nx 38 (ab_lit (.int 999))),
  (38, ab_nx 41 (ab_callV 3 9 f_X9_takeNumber 0 0 0 0)),
  (41, ab_if 44 46 (fun x => !decide (x = 0))),
  (44, ab_nx 45 (ab_lit (.int 0))),
  (45, ab_zret 0 0),
  (46, ab_nx 47 (ab_aload 1)),
  (47, ab_nx 50 (ab_getf 9 7)),
  (50, ab_nx 52 (ab_istore 4)),
  (52, ab_nx 53 (ab_aload 1)),
  (53, ab_nx 56 (ab_callV 1 9 f_X9_step 0 0 0 0)),
  (56, ab_nx 57 (ab_aload 0)),
  (57, ab_nx 58 (ab_iload 2)),
  (58, ab_nx 59 (ab_iload 3)),
  (59, ab_nx 61 (ab_iload 4)),
  (61, ab_nx 64 (ab_callV 4 5 f_X5_addOp 0 0 0 0)),
  (64, ab_zret 0 0)]
set_option maxRecDepth 100000 in
theorem dq22_30 : ([(0, .aload_n 1, 1), (1, .invokevirtual 38, 3), (4, .aload_n 1, 1), (5, .getfield 47, 3), (8, .istore_n 3, 1), (9, .iload_n 3, 1), (10, .bipush 60, 2), (12, .if_icmp .eq 21, 3), (15, .iload_n 3, 1), (16, .bipush 61, 2), (18, .if_icmp .eq 15, 3), (21, .iload_n 3, 1), (22, .bipush 62, 2), (24, .if_icmp .eq 9, 3), (27, .aload_n 1, 1), (28, .iconst 1, 1)] : List (Nat × Instr × Nat)).all (fun q => decide (decode cX5_readCompared q.1 = .ok q.2)) = true := by decide +kernel
set_option maxRecDepth 100000 in
theorem dq22_31 : ([(29, .invokevirtual 50, 3), (32, .ireturn, 1), (33, .aload_n 1, 1), (34, .iconst 0, 1), (35, .sipush 999, 3), (38, .invokevirtual 73, 3), (41, .ifCond .ne 5, 3), (44, .iconst 0, 1), (45, .ireturn, 1), (46, .aload_n 1, 1), (47, .getfield 77, 3), (50, .istore 4, 2), (52, .aload_n 1, 1), (53, .invokevirtual 38, 3), (56, .aload_n 0, 1), (57, .iload_n 2, 1)] : List (Nat × Instr × Nat)).all (fun q => decide (decode cX5_readCompared q.1 = .ok q.2)) = true := by decide +kernel
set_option maxRecDepth 100000 in
theorem dq22_32 : ([(58, .iload_n 3, 1), (59, .iload 4, 2), (61, .invokevirtual 57, 3), (64, .ireturn, 1)] : List (Nat × Instr × Nat)).all (fun q => decide (decode cX5_readCompared q.1 = .ok q.2)) = true := by decide +kernel
set_option maxRecDepth 100000 in
set_option maxHeartbeats 4000000 in
theorem M_X5_readCompared {l : Launch} {b : ab_B} {D : va_G} {cA : Nat → ClassId} {f_X9_step : List Value → ab_H → Option ab_O} (h_X9_step : ab_M l b D ab_cl cA (ab_E0 b) yX9_step (Cond.code yX9_step cX9_step 1 none :: ab_G) ({ frames := 1, cells := 0, slots := 0, locals := 100 } : Room) f_X9_step) {f_X9_fail : List Value → ab_H → Option ab_O} (h_X9_fail : ab_M l b D ab_cl cA (ab_E0 b) yX9_fail (Cond.code yX9_fail cX9_fail 2 (some .boolean) :: ab_G) ({ frames := 1, cells := 0, slots := 0, locals := 100 } : Room) f_X9_fail) {f_X9_takeNumber : List Value → ab_H → Option ab_O} (h_X9_takeNumber : ab_M l b D ab_cl cA (ab_E0 b) yX9_takeNumber (Cond.code yX9_takeNumber cX9_takeNumber 3 (some .boolean) :: ab_G) ({ frames := 2, cells := 0, slots := 0, locals := 200 } : Room) f_X9_takeNumber) {f_X5_addOp : List Value → ab_H → Option ab_O} (h_X5_addOp : ab_M l b D ab_cl cA (ab_E0 b) yX5_addOp (Cond.code yX5_addOp cX5_addOp 4 (some .boolean) :: ab_G) ({ frames := 1, cells := 0, slots := 0, locals := 100 } : Room) f_X5_addOp) : ab_M l b D ab_cl cA (ab_E0 b) yX5_readCompared (Cond.code yX5_readCompared cX5_readCompared 5 (some .boolean) :: ab_G) ({ frames := 3, cells := 0, slots := 0, locals := 300 } : Room) (ab_X (ab_T (L_X5_readCompared f_X9_step f_X9_fail f_X9_takeNumber f_X5_addOp)) 5) := by
  refine ab_meth (ret := (some .boolean)) (L_X5_readCompared f_X9_step f_X9_fail f_X9_takeNumber f_X5_addOp) (by decide) rfl fun p e R s m args below meth c o C => ?_
  unfold L_X5_readCompared
  refine List.forall_mem_cons.mpr ⟨ok_aload_n C (show decode cX5_readCompared 0 = .ok (.aload_n 1, 1) from dk_at dq22_30 (i := 0) rfl) rfl rfl, ?_⟩
  refine List.forall_mem_cons.mpr ⟨ok_callV C h_X9_step ⟨rfl, rfl⟩ rfl kw_499 kw_961 kw_497 kw_498 kw_3 rfl ds_X9_step ⟨by decide, by decide⟩ (show decode cX5_readCompared 1 = .ok (.invokevirtual 38, 3) from dk_at dq22_30 (i := 1) rfl) rfl, ?_⟩
  refine List.forall_mem_cons.mpr ⟨ok_aload_n C (show decode cX5_readCompared 4 = .ok (.aload_n 1, 1) from dk_at dq22_30 (i := 2) rfl) rfl rfl, ?_⟩
  refine List.forall_mem_cons.mpr ⟨ok_getf C (wi_X9) rfl (by decide) kw_62 (show decode cX5_readCompared 5 = .ok (.getfield 47, 3) from dk_at dq22_30 (i := 3) rfl) rfl, ?_⟩
  refine List.forall_mem_cons.mpr ⟨ok_istore_n C (show decode cX5_readCompared 8 = .ok (.istore_n 3, 1) from dk_at dq22_30 (i := 4) rfl) rfl (by decide) rfl, ?_⟩
  refine List.forall_mem_cons.mpr ⟨ok_iload_n C (show decode cX5_readCompared 9 = .ok (.iload_n 3, 1) from dk_at dq22_30 (i := 5) rfl) rfl rfl, ?_⟩
  refine List.forall_mem_cons.mpr ⟨ok_bipush C (show decode cX5_readCompared 10 = .ok (.bipush 60, 2) from dk_at dq22_30 (i := 6) rfl) (by decide) rfl, ?_⟩
  refine List.forall_mem_cons.mpr ⟨ok_icmpeq C (show decode cX5_readCompared 12 = .ok (.if_icmp .eq 21, 3) from dk_at dq22_30 (i := 7) rfl) (tg := 33) (by decide) rfl rfl, ?_⟩
  refine List.forall_mem_cons.mpr ⟨ok_iload_n C (show decode cX5_readCompared 15 = .ok (.iload_n 3, 1) from dk_at dq22_30 (i := 8) rfl) rfl rfl, ?_⟩
  refine List.forall_mem_cons.mpr ⟨ok_bipush C (show decode cX5_readCompared 16 = .ok (.bipush 61, 2) from dk_at dq22_30 (i := 9) rfl) (by decide) rfl, ?_⟩
  refine List.forall_mem_cons.mpr ⟨ok_icmpeq C (show decode cX5_readCompared 18 = .ok (.if_icmp .eq 15, 3) from dk_at dq22_30 (i := 10) rfl) (tg := 33) (by decide) rfl rfl, ?_⟩
  refine List.forall_mem_cons.mpr ⟨ok_iload_n C (show decode cX5_readCompared 21 = .ok (.iload_n 3, 1) from dk_at dq22_30 (i := 11) rfl) rfl rfl, ?_⟩
  refine List.forall_mem_cons.mpr ⟨ok_bipush C (show decode cX5_readCompared 22 = .ok (.bipush 62, 2) from dk_at dq22_30 (i := 12) rfl) (by decide) rfl, ?_⟩
  refine List.forall_mem_cons.mpr ⟨ok_icmpeq C (show decode cX5_readCompared 24 = .ok (.if_icmp .eq 9, 3) from dk_at dq22_30 (i := 13) rfl) (tg := 33) (by decide) rfl rfl, ?_⟩
  refine List.forall_mem_cons.mpr ⟨ok_aload_n C (show decode cX5_readCompared 27 = .ok (.aload_n 1, 1) from dk_at dq22_30 (i := 14) rfl) rfl rfl, ?_⟩
  refine List.forall_mem_cons.mpr ⟨ok_iconst C (show decode cX5_readCompared 28 = .ok (.iconst 1, 1) from dk_at dq22_30 (i := 15) rfl) (by decide) rfl, ?_⟩
  refine List.forall_mem_cons.mpr ⟨ok_callV C h_X9_fail ⟨rfl, rfl⟩ rfl kw_520 kw_974 kw_518 kw_519 kw_3 rfl ds_X9_fail ⟨by decide, by decide⟩ (show decode cX5_readCompared 29 = .ok (.invokevirtual 50, 3) from dk_at dq22_31 (i := 0) rfl) rfl, ?_⟩
  refine List.forall_mem_cons.mpr ⟨ok_zret C rfl (show decode cX5_readCompared 32 = .ok (.ireturn, 1) from dk_at dq22_31 (i := 1) rfl), ?_⟩
  refine List.forall_mem_cons.mpr ⟨ok_aload_n C (show decode cX5_readCompared 33 = .ok (.aload_n 1, 1) from dk_at dq22_31 (i := 2) rfl) rfl rfl, ?_⟩
  refine List.forall_mem_cons.mpr ⟨ok_iconst C (show decode cX5_readCompared 34 = .ok (.iconst 0, 1) from dk_at dq22_31 (i := 3) rfl) (by decide) rfl, ?_⟩
  refine List.forall_mem_cons.mpr ⟨ok_sipush C (show decode cX5_readCompared 35 = .ok (.sipush 999, 3) from dk_at dq22_31 (i := 4) rfl) (by decide) rfl, ?_⟩
  refine List.forall_mem_cons.mpr ⟨ok_callV C h_X9_takeNumber ⟨rfl, rfl⟩ rfl kw_529 kw_987 kw_527 kw_528 kw_3 rfl ds_X9_takeNumber ⟨by decide, by decide⟩ (show decode cX5_readCompared 38 = .ok (.invokevirtual 73, 3) from dk_at dq22_31 (i := 5) rfl) rfl, ?_⟩
  refine List.forall_mem_cons.mpr ⟨ok_ifne C (show decode cX5_readCompared 41 = .ok (.ifCond .ne 5, 3) from dk_at dq22_31 (i := 6) rfl) (tg := 46) (by decide) rfl rfl, ?_⟩
  refine List.forall_mem_cons.mpr ⟨ok_iconst C (show decode cX5_readCompared 44 = .ok (.iconst 0, 1) from dk_at dq22_31 (i := 7) rfl) (by decide) rfl, ?_⟩
  refine List.forall_mem_cons.mpr ⟨ok_zret C rfl (show decode cX5_readCompared 45 = .ok (.ireturn, 1) from dk_at dq22_31 (i := 8) rfl), ?_⟩
  refine List.forall_mem_cons.mpr ⟨ok_aload_n C (show decode cX5_readCompared 46 = .ok (.aload_n 1, 1) from dk_at dq22_31 (i := 9) rfl) rfl rfl, ?_⟩
  refine List.forall_mem_cons.mpr ⟨ok_getf C (wi_X9) rfl (by decide) kw_69 (show decode cX5_readCompared 47 = .ok (.getfield 77, 3) from dk_at dq22_31 (i := 10) rfl) rfl, ?_⟩
  refine List.forall_mem_cons.mpr ⟨ok_istore C (show decode cX5_readCompared 50 = .ok (.istore 4, 2) from dk_at dq22_31 (i := 11) rfl) (by decide) rfl, ?_⟩
  refine List.forall_mem_cons.mpr ⟨ok_aload_n C (show decode cX5_readCompared 52 = .ok (.aload_n 1, 1) from dk_at dq22_31 (i := 12) rfl) rfl rfl, ?_⟩
  refine List.forall_mem_cons.mpr ⟨ok_callV C h_X9_step ⟨rfl, rfl⟩ rfl kw_499 kw_961 kw_497 kw_498 kw_3 rfl ds_X9_step ⟨by decide, by decide⟩ (show decode cX5_readCompared 53 = .ok (.invokevirtual 38, 3) from dk_at dq22_31 (i := 13) rfl) rfl, ?_⟩
  refine List.forall_mem_cons.mpr ⟨ok_aload_n C (show decode cX5_readCompared 56 = .ok (.aload_n 0, 1) from dk_at dq22_31 (i := 14) rfl) rfl rfl, ?_⟩
  refine List.forall_mem_cons.mpr ⟨ok_iload_n C (show decode cX5_readCompared 57 = .ok (.iload_n 2, 1) from dk_at dq22_31 (i := 15) rfl) rfl rfl, ?_⟩
  refine List.forall_mem_cons.mpr ⟨ok_iload_n C (show decode cX5_readCompared 58 = .ok (.iload_n 3, 1) from dk_at dq22_32 (i := 0) rfl) rfl rfl, ?_⟩
  refine List.forall_mem_cons.mpr ⟨ok_iload C (show decode cX5_readCompared 59 = .ok (.iload 4, 2) from dk_at dq22_32 (i := 1) rfl) rfl, ?_⟩
  refine List.forall_mem_cons.mpr ⟨ok_callV C h_X5_addOp ⟨rfl, rfl⟩ rfl kw_982 kw_979 kw_981 kp_42 kw_10 rfl ds_X5_addOp ⟨by decide, by decide⟩ (show decode cX5_readCompared 61 = .ok (.invokevirtual 57, 3) from dk_at dq22_32 (i := 2) rfl) rfl, ?_⟩
  refine List.forall_mem_cons.mpr ⟨ok_zret C rfl (show decode cX5_readCompared 64 = .ok (.ireturn, 1) from dk_at dq22_32 (i := 3) rfl), ?_⟩
  exact fun _ h => absurd h List.not_mem_nil
end
-- 23.m03.lean.txt
section
def L_X5_readCond (f_X5_readAll : List Value → ab_H → Option ab_O) (f_X9_step : List Value → ab_H → Option ab_O) (f_X5_addOp : List Value → ab_H → Option ab_O) : List (Nat × ab_A) := [
  (0, ab_nx 1 (ab_aload 0)),
  (1, ab_nx 2 (ab_aload 1)),
  (2, ab_nx 3 (ab_iload 2)),
  (3, ab_nx 6 (ab_callV 3 5 f_X5_readAll 0 0 0 0)),
  (6, ab_if 9 11 (fun x => !decide (x = 0))),
  (9, ab_nx 10 (ab_lit (.int 0))),
  (10, ab_zret 0 0),
  (11, ab_nx 12 (ab_lit (.int 0))),
  (12, ab_nx 13 (ab_istore 3)),
  (13, ab_nx 14 (ab_iload 3)),
  (14, ab_nx 16 (ab_lit (.int 20))),
  (16, ab_icmp 19 60 (fun x y => decide (y ≤ x))),
  (19, ab_nx 20 (ab_aload 1)),
  (20, ab_nx 23 (ab_getf 9 5)),
  (23, ab_nx 25 (ab_lit (.int 77))),
  (25, ab_icmp 28 60 (fun x y => !decide (x = y))),
  (28, ab_nx 29 (ab_aload 1)),
  (29, ab_nx 32 (ab_callV 1 9 f_X9_step 0 0 0 0)),
  (32, ab_nx 33 (ab_aload 0)),
  (33, ab_nx 34 (ab_aload 1)),
  (34, ab_nx 35 (ab_iload 2)),
  (35, ab_nx 38 (ab_callV 3 5 f_X5_readAll 0 0 0 0)),
  (38, ab_if 41 52 (fun x => decide (x = 0))),
  (41, ab_nx 42 (ab_aload 0)),
  (42, ab_nx 44 (ab_lit (.int 77))),
  (44, ab_nx 45 (ab_lit (.int 0))),
  (45, ab_nx 46 (ab_lit (.int 0))),
  (46, ab_nx 49 (ab_callV 4 5 f_X5_addOp 0 0 0 0)),
  (49, ab_if 52 54 (fun x => !decide (x = 0))),
  (52, ab_nx 53 (ab_lit (.int 0))),
  (53, ab_zret 0 0),
  (54, ab_nx 57 (ab_iinc 3 1)),
  (57, ab_goto 13),
  (60, ab_nx 61 (ab_lit (.int 1))),
  (61, ab_zret 0 0)]
set_option maxRecDepth 100000 in
theorem dq23_0 : ([(0, .aload_n 0, 1), (1, .aload_n 1, 1), (2, .iload_n 2, 1), (3, .invokevirtual 54, 3), (6, .ifCond .ne 5, 3), (9, .iconst 0, 1), (10, .ireturn, 1), (11, .iconst 0, 1), (12, .istore_n 3, 1), (13, .iload_n 3, 1), (14, .bipush 20, 2), (16, .if_icmp .ge 44, 3), (19, .aload_n 1, 1), (20, .getfield 47, 3), (23, .bipush 77, 2), (25, .if_icmp .ne 35, 3)] : List (Nat × Instr × Nat)).all (fun q => decide (decode cX5_readCond q.1 = .ok q.2)) = true := by decide +kernel
set_option maxRecDepth 100000 in
theorem dq23_1 : ([(28, .aload_n 1, 1), (29, .invokevirtual 38, 3), (32, .aload_n 0, 1), (33, .aload_n 1, 1), (34, .iload_n 2, 1), (35, .invokevirtual 54, 3), (38, .ifCond .eq 14, 3), (41, .aload_n 0, 1), (42, .bipush 77, 2), (44, .iconst 0, 1), (45, .iconst 0, 1), (46, .invokevirtual 57, 3), (49, .ifCond .ne 5, 3), (52, .iconst 0, 1), (53, .ireturn, 1), (54, .iinc 3 1, 3)] : List (Nat × Instr × Nat)).all (fun q => decide (decode cX5_readCond q.1 = .ok q.2)) = true := by decide +kernel
set_option maxRecDepth 100000 in
theorem dq23_2 : ([(57, .goto (-44), 3), (60, .iconst 1, 1), (61, .ireturn, 1)] : List (Nat × Instr × Nat)).all (fun q => decide (decode cX5_readCond q.1 = .ok q.2)) = true := by decide +kernel
set_option maxRecDepth 100000 in
set_option maxHeartbeats 4000000 in
theorem M_X5_readCond {l : Launch} {b : ab_B} {D : va_G} {cA : Nat → ClassId} {n : Nat} (hn : 4 ≤ n) {f_X5_readAll : List Value → ab_H → Option ab_O} (h_X5_readAll : ab_M l b D ab_cl cA (ab_E0 b) yX5_readAll (Cond.code yX5_readAll cX5_readAll 4 (some .boolean) :: ab_G) ({ frames := n, cells := 0, slots := 0, locals := 100 * n } : Room) f_X5_readAll) {f_X9_step : List Value → ab_H → Option ab_O} (h_X9_step : ab_M l b D ab_cl cA (ab_E0 b) yX9_step (Cond.code yX9_step cX9_step 1 none :: ab_G) ({ frames := 1, cells := 0, slots := 0, locals := 100 } : Room) f_X9_step) {f_X5_addOp : List Value → ab_H → Option ab_O} (h_X5_addOp : ab_M l b D ab_cl cA (ab_E0 b) yX5_addOp (Cond.code yX5_addOp cX5_addOp 4 (some .boolean) :: ab_G) ({ frames := 1, cells := 0, slots := 0, locals := 100 } : Room) f_X5_addOp) : ab_M l b D ab_cl cA (ab_E0 b) yX5_readCond (Cond.code yX5_readCond cX5_readCond 4 (some .boolean) :: ab_G) ({ frames := (n + 1), cells := 0, slots := 0, locals := 100 * (n + 1) } : Room) (ab_X (ab_T (L_X5_readCond f_X5_readAll f_X9_step f_X5_addOp)) 4) := by
  refine ab_meth (ret := (some .boolean)) (L_X5_readCond f_X5_readAll f_X9_step f_X5_addOp) (by decide) rfl fun p e R s m args below meth c o C => ?_
  unfold L_X5_readCond
  refine List.forall_mem_cons.mpr ⟨ok_aload_n C (show decode cX5_readCond 0 = .ok (.aload_n 0, 1) from dk_at dq23_0 (i := 0) rfl) rfl rfl, ?_⟩
  refine List.forall_mem_cons.mpr ⟨ok_aload_n C (show decode cX5_readCond 1 = .ok (.aload_n 1, 1) from dk_at dq23_0 (i := 1) rfl) rfl rfl, ?_⟩
  refine List.forall_mem_cons.mpr ⟨ok_iload_n C (show decode cX5_readCond 2 = .ok (.iload_n 2, 1) from dk_at dq23_0 (i := 2) rfl) rfl rfl, ?_⟩
  refine List.forall_mem_cons.mpr ⟨ok_callV C h_X5_readAll ⟨rfl, rfl⟩ rfl kw_969 kw_966 kw_968 kp_39 kw_10 rfl ds_X5_readAll ⟨by show n + 1 ≤ n + 1; omega, by show 8 + (4 + 11) + 100 * n ≤ 100 * (n + 1); omega⟩ (show decode cX5_readCond 3 = .ok (.invokevirtual 54, 3) from dk_at dq23_0 (i := 3) rfl) rfl, ?_⟩
  refine List.forall_mem_cons.mpr ⟨ok_ifne C (show decode cX5_readCond 6 = .ok (.ifCond .ne 5, 3) from dk_at dq23_0 (i := 4) rfl) (tg := 11) (by decide) rfl rfl, ?_⟩
  refine List.forall_mem_cons.mpr ⟨ok_iconst C (show decode cX5_readCond 9 = .ok (.iconst 0, 1) from dk_at dq23_0 (i := 5) rfl) (by decide) rfl, ?_⟩
  refine List.forall_mem_cons.mpr ⟨ok_zret C rfl (show decode cX5_readCond 10 = .ok (.ireturn, 1) from dk_at dq23_0 (i := 6) rfl), ?_⟩
  refine List.forall_mem_cons.mpr ⟨ok_iconst C (show decode cX5_readCond 11 = .ok (.iconst 0, 1) from dk_at dq23_0 (i := 7) rfl) (by decide) rfl, ?_⟩
  refine List.forall_mem_cons.mpr ⟨ok_istore_n C (show decode cX5_readCond 12 = .ok (.istore_n 3, 1) from dk_at dq23_0 (i := 8) rfl) rfl (by decide) rfl, ?_⟩
  refine List.forall_mem_cons.mpr ⟨ok_iload_n C (show decode cX5_readCond 13 = .ok (.iload_n 3, 1) from dk_at dq23_0 (i := 9) rfl) rfl rfl, ?_⟩
  refine List.forall_mem_cons.mpr ⟨ok_bipush C (show decode cX5_readCond 14 = .ok (.bipush 20, 2) from dk_at dq23_0 (i := 10) rfl) (by decide) rfl, ?_⟩
  refine List.forall_mem_cons.mpr ⟨ok_icmpge C (show decode cX5_readCond 16 = .ok (.if_icmp .ge 44, 3) from dk_at dq23_0 (i := 11) rfl) (tg := 60) (by decide) rfl rfl, ?_⟩
  refine List.forall_mem_cons.mpr ⟨ok_aload_n C (show decode cX5_readCond 19 = .ok (.aload_n 1, 1) from dk_at dq23_0 (i := 12) rfl) rfl rfl, ?_⟩
  refine List.forall_mem_cons.mpr ⟨ok_getf C (wi_X9) rfl (by decide) kw_62 (show decode cX5_readCond 20 = .ok (.getfield 47, 3) from dk_at dq23_0 (i := 13) rfl) rfl, ?_⟩
  refine List.forall_mem_cons.mpr ⟨ok_bipush C (show decode cX5_readCond 23 = .ok (.bipush 77, 2) from dk_at dq23_0 (i := 14) rfl) (by decide) rfl, ?_⟩
  refine List.forall_mem_cons.mpr ⟨ok_icmpne C (show decode cX5_readCond 25 = .ok (.if_icmp .ne 35, 3) from dk_at dq23_0 (i := 15) rfl) (tg := 60) (by decide) rfl rfl, ?_⟩
  refine List.forall_mem_cons.mpr ⟨ok_aload_n C (show decode cX5_readCond 28 = .ok (.aload_n 1, 1) from dk_at dq23_1 (i := 0) rfl) rfl rfl, ?_⟩
  refine List.forall_mem_cons.mpr ⟨ok_callV C h_X9_step ⟨rfl, rfl⟩ rfl kw_499 kw_961 kw_497 kw_498 kw_3 rfl ds_X9_step ⟨by show 1 + 1 ≤ n + 1; omega, by show 8 + (1 + 11) + 100 ≤ 100 * (n + 1); omega⟩ (show decode cX5_readCond 29 = .ok (.invokevirtual 38, 3) from dk_at dq23_1 (i := 1) rfl) rfl, ?_⟩
  refine List.forall_mem_cons.mpr ⟨ok_aload_n C (show decode cX5_readCond 32 = .ok (.aload_n 0, 1) from dk_at dq23_1 (i := 2) rfl) rfl rfl, ?_⟩
  refine List.forall_mem_cons.mpr ⟨ok_aload_n C (show decode cX5_readCond 33 = .ok (.aload_n 1, 1) from dk_at dq23_1 (i := 3) rfl) rfl rfl, ?_⟩
  refine List.forall_mem_cons.mpr ⟨ok_iload_n C (show decode cX5_readCond 34 = .ok (.iload_n 2, 1) from dk_at dq23_1 (i := 4) rfl) rfl rfl, ?_⟩
  refine List.forall_mem_cons.mpr ⟨ok_callV C h_X5_readAll ⟨rfl, rfl⟩ rfl kw_969 kw_966 kw_968 kp_39 kw_10 rfl ds_X5_readAll ⟨by show n + 1 ≤ n + 1; omega, by show 8 + (4 + 11) + 100 * n ≤ 100 * (n + 1); omega⟩ (show decode cX5_readCond 35 = .ok (.invokevirtual 54, 3) from dk_at dq23_1 (i := 5) rfl) rfl, ?_⟩
  refine List.forall_mem_cons.mpr ⟨ok_ifeq C (show decode cX5_readCond 38 = .ok (.ifCond .eq 14, 3) from dk_at dq23_1 (i := 6) rfl) (tg := 52) (by decide) rfl rfl, ?_⟩
  refine List.forall_mem_cons.mpr ⟨ok_aload_n C (show decode cX5_readCond 41 = .ok (.aload_n 0, 1) from dk_at dq23_1 (i := 7) rfl) rfl rfl, ?_⟩
  refine List.forall_mem_cons.mpr ⟨ok_bipush C (show decode cX5_readCond 42 = .ok (.bipush 77, 2) from dk_at dq23_1 (i := 8) rfl) (by decide) rfl, ?_⟩
  refine List.forall_mem_cons.mpr ⟨ok_iconst C (show decode cX5_readCond 44 = .ok (.iconst 0, 1) from dk_at dq23_1 (i := 9) rfl) (by decide) rfl, ?_⟩
  refine List.forall_mem_cons.mpr ⟨ok_iconst C (show decode cX5_readCond 45 = .ok (.iconst 0, 1) from dk_at dq23_1 (i := 10) rfl) (by decide) rfl, ?_⟩
  refine List.forall_mem_cons.mpr ⟨ok_callV C h_X5_addOp ⟨rfl, rfl⟩ rfl kw_982 kw_979 kw_981 kp_42 kw_10 rfl ds_X5_addOp ⟨by show 1 + 1 ≤ n + 1; omega, by show 8 + (4 + 11) + 100 ≤ 100 * (n + 1); omega⟩ (show decode cX5_readCond 46 = .ok (.invokevirtual 57, 3) from dk_at dq23_1 (i := 11) rfl) rfl, ?_⟩
  refine List.forall_mem_cons.mpr ⟨ok_ifne C (show decode cX5_readCond 49 = .ok (.ifCond .ne 5, 3) from dk_at dq23_1 (i := 12) rfl) (tg := 54) (by decide) rfl rfl, ?_⟩
  refine List.forall_mem_cons.mpr ⟨ok_iconst C (show decode cX5_readCond 52 = .ok (.iconst 0, 1) from dk_at dq23_1 (i := 13) rfl) (by decide) rfl, ?_⟩
  refine List.forall_mem_cons.mpr ⟨ok_zret C rfl (show decode cX5_readCond 53 = .ok (.ireturn, 1) from dk_at dq23_1 (i := 14) rfl), ?_⟩
  refine List.forall_mem_cons.mpr ⟨ok_iinc C (show decode cX5_readCond 54 = .ok (.iinc 3 1, 3) from dk_at dq23_1 (i := 15) rfl) (by decide) (by decide) rfl, ?_⟩
  refine List.forall_mem_cons.mpr ⟨ok_goto C (show decode cX5_readCond 57 = .ok (.goto (-44), 3) from dk_at dq23_2 (i := 0) rfl) (tg := 13) (by decide) rfl, ?_⟩
  refine List.forall_mem_cons.mpr ⟨ok_iconst C (show decode cX5_readCond 60 = .ok (.iconst 1, 1) from dk_at dq23_2 (i := 1) rfl) (by decide) rfl, ?_⟩
  refine List.forall_mem_cons.mpr ⟨ok_zret C rfl (show decode cX5_readCond 61 = .ok (.ireturn, 1) from dk_at dq23_2 (i := 2) rfl), ?_⟩
  exact fun _ h => absurd h List.not_mem_nil
def L_X5_readText (f_X9_step : List Value → ab_H → Option ab_O) (f_X5_readCond : List Value → ab_H → Option ab_O) (f_X9_fail : List Value → ab_H → Option ab_O) : List (Nat × ab_A) := [
  (0, ab_nx 1 (ab_aload 0)),
  (1, ab_nx 2 (ab_lit (.int 0))),
  (2, ab_nx 5 (ab_putf 5 3 0)),
  (5, ab_nx 6 (ab_aload 0)),
  (6, ab_nx 7 (ab_lit (.int 0))),
  (7, ab_nx 10 (ab_putf 5 4 0)),
  (10, ab_nx 11 (ab_aload 1)),
  (11, ab_nx 14 (ab_callV 1 9 f_X9_step 0 0 0 0)),
  (14, ab_nx 15 (ab_aload 0)),
  (15, ab_nx 16 (ab_aload 0)),
  (16, ab_nx 17 (ab_aload 1)),
  (17, ab_nx 18 (ab_lit (.int 1))),
  (18, ab_nx 21 (ab_callV 3 5 f_X5_readCond 0 0 0 0)),
  (21, ab_if 24 43 (fun x => decide (x = 0))),
  (24, ab_nx 25 (ab_aload 1)),
  (25, ab_nx 28 (ab_getf 9 5)),
  (28, ab_if 31 39 (fun x => decide (x = 0))),
  (31, ab_nx 32 (ab_aload 1)),
  (32, ab_nx 33 (ab_lit (.int 1))),
  (33, ab_nx 36 (ab_callV 2 9 f_X9_fail 0 0 0 0)),
  (36, ab_if 39 43 (fun x => decide (x = 0))),
  (39, ab_nx 40 (ab_lit (.int 1))),
  (40, ab_goto 44),
  (43, ab_nx 44 (ab_lit (.int 0))),
  (44, ab_nx 47 (ab_putf 5 5 3)),
  (47, ab_vret 0 0)]
set_option maxRecDepth 100000 in
theorem dq23_3 : ([(0, .aload_n 0, 1), (1, .iconst 0, 1), (2, .putfield 27, 3), (5, .aload_n 0, 1), (6, .iconst 0, 1), (7, .putfield 31, 3), (10, .aload_n 1, 1), (11, .invokevirtual 38, 3), (14, .aload_n 0, 1), (15, .aload_n 0, 1), (16, .aload_n 1, 1), (17, .iconst 1, 1), (18, .invokevirtual 43, 3), (21, .ifCond .eq 22, 3), (24, .aload_n 1, 1), (25, .getfield 47, 3)] : List (Nat × Instr × Nat)).all (fun q => decide (decode cX5_readText q.1 = .ok q.2)) = true := by decide +kernel
set_option maxRecDepth 100000 in
theorem dq23_4 : ([(28, .ifCond .eq 11, 3), (31, .aload_n 1, 1), (32, .iconst 1, 1), (33, .invokevirtual 50, 3), (36, .ifCond .eq 7, 3), (39, .iconst 1, 1), (40, .goto 4, 3), (43, .iconst 0, 1), (44, .putfield 34, 3), (47, .return_, 1)] : List (Nat × Instr × Nat)).all (fun q => decide (decode cX5_readText q.1 = .ok q.2)) = true := by decide +kernel
set_option maxRecDepth 100000 in
set_option maxHeartbeats 4000000 in
theorem M_X5_readText {l : Launch} {b : ab_B} {D : va_G} {cA : Nat → ClassId} {f_X9_step : List Value → ab_H → Option ab_O} (h_X9_step : ab_M l b D ab_cl cA (ab_E0 b) yX9_step (Cond.code yX9_step cX9_step 1 none :: ab_G) ({ frames := 1, cells := 0, slots := 0, locals := 100 } : Room) f_X9_step) {f_X5_readCond : List Value → ab_H → Option ab_O} (h_X5_readCond : ab_M l b D ab_cl cA (ab_E0 b) yX5_readCond (Cond.code yX5_readCond cX5_readCond 4 (some .boolean) :: ab_G) ({ frames := 39, cells := 0, slots := 0, locals := 3900 } : Room) f_X5_readCond) {f_X9_fail : List Value → ab_H → Option ab_O} (h_X9_fail : ab_M l b D ab_cl cA (ab_E0 b) yX9_fail (Cond.code yX9_fail cX9_fail 2 (some .boolean) :: ab_G) ({ frames := 1, cells := 0, slots := 0, locals := 100 } : Room) f_X9_fail) : ab_M l b D ab_cl cA (ab_E0 b) yX5_readText (Cond.code yX5_readText cX5_readText 2 none :: ab_G) ({ frames := 40, cells := 0, slots := 0, locals := 4000 } : Room) (ab_X (ab_T (L_X5_readText f_X9_step f_X5_readCond f_X9_fail)) 2) := by
  refine ab_meth (ret := none) (L_X5_readText f_X9_step f_X5_readCond f_X9_fail) (by decide) rfl fun p e R s m args below meth c o C => ?_
  unfold L_X5_readText
  refine List.forall_mem_cons.mpr ⟨ok_aload_n C (show decode cX5_readText 0 = .ok (.aload_n 0, 1) from dk_at dq23_3 (i := 0) rfl) rfl rfl, ?_⟩
  refine List.forall_mem_cons.mpr ⟨ok_iconst C (show decode cX5_readText 1 = .ok (.iconst 0, 1) from dk_at dq23_3 (i := 1) rfl) (by decide) rfl, ?_⟩
  refine List.forall_mem_cons.mpr ⟨ok_putf C (wi_X5) tyX5 tyX5_ok nmX5 rfl (by decide) kw_297 (Or.inl rfl) (Or.inl ⟨rfl, rfl⟩) (show decode cX5_readText 2 = .ok (.putfield 27, 3) from dk_at dq23_3 (i := 2) rfl) rfl, ?_⟩
  refine List.forall_mem_cons.mpr ⟨ok_aload_n C (show decode cX5_readText 5 = .ok (.aload_n 0, 1) from dk_at dq23_3 (i := 3) rfl) rfl rfl, ?_⟩
  refine List.forall_mem_cons.mpr ⟨ok_iconst C (show decode cX5_readText 6 = .ok (.iconst 0, 1) from dk_at dq23_3 (i := 4) rfl) (by decide) rfl, ?_⟩
  refine List.forall_mem_cons.mpr ⟨ok_putf C (wi_X5) tyX5 tyX5_ok nmX5 rfl (by decide) kw_298 (Or.inl rfl) (Or.inl ⟨rfl, rfl⟩) (show decode cX5_readText 7 = .ok (.putfield 31, 3) from dk_at dq23_3 (i := 5) rfl) rfl, ?_⟩
  refine List.forall_mem_cons.mpr ⟨ok_aload_n C (show decode cX5_readText 10 = .ok (.aload_n 1, 1) from dk_at dq23_3 (i := 6) rfl) rfl rfl, ?_⟩
  refine List.forall_mem_cons.mpr ⟨ok_callV C h_X9_step ⟨rfl, rfl⟩ rfl kw_499 kw_961 kw_497 kw_498 kw_3 rfl ds_X9_step ⟨by decide, by decide⟩ (show decode cX5_readText 11 = .ok (.invokevirtual 38, 3) from dk_at dq23_3 (i := 7) rfl) rfl, ?_⟩
  refine List.forall_mem_cons.mpr ⟨ok_aload_n C (show decode cX5_readText 14 = .ok (.aload_n 0, 1) from dk_at dq23_3 (i := 8) rfl) rfl rfl, ?_⟩
  refine List.forall_mem_cons.mpr ⟨ok_aload_n C (show decode cX5_readText 15 = .ok (.aload_n 0, 1) from dk_at dq23_3 (i := 9) rfl) rfl rfl, ?_⟩
  refine List.forall_mem_cons.mpr ⟨ok_aload_n C (show decode cX5_readText 16 = .ok (.aload_n 1, 1) from dk_at dq23_3 (i := 10) rfl) rfl rfl, ?_⟩
  refine List.forall_mem_cons.mpr ⟨ok_iconst C (show decode cX5_readText 17 = .ok (.iconst 1, 1) from dk_at dq23_3 (i := 11) rfl) (by decide) rfl, ?_⟩
  refine List.forall_mem_cons.mpr ⟨ok_callV C h_X5_readCond ⟨rfl, rfl⟩ rfl kw_965 kw_962 kw_964 kp_38 kw_10 rfl ds_X5_readCond ⟨by decide, by decide⟩ (show decode cX5_readText 18 = .ok (.invokevirtual 43, 3) from dk_at dq23_3 (i := 12) rfl) rfl, ?_⟩
  refine List.forall_mem_cons.mpr ⟨ok_ifeq C (show decode cX5_readText 21 = .ok (.ifCond .eq 22, 3) from dk_at dq23_3 (i := 13) rfl) (tg := 43) (by decide) rfl rfl, ?_⟩
  refine List.forall_mem_cons.mpr ⟨ok_aload_n C (show decode cX5_readText 24 = .ok (.aload_n 1, 1) from dk_at dq23_3 (i := 14) rfl) rfl rfl, ?_⟩
  refine List.forall_mem_cons.mpr ⟨ok_getf C (wi_X9) rfl (by decide) kw_62 (show decode cX5_readText 25 = .ok (.getfield 47, 3) from dk_at dq23_3 (i := 15) rfl) rfl, ?_⟩
  refine List.forall_mem_cons.mpr ⟨ok_ifeq C (show decode cX5_readText 28 = .ok (.ifCond .eq 11, 3) from dk_at dq23_4 (i := 0) rfl) (tg := 39) (by decide) rfl rfl, ?_⟩
  refine List.forall_mem_cons.mpr ⟨ok_aload_n C (show decode cX5_readText 31 = .ok (.aload_n 1, 1) from dk_at dq23_4 (i := 1) rfl) rfl rfl, ?_⟩
  refine List.forall_mem_cons.mpr ⟨ok_iconst C (show decode cX5_readText 32 = .ok (.iconst 1, 1) from dk_at dq23_4 (i := 2) rfl) (by decide) rfl, ?_⟩
  refine List.forall_mem_cons.mpr ⟨ok_callV C h_X9_fail ⟨rfl, rfl⟩ rfl kw_520 kw_974 kw_518 kw_519 kw_3 rfl ds_X9_fail ⟨by decide, by decide⟩ (show decode cX5_readText 33 = .ok (.invokevirtual 50, 3) from dk_at dq23_4 (i := 3) rfl) rfl, ?_⟩
  refine List.forall_mem_cons.mpr ⟨ok_ifeq C (show decode cX5_readText 36 = .ok (.ifCond .eq 7, 3) from dk_at dq23_4 (i := 4) rfl) (tg := 43) (by decide) rfl rfl, ?_⟩
  refine List.forall_mem_cons.mpr ⟨ok_iconst C (show decode cX5_readText 39 = .ok (.iconst 1, 1) from dk_at dq23_4 (i := 5) rfl) (by decide) rfl, ?_⟩
  refine List.forall_mem_cons.mpr ⟨ok_goto C (show decode cX5_readText 40 = .ok (.goto 4, 3) from dk_at dq23_4 (i := 6) rfl) (tg := 44) (by decide) rfl, ?_⟩
  refine List.forall_mem_cons.mpr ⟨ok_iconst C (show decode cX5_readText 43 = .ok (.iconst 0, 1) from dk_at dq23_4 (i := 7) rfl) (by decide) rfl, ?_⟩
  refine List.forall_mem_cons.mpr ⟨ok_putf C (wi_X5) tyX5 tyX5_ok nmX5 rfl (by decide) kw_300 (Or.inl rfl) (Or.inr (Or.inr (Or.inr ⟨rfl, rfl⟩))) (show decode cX5_readText 44 = .ok (.putfield 34, 3) from dk_at dq23_4 (i := 8) rfl) rfl, ?_⟩
  refine List.forall_mem_cons.mpr ⟨ok_vret C rfl (show decode cX5_readText 47 = .ok (.return_, 1) from dk_at dq23_4 (i := 9) rfl), ?_⟩
  exact fun _ h => absurd h List.not_mem_nil
def L_X5_readAll (f_X5_readOne : List Value → ab_H → Option ab_O) (f_X9_step : List Value → ab_H → Option ab_O) (f_X5_addOp : List Value → ab_H → Option ab_O) : List (Nat × ab_A) := [
  (0, ab_nx 1 (ab_aload 0)),
  (1, ab_nx 2 (ab_aload 1)),
  (2, ab_nx 3 (ab_iload 2)),
  (3, ab_nx 6 (ab_callV 3 5 f_X5_readOne 0 0 0 0)),
  (6, ab_if 9 11 (fun x => !decide (x = 0))),
  (9, ab_nx 10 (ab_lit (.int 0))),
  (10, ab_zret 0 0),
  (11, ab_nx 12 (ab_lit (.int 0))),
  (12, ab_nx 13 (ab_istore 3)),
  (13, ab_nx 14 (ab_iload 3)),
  (14, ab_nx 16 (ab_lit (.int 20))),
  (16, ab_icmp 19 60 (fun x y => decide (y ≤ x))),
  (19, ab_nx 20 (ab_aload 1)),
  (20, ab_nx 23 (ab_getf 9 5)),
  (23, ab_nx 25 (ab_lit (.int 78))),
  (25, ab_icmp 28 60 (fun x y => !decide (x = y))),
  (28, ab_nx 29 (ab_aload 1)),
  (29, ab_nx 32 (ab_callV 1 9 f_X9_step 0 0 0 0)),
  (32, ab_nx 33 (ab_aload 0)),
  (33, ab_nx 34 (ab_aload 1)),
  (34, ab_nx 35 (ab_iload 2)),
  (35, ab_nx 38 (ab_callV 3 5 f_X5_readOne 0 0 0 0)),
  (38, ab_if 41 52 (fun x => decide (x = 0))),
  (41, ab_nx 42 (ab_aload 0)),
  (42, ab_nx 44 (ab_lit (.int 78))),
  (44, ab_nx 45 (ab_lit (.int 0))),
  (45, ab_nx 46 (ab_lit (.int 0))),
  (46, ab_nx 49 (ab_callV 4 5 f_X5_addOp 0 0 0 0)),
  (49, ab_if 52 54 (fun x => !decide (x = 0))),
  (52, ab_nx 53 (ab_lit (.int 0))),
  (53, ab_zret 0 0),
  (54, ab_nx 57 (ab_iinc 3 1)),
  (57, ab_goto 13),
  (60, ab_nx 61 (ab_lit (.int 1))),
  (61, ab_zret 0 0)]
set_option maxRecDepth 100000 in
theorem dq23_5 : ([(0, .aload_n 0, 1), (1, .aload_n 1, 1), (2, .iload_n 2, 1), (3, .invokevirtual 61, 3), (6, .ifCond .ne 5, 3), (9, .iconst 0, 1), (10, .ireturn, 1), (11, .iconst 0, 1), (12, .istore_n 3, 1), (13, .iload_n 3, 1), (14, .bipush 20, 2), (16, .if_icmp .ge 44, 3), (19, .aload_n 1, 1), (20, .getfield 47, 3), (23, .bipush 78, 2), (25, .if_icmp .ne 35, 3)] : List (Nat × Instr × Nat)).all (fun q => decide (decode cX5_readAll q.1 = .ok q.2)) = true := by decide +kernel
set_option maxRecDepth 100000 in
theorem dq23_6 : ([(28, .aload_n 1, 1), (29, .invokevirtual 38, 3), (32, .aload_n 0, 1), (33, .aload_n 1, 1), (34, .iload_n 2, 1), (35, .invokevirtual 61, 3), (38, .ifCond .eq 14, 3), (41, .aload_n 0, 1), (42, .bipush 78, 2), (44, .iconst 0, 1), (45, .iconst 0, 1), (46, .invokevirtual 57, 3), (49, .ifCond .ne 5, 3), (52, .iconst 0, 1), (53, .ireturn, 1), (54, .iinc 3 1, 3)] : List (Nat × Instr × Nat)).all (fun q => decide (decode cX5_readAll q.1 = .ok q.2)) = true := by decide +kernel
set_option maxRecDepth 100000 in
theorem dq23_7 : ([(57, .goto (-44), 3), (60, .iconst 1, 1), (61, .ireturn, 1)] : List (Nat × Instr × Nat)).all (fun q => decide (decode cX5_readAll q.1 = .ok q.2)) = true := by decide +kernel
set_option maxRecDepth 100000 in
set_option maxHeartbeats 4000000 in
theorem M_X5_readAll {l : Launch} {b : ab_B} {D : va_G} {cA : Nat → ClassId} {n : Nat} (hn : 4 ≤ n) {f_X5_readOne : List Value → ab_H → Option ab_O} (h_X5_readOne : ab_M l b D ab_cl cA (ab_E0 b) yX5_readOne (Cond.code yX5_readOne cX5_readOne 6 (some .boolean) :: ab_G) ({ frames := n, cells := 0, slots := 0, locals := 100 * n } : Room) f_X5_readOne) {f_X9_step : List Value → ab_H → Option ab_O} (h_X9_step : ab_M l b D ab_cl cA (ab_E0 b) yX9_step (Cond.code yX9_step cX9_step 1 none :: ab_G) ({ frames := 1, cells := 0, slots := 0, locals := 100 } : Room) f_X9_step) {f_X5_addOp : List Value → ab_H → Option ab_O} (h_X5_addOp : ab_M l b D ab_cl cA (ab_E0 b) yX5_addOp (Cond.code yX5_addOp cX5_addOp 4 (some .boolean) :: ab_G) ({ frames := 1, cells := 0, slots := 0, locals := 100 } : Room) f_X5_addOp) : ab_M l b D ab_cl cA (ab_E0 b) yX5_readAll (Cond.code yX5_readAll cX5_readAll 4 (some .boolean) :: ab_G) ({ frames := (n + 1), cells := 0, slots := 0, locals := 100 * (n + 1) } : Room) (ab_X (ab_T (L_X5_readAll f_X5_readOne f_X9_step f_X5_addOp)) 4) := by
  refine ab_meth (ret := (some .boolean)) (L_X5_readAll f_X5_readOne f_X9_step f_X5_addOp) (by decide) rfl fun p e R s m args below meth c o C => ?_
  unfold L_X5_readAll
  refine List.forall_mem_cons.mpr ⟨ok_aload_n C (show decode cX5_readAll 0 = .ok (.aload_n 0, 1) from dk_at dq23_5 (i := 0) rfl) rfl rfl, ?_⟩
  refine List.forall_mem_cons.mpr ⟨ok_aload_n C (show decode cX5_readAll 1 = .ok (.aload_n 1, 1) from dk_at dq23_5 (i := 1) rfl) rfl rfl, ?_⟩
  refine List.forall_mem_cons.mpr ⟨ok_iload_n C (show decode cX5_readAll 2 = .ok (.iload_n 2, 1) from dk_at dq23_5 (i := 2) rfl) rfl rfl, ?_⟩
  refine List.forall_mem_cons.mpr ⟨ok_callV C h_X5_readOne ⟨rfl, rfl⟩ rfl kw_973 kw_970 kw_972 kp_40 kw_10 rfl ds_X5_readOne ⟨by show n + 1 ≤ n + 1; omega, by show 8 + (6 + 11) + 100 * n ≤ 100 * (n + 1); omega⟩ (show decode cX5_readAll 3 = .ok (.invokevirtual 61, 3) from dk_at dq23_5 (i := 3) rfl) rfl, ?_⟩
  refine List.forall_mem_cons.mpr ⟨ok_ifne C (show decode cX5_readAll 6 = .ok (.ifCond .ne 5, 3) from dk_at dq23_5 (i := 4) rfl) (tg := 11) (by decide) rfl rfl, ?_⟩
  refine List.forall_mem_cons.mpr ⟨ok_iconst C (show decode cX5_readAll 9 = .ok (.iconst 0, 1) from dk_at dq23_5 (i := 5) rfl) (by decide) rfl, ?_⟩
  refine List.forall_mem_cons.mpr ⟨ok_zret C rfl (show decode cX5_readAll 10 = .ok (.ireturn, 1) from dk_at dq23_5 (i := 6) rfl), ?_⟩
  refine List.forall_mem_cons.mpr ⟨ok_iconst C (show decode cX5_readAll 11 = .ok (.iconst 0, 1) from dk_at dq23_5 (i := 7) rfl) (by decide) rfl, ?_⟩
  refine List.forall_mem_cons.mpr ⟨ok_istore_n C (show decode cX5_readAll 12 = .ok (.istore_n 3, 1) from dk_at dq23_5 (i := 8) rfl) rfl (by decide) rfl, ?_⟩
  refine List.forall_mem_cons.mpr ⟨ok_iload_n C (show decode cX5_readAll 13 = .ok (.iload_n 3, 1) from dk_at dq23_5 (i := 9) rfl) rfl rfl, ?_⟩
  refine List.forall_mem_cons.mpr ⟨ok_bipush C (show decode cX5_readAll 14 = .ok (.bipush 20, 2) from dk_at dq23_5 (i := 10) rfl) (by decide) rfl, ?_⟩
  refine List.forall_mem_cons.mpr ⟨ok_icmpge C (show decode cX5_readAll 16 = .ok (.if_icmp .ge 44, 3) from dk_at dq23_5 (i := 11) rfl) (tg := 60) (by decide) rfl rfl, ?_⟩
  refine List.forall_mem_cons.mpr ⟨ok_aload_n C (show decode cX5_readAll 19 = .ok (.aload_n 1, 1) from dk_at dq23_5 (i := 12) rfl) rfl rfl, ?_⟩
  refine List.forall_mem_cons.mpr ⟨ok_getf C (wi_X9) rfl (by decide) kw_62 (show decode cX5_readAll 20 = .ok (.getfield 47, 3) from dk_at dq23_5 (i := 13) rfl) rfl, ?_⟩
  refine List.forall_mem_cons.mpr ⟨ok_bipush C (show decode cX5_readAll 23 = .ok (.bipush 78, 2) from dk_at dq23_5 (i := 14) rfl) (by decide) rfl, ?_⟩
  refine List.forall_mem_cons.mpr ⟨ok_icmpne C (show decode cX5_readAll 25 = .ok (.if_icmp .ne 35, 3) from dk_at dq23_5 (i := 15) rfl) (tg := 60) (by decide) rfl rfl, ?_⟩
  refine List.forall_mem_cons.mpr ⟨ok_aload_n C (show decode cX5_readAll 28 = .ok (.aload_n 1, 1) from dk_at dq23_6 (i := 0) rfl) rfl rfl, ?_⟩
  refine List.forall_mem_cons.mpr ⟨ok_callV C h_X9_step ⟨rfl, rfl⟩ rfl kw_499 kw_961 kw_497 kw_498 kw_3 rfl ds_X9_step ⟨by show 1 + 1 ≤ n + 1; omega, by show 8 + (1 + 11) + 100 ≤ 100 * (n + 1); omega⟩ (show decode cX5_readAll 29 = .ok (.invokevirtual 38, 3) from dk_at dq23_6 (i := 1) rfl) rfl, ?_⟩
  refine List.forall_mem_cons.mpr ⟨ok_aload_n C (show decode cX5_readAll 32 = .ok (.aload_n 0, 1) from dk_at dq23_6 (i := 2) rfl) rfl rfl, ?_⟩
  refine List.forall_mem_cons.mpr ⟨ok_aload_n C (show decode cX5_readAll 33 = .ok (.aload_n 1, 1) from dk_at dq23_6 (i := 3) rfl) rfl rfl, ?_⟩
  refine List.forall_mem_cons.mpr ⟨ok_iload_n C (show decode cX5_readAll 34 = .ok (.iload_n 2, 1) from dk_at dq23_6 (i := 4) rfl) rfl rfl, ?_⟩
  refine List.forall_mem_cons.mpr ⟨ok_callV C h_X5_readOne ⟨rfl, rfl⟩ rfl kw_973 kw_970 kw_972 kp_40 kw_10 rfl ds_X5_readOne ⟨by show n + 1 ≤ n + 1; omega, by show 8 + (6 + 11) + 100 * n ≤ 100 * (n + 1); omega⟩ (show decode cX5_readAll 35 = .ok (.invokevirtual 61, 3) from dk_at dq23_6 (i := 5) rfl) rfl, ?_⟩
  refine List.forall_mem_cons.mpr ⟨ok_ifeq C (show decode cX5_readAll 38 = .ok (.ifCond .eq 14, 3) from dk_at dq23_6 (i := 6) rfl) (tg := 52) (by decide) rfl rfl, ?_⟩
  refine List.forall_mem_cons.mpr ⟨ok_aload_n C (show decode cX5_readAll 41 = .ok (.aload_n 0, 1) from dk_at dq23_6 (i := 7) rfl) rfl rfl, ?_⟩
  refine List.forall_mem_cons.mpr ⟨ok_bipush C (show decode cX5_readAll 42 = .ok (.bipush 78, 2) from dk_at dq23_6 (i := 8) rfl) (by decide) rfl, ?_⟩
  refine List.forall_mem_cons.mpr ⟨ok_iconst C (show decode cX5_readAll 44 = .ok (.iconst 0, 1) from dk_at dq23_6 (i := 9) rfl) (by decide) rfl, ?_⟩
  refine List.forall_mem_cons.mpr ⟨ok_iconst C (show decode cX5_readAll 45 = .ok (.iconst 0, 1) from dk_at dq23_6 (i := 10) rfl) (by decide) rfl, ?_⟩
  refine List.forall_mem_cons.mpr ⟨ok_callV C h_X5_addOp ⟨rfl, rfl⟩ rfl kw_982 kw_979 kw_981 kp_42 kw_10 rfl ds_X5_addOp ⟨by show 1 + 1 ≤ n + 1; omega, by show 8 + (4 + 11) + 100 ≤ 100 * (n + 1); omega⟩ (show decode cX5_readAll 46 = .ok (.invokevirtual 57, 3) from dk_at dq23_6 (i := 11) rfl) rfl, ?_⟩
  refine List.forall_mem_cons.mpr ⟨ok_ifne C (show decode cX5_readAll 49 = .ok (.ifCond .ne 5, 3) from dk_at dq23_6 (i := 12) rfl) (tg := 54) (by decide) rfl rfl, ?_⟩
  refine List.forall_mem_cons.mpr ⟨ok_iconst C (show decode cX5_readAll 52 = .ok (.iconst 0, 1) from dk_at dq23_6 (i := 13) rfl) (by decide) rfl, ?_⟩
  refine List.forall_mem_cons.mpr ⟨ok_zret C rfl (show decode cX5_readAll 53 = .ok (.ireturn, 1) from dk_at dq23_6 (i := 14) rfl), ?_⟩
  refine List.forall_mem_cons.mpr ⟨ok_iinc C (show decode cX5_readAll 54 = .ok (.iinc 3 1, 3) from dk_at dq23_6 (i := 15) rfl) (by decide) (by decide) rfl, ?_⟩
  refine List.forall_mem_cons.mpr ⟨ok_goto C (show decode cX5_readAll 57 = .ok (.goto (-44), 3) from dk_at dq23_7 (i := 0) rfl) (tg := 13) (by decide) rfl, ?_⟩
  refine List.forall_mem_cons.mpr ⟨ok_iconst C (show decode cX5_readAll 60 = .ok (.iconst 1, 1) from dk_at dq23_7 (i := 1) rfl) (by decide) rfl, ?_⟩
  refine List.forall_mem_cons.mpr ⟨ok_zret C rfl (show decode cX5_readAll 61 = .ok (.ireturn, 1) from dk_at dq23_7 (i := 2) rfl), ?_⟩
  exact fun _ h => absurd h List.not_mem_nil
def L_X5_readOne (f_X9_fail : List Value → ab_H → Option ab_O) (f_X5_readBracket : List Value → ab_H → Option ab_O) (f_X9_step : List Value → ab_H → Option ab_O) (f_X5_readOne : List Value → ab_H → Option ab_O) (f_X5_addOp : List Value → ab_H → Option ab_O) (f_X5_readOnShore : List Value → ab_H → Option ab_O) (f_X5_readCompared : List Value → ab_H → Option ab_O) : List (Nat × ab_A) := [
  (0, ab_nx 1 (ab_aload 1)),
  (1, ab_nx 4 (ab_getf 9 5)),
  (4, ab_nx 6 (ab_lit (.int 40))),
  (6, ab_icmp 9 13 (fun x y => !decide (x = y))),
  (9, ab_nx 10 (ab_lit (.int 1))),
  (10, ab_goto 14),
  (13, ab_nx 14 (ab_lit (.int 0))),
  (14, ab_nx 15 (ab_istore 3)),
  (15, ab_nx 16 (ab_iload 3)),
  (16, ab_if 19 37 (fun x => !decide (x = 0))),
  (19, ab_nx 20 (ab_aload 1)),
  (20, ab_nx 23 (ab_getf 9 5)),
  (23, ab_nx 25 (ab_lit (.int 79))),
  (25, ab_icmp 28 41 (fun x y => decide (x < y))),
  (28, ab_nx 29 (ab_aload 1)),
  (29, ab_nx 32 (ab_getf 9 5)),
  (32, ab_nx 34 (ab_lit (.int 88))),
  (34, ab_icmp 37 41 (fun x y => decide (y < x))),
  (37, ab_nx 38 (ab_lit (.int 1))),
  (38, ab_goto 42),
  (41, ab_nx 42 (ab_lit (.int 0))),
  (42, ab_nx 44 (ab_istore 4)),
  (44, ab_nx 46 (ab_iload 4)),
  (46, ab_if 49 55 (fun x => !decide (x = 0))),
  (49, ab_nx 50 (ab_aload 1)),
  (50, ab_nx 51 (ab_lit (.int 1))),
  (51, ab_nx 54 (ab_callV 2 9 f_X9_fail 0 0 0 0)),
  (54, ab_zret 0 0),
  (55, ab_nx 56 (ab_aload 0)),
  (56, ab_nx 59 (ab_getf 5 4)),
  (59, ab_nx 61 (ab_lit (.int 20))),
  (61, ab_icmp 64 70 (fun x y => decide (y ≤ x))),
  (64, ab_nx 65 (ab_iload 2)),
  (65, ab_nx 67 (ab_lit (.int 8))),
  (67, ab_icmp 70 76 (fun x y => decide (x ≤ y))),
  (70, ab_nx 71 (ab_aload 1)),
  (71, ab_nx 72 (ab_lit (.int 4))),
  (72, ab_nx 75 (ab_callV 2 9 f_X9_fail 0 0 0 0)),
  (75, ab_zret 0 0),
  (76, ab_nx 77 (ab_aload 0)),
  (77, ab_nx 78 ab_dup),
  (78, ab_nx 81 (ab_getf 5 4)),
  (81, ab_nx 82 (ab_lit (.int 1))),
  (82, ab_nx 83 (ab_bin (fun x y => x + y))),
  (83, ab_nx 86 (ab_putf 5 4 0)),
  (86, ab_nx 87 (ab_iload 3)),
  (87, ab_if 90 97 (fun x => decide (x = 0))),
  (90, ab_nx 91 (ab_aload 0)),
  (91, ab_nx 92 (ab_aload 1)),
  (92, ab_nx 93 (ab_iload 2)),
  (93, ab_nx 96 (ab_callV 3 5 f_X5_readBracket 0 0 0 0)),
  (96, ab_zret 0 0),
  (97, ab_nx 98 (ab_aload 1)),
  (98, ab_nx 101 (ab_getf 9 5)),
  (101, ab_nx 103 (ab_istore 5)),
  (103, ab_nx 105 (ab_iload 5)),
  (105, ab_nx 107 (ab_lit (.int 79))),
  (107, ab_icmp 110 142 (fun x y => !decide (x = y))),
  (110, ab_nx 111 (ab_aload 1)),
  (111, ab_nx 114 (ab_callV 1 9 f_X9_step 0 0 0 0)),
  (114, ab_nx 115 (ab_aload 0)),
  (115, ab_nx 116 (ab_aload 1)),
  (116, ab_nx 117 (ab_iload 2)),
  (117, ab_nx 118 (ab_lit (.int 1))),
  (118, ab_nx 119 (ab_bin (fun x y => x + y))),
  (119, ab_nx 122 (ab_callV 3 5 f_X5_readOne 0 0 0 0)),
  (122, ab_if 125 140 (fun x => decide (x = 0))),
  (125, ab_nx 126 (ab_aload 0)),
  (126, ab_nx 128 (ab_lit (.int 79))),
  (128, ab_nx 129 (ab_lit (.int 0))),
  (129, ab_nx 130 (ab_lit (.int 0))),
  (130, ab_nx 133 (ab_callV 4 5 f_X5_addOp 0 0 0 0)),
  (133, ab_if 136 140 (fun x => decide (x = 0))),
  (136, ab_nx 137 (ab_lit (.int 1))),
  (137, ab_goto 141),
  (140, ab_nx 141 (ab_lit (.int 0))),
  (141, ab_zret 0 0),
  (142, ab_nx 144 (ab_iload 5)),
  (144, ab_nx 146 (ab_lit (.int 84))),
  (146, ab_icmp 149 159 (fun x y => decide (y < x))),
  (149, ab_nx 150 (ab_aload 0)),
  (150, ab_nx 151 (ab_aload 1)),
  (151, ab_nx 153 (ab_iload 5)),
  (153, ab_nx 156 (ab_callV 3 5 f_X5_readOnShore 0 0 0 0)),
  (156, ab_goto 166),
  (159, ab_nx 160 (ab_aload 0)),
  (160, ab_nx 161 (ab_aload 1)),
  (161, ab_nx 163 (ab_iload 5)),
  (163, ab_nx 166 (ab_callV 3 5 f_X5_readCompared 0 0 0 0)),
  (166, ab_zret 0 0)]
set_option maxRecDepth 100000 in
theorem dq23_8 : ([(0, .aload_n 1, 1), (1, .getfield 47, 3), (4, .bipush 40, 2), (6, .if_icmp .ne 7, 3), (9, .iconst 1, 1), (10, .goto 4, 3), (13, .iconst 0, 1), (14, .istore_n 3, 1), (15, .iload_n 3, 1), (16, .ifCond .ne 21, 3), (19, .aload_n 1, 1), (20, .getfield 47, 3), (23, .bipush 79, 2), (25, .if_icmp .lt 16, 3), (28, .aload_n 1, 1), (29, .getfield 47, 3)] : List (Nat × Instr × Nat)).all (fun q => decide (decode cX5_readOne q.1 = .ok q.2)) = true := by decide +kernel
set_option maxRecDepth 100000 in
theorem dq23_9 : ([(32, .bipush 88, 2), (34, .if_icmp .gt 7, 3), (37, .iconst 1, 1), (38, .goto 4, 3), (41, .iconst 0, 1), (42, .istore 4, 2), (44, .iload 4, 2), (46, .ifCond .ne 9, 3), (49, .aload_n 1, 1), (50, .iconst 1, 1), (51, .invokevirtual 50, 3), (54, .ireturn, 1), (55, .aload_n 0, 1), (56, .getfield 31, 3), (59, .bipush 20, 2), (61, .if_icmp .ge 9, 3)] : List (Nat × Instr × Nat)).all (fun q => decide (decode cX5_readOne q.1 = .ok q.2)) = true := by decide +kernel
set_option maxRecDepth 100000 in
theorem dq23_10 : ([(64, .iload_n 2, 1), (65, .bipush 8, 2), (67, .if_icmp .le 9, 3), (70, .aload_n 1, 1), (71, .iconst 4, 1), (72, .invokevirtual 50, 3), (75, .ireturn, 1), (76, .aload_n 0, 1), (77, .dup, 1), (78, .getfield 31, 3), (81, .iconst 1, 1), (82, .iadd, 1), (83, .putfield 31, 3), (86, .iload_n 3, 1), (87, .ifCond .eq 10, 3), (90, .aload_n 0, 1)] : List (Nat × Instr × Nat)).all (fun q => decide (decode cX5_readOne q.1 = .ok q.2)) = true := by decide +kernel
set_option maxRecDepth 100000 in
theorem dq23_11 : ([(91, .aload_n 1, 1), (92, .iload_n 2, 1), (93, .invokevirtual 64, 3), (96, .ireturn, 1), (97, .aload_n 1, 1), (98, .getfield 47, 3), (101, .istore 5, 2), (103, .iload 5, 2), (105, .bipush 79, 2), (107, .if_icmp .ne 35, 3), (110, .aload_n 1, 1), (111, .invokevirtual 38, 3), (114, .aload_n 0, 1), (115, .aload_n 1, 1), (116, .iload_n 2, 1), (117, .iconst 1, 1)] : List (Nat × Instr × Nat)).all (fun q => decide (decode cX5_readOne q.1 = .ok q.2)) = true := by decide +kernel
set_option maxRecDepth 100000 in
theorem dq23_12 : ([(118, .iadd, 1), (119, .invokevirtual 61, 3), (122, .ifCond .eq 18, 3), (125, .aload_n 0, 1), (126, .bipush 79, 2), (128, .iconst 0, 1), (129, .iconst 0, 1), (130, .invokevirtual 57, 3), (133, .ifCond .eq 7, 3), (136, .iconst 1, 1), (137, .goto 4, 3), (140, .iconst 0, 1), (141, .ireturn, 1), (142, .iload 5, 2), (144, .bipush 84, 2), (146, .if_icmp .gt 13, 3)] : List (Nat × Instr × Nat)).all (fun q => decide (decode cX5_readOne q.1 = .ok q.2)) = true := by decide +kernel
set_option maxRecDepth 100000 in
theorem dq23_13 : ([(149, .aload_n 0, 1), (150, .aload_n 1, 1), (151, .iload 5, 2), (153, .invokevirtual 67, 3), (156, .goto 10, 3), (159, .aload_n 0, 1), (160, .aload_n 1, 1), (161, .iload 5, 2), (163, .invokevirtual 70, 3), (166, .ireturn, 1)] : List (Nat × Instr × Nat)).all (fun q => decide (decode cX5_readOne q.1 = .ok q.2)) = true := by decide +kernel
set_option maxRecDepth 100000 in
set_option maxHeartbeats 4000000 in
theorem M_X5_readOne {l : Launch} {b : ab_B} {D : va_G} {cA : Nat → ClassId} {n n2 : Nat} (hn : 4 ≤ n) (hn2 : n2 ≤ n) {f_X9_fail : List Value → ab_H → Option ab_O} (h_X9_fail : ab_M l b D ab_cl cA (ab_E0 b) yX9_fail (Cond.code yX9_fail cX9_fail 2 (some .boolean) :: ab_G) ({ frames := 1, cells := 0, slots := 0, locals := 100 } : Room) f_X9_fail) {f_X5_readBracket : List Value → ab_H → Option ab_O} (h_X5_readBracket : ab_M l b D ab_cl cA (ab_E0 b) yX5_readBracket (Cond.code yX5_readBracket cX5_readBracket 3 (some .boolean) :: ab_G) ({ frames := n, cells := 0, slots := 0, locals := 100 * n } : Room) f_X5_readBracket) {f_X9_step : List Value → ab_H → Option ab_O} (h_X9_step : ab_M l b D ab_cl cA (ab_E0 b) yX9_step (Cond.code yX9_step cX9_step 1 none :: ab_G) ({ frames := 1, cells := 0, slots := 0, locals := 100 } : Room) f_X9_step) {f_X5_readOne : List Value → ab_H → Option ab_O} (h_X5_readOne : ab_M l b D ab_cl cA (ab_E0 b) yX5_readOne (Cond.code yX5_readOne cX5_readOne 6 (some .boolean) :: ab_G) ({ frames := n2, cells := 0, slots := 0, locals := 100 * n2 } : Room) f_X5_readOne) {f_X5_addOp : List Value → ab_H → Option ab_O} (h_X5_addOp : ab_M l b D ab_cl cA (ab_E0 b) yX5_addOp (Cond.code yX5_addOp cX5_addOp 4 (some .boolean) :: ab_G) ({ frames := 1, cells := 0, slots := 0, locals := 100 } : Room) f_X5_addOp) {f_X5_readOnShore : List Value → ab_H → Option ab_O} (h_X5_readOnShore : ab_M l b D ab_cl cA (ab_E0 b) yX5_readOnShore (Cond.code yX5_readOnShore cX5_readOnShore 4 (some .boolean) :: ab_G) ({ frames := 3, cells := 0, slots := 0, locals := 300 } : Room) f_X5_readOnShore) {f_X5_readCompared : List Value → ab_H → Option ab_O} (h_X5_readCompared : ab_M l b D ab_cl cA (ab_E0 b) yX5_readCompared (Cond.code yX5_readCompared cX5_readCompared 5 (some .boolean) :: ab_G) ({ frames := 3, cells := 0, slots := 0, locals := 300 } : Room) f_X5_readCompared) : ab_M l b D ab_cl cA (ab_E0 b) yX5_readOne (Cond.code yX5_readOne cX5_readOne 6 (some .boolean) :: ab_G) ({ frames := (n + 1), cells := 0, slots := 0, locals := 100 * (n + 1) } : Room) (ab_X (ab_T (L_X5_readOne f_X9_fail f_X5_readBracket f_X9_step f_X5_readOne f_X5_addOp f_X5_readOnShore f_X5_readCompared)) 6) := by
  refine ab_meth (ret := (some .boolean)) (L_X5_readOne f_X9_fail f_X5_readBracket f_X9_step f_X5_readOne f_X5_addOp f_X5_readOnShore f_X5_readCompared) (by decide) rfl fun p e R s m args below meth c o C => ?_
  unfold L_X5_readOne
  refine List.forall_mem_cons.mpr ⟨ok_aload_n C (show decode cX5_readOne 0 = .ok (.aload_n 1, 1) from dk_at dq23_8 (i := 0) rfl) rfl rfl, ?_⟩
  refine List.forall_mem_cons.mpr ⟨ok_getf C (wi_X9) rfl (by decide) kw_62 (show decode cX5_readOne 1 = .ok (.getfield 47, 3) from dk_at dq23_8 (i := 1) rfl) rfl, ?_⟩
  refine List.forall_mem_cons.mpr ⟨ok_bipush C (show decode cX5_readOne 4 = .ok (.bipush 40, 2) from dk_at dq23_8 (i := 2) rfl) (by decide) rfl, ?_⟩
  refine List.forall_mem_cons.mpr ⟨ok_icmpne C (show decode cX5_readOne 6 = .ok (.if_icmp .ne 7, 3) from dk_at dq23_8 (i := 3) rfl) (tg := 13) (by decide) rfl rfl, ?_⟩
  refine List.forall_mem_cons.mpr ⟨ok_iconst C (show decode cX5_readOne 9 = .ok (.iconst 1, 1) from dk_at dq23_8 (i := 4) rfl) (by decide) rfl, ?_⟩
  refine List.forall_mem_cons.mpr ⟨ok_goto C (show decode cX5_readOne 10 = .ok (.goto 4, 3) from dk_at dq23_8 (i := 5) rfl) (tg := 14) (by decide) rfl, ?_⟩
  refine List.forall_mem_cons.mpr ⟨ok_iconst C (show decode cX5_readOne 13 = .ok (.iconst 0, 1) from dk_at dq23_8 (i := 6) rfl) (by decide) rfl, ?_⟩
  refine List.forall_mem_cons.mpr ⟨ok_istore_n C (show decode cX5_readOne 14 = .ok (.istore_n 3, 1) from dk_at dq23_8 (i := 7) rfl) rfl (by decide) rfl, ?_⟩
  refine List.forall_mem_cons.mpr ⟨ok_iload_n C (show decode cX5_readOne 15 = .ok (.iload_n 3, 1) from dk_at dq23_8 (i := 8) rfl) rfl rfl, ?_⟩
  refine List.forall_mem_cons.mpr ⟨ok_ifne C (show decode cX5_readOne 16 = .ok (.ifCond .ne 21, 3) from dk_at dq23_8 (i := 9) rfl) (tg := 37) (by decide) rfl rfl, ?_⟩
  refine List.forall_mem_cons.mpr ⟨ok_aload_n C (show decode cX5_readOne 19 = .ok (.aload_n 1, 1) from dk_at dq23_8 (i := 10) rfl) rfl rfl, ?_⟩
  refine List.forall_mem_cons.mpr ⟨ok_getf C (wi_X9) rfl (by decide) kw_62 (show decode cX5_readOne 20 = .ok (.getfield 47, 3) from dk_at dq23_8 (i := 11) rfl) rfl, ?_⟩
  refine List.forall_mem_cons.mpr ⟨ok_bipush C (show decode cX5_readOne 23 = .ok (.bipush 79, 2) from dk_at dq23_8 (i := 12) rfl) (by decide) rfl, ?_⟩
  refine List.forall_mem_cons.mpr ⟨ok_icmplt C (show decode cX5_readOne 25 = .ok (.if_icmp .lt 16, 3) from dk_at dq23_8 (i := 13) rfl) (tg := 41) (by decide) rfl rfl, ?_⟩
  refine List.forall_mem_cons.mpr ⟨ok_aload_n C (show decode cX5_readOne 28 = .ok (.aload_n 1, 1) from dk_at dq23_8 (i := 14) rfl) rfl rfl, ?_⟩
  refine List.forall_mem_cons.mpr ⟨ok_getf C (wi_X9) rfl (by decide) kw_62 (show decode cX5_readOne 29 = .ok (.getfield 47, 3) from dk_at dq23_8 (i := 15) rfl) rfl, ?_⟩
  refine List.forall_mem_cons.mpr ⟨ok_bipush C (show decode cX5_readOne 32 = .ok (.bipush 88, 2) from dk_at dq23_9 (i := 0) rfl) (by decide) rfl, ?_⟩
  refine List.forall_mem_cons.mpr ⟨ok_icmpgt C (show decode cX5_readOne 34 = .ok (.if_icmp .gt 7, 3) from dk_at dq23_9 (i := 1) rfl) (tg := 41) (by decide) rfl rfl, ?_⟩
  refine List.forall_mem_cons.mpr ⟨ok_iconst C (show decode cX5_readOne 37 = .ok (.iconst 1, 1) from dk_at dq23_9 (i := 2) rfl) (by decide) rfl, ?_⟩
  refine List.forall_mem_cons.mpr ⟨ok_goto C (show decode cX5_readOne 38 = .ok (.goto 4, 3) from dk_at dq23_9 (i := 3) rfl) (tg := 42) (by decide) rfl, ?_⟩
  refine List.forall_mem_cons.mpr ⟨ok_iconst C (show decode cX5_readOne 41 = .ok (.iconst 0, 1) from dk_at dq23_9 (i := 4) rfl) (by decide) rfl, ?_⟩
  refine List.forall_mem_cons.mpr ⟨ok_istore C (show decode cX5_readOne 42 = .ok (.istore 4, 2) from dk_at dq23_9 (i := 5) rfl) (by decide) rfl, ?_⟩
  refine List.forall_mem_cons.mpr ⟨ok_iload C (show decode cX5_readOne 44 = .ok (.iload 4, 2) from dk_at dq23_9 (i := 6) rfl) rfl, ?_⟩
  refine List.forall_mem_cons.mpr ⟨ok_ifne C (show decode cX5_readOne 46 = .ok (.ifCond .ne 9, 3) from dk_at dq23_9 (i := 7) rfl) (tg := 55) (by decide) rfl rfl, ?_⟩
  refine List.forall_mem_cons.mpr ⟨ok_aload_n C (show decode cX5_readOne 49 = .ok (.aload_n 1, 1) from dk_at dq23_9 (i := 8) rfl) rfl rfl, ?_⟩
  refine List.forall_mem_cons.mpr ⟨ok_iconst C (show decode cX5_readOne 50 = .ok (.iconst 1, 1) from dk_at dq23_9 (i := 9) rfl) (by decide) rfl, ?_⟩
  refine List.forall_mem_cons.mpr ⟨ok_callV C h_X9_fail ⟨rfl, rfl⟩ rfl kw_520 kw_974 kw_518 kw_519 kw_3 rfl ds_X9_fail ⟨by show 1 + 1 ≤ n + 1; omega, by show 8 + (2 + 11) + 100 ≤ 100 * (n + 1); omega⟩ (show decode cX5_readOne 51 = .ok (.invokevirtual 50, 3) from dk_at dq23_9 (i := 10) rfl) rfl, ?_⟩
  refine List.forall_mem_cons.mpr ⟨ok_zret C rfl (show decode cX5_readOne 54 = .ok (.ireturn, 1) from dk_at dq23_9 (i := 11) rfl), ?_⟩
  refine List.forall_mem_cons.mpr ⟨ok_aload_n C (show decode cX5_readOne 55 = .ok (.aload_n 0, 1) from dk_at dq23_9 (i := 12) rfl) rfl rfl, ?_⟩
  refine List.forall_mem_cons.mpr ⟨ok_getf C (wi_X5) rfl (by decide) kw_298 (show decode cX5_readOne 56 = .ok (.getfield 31, 3) from dk_at dq23_9 (i := 13) rfl) rfl, ?_⟩
  refine List.forall_mem_cons.mpr ⟨ok_bipush C (show decode cX5_readOne 59 = .ok (.bipush 20, 2) from dk_at dq23_9 (i := 14) rfl) (by decide) rfl, ?_⟩
  refine List.forall_mem_cons.mpr ⟨ok_icmpge C (show decode cX5_readOne 61 = .ok (.if_icmp .ge 9, 3) from dk_at dq23_9 (i := 15) rfl) (tg := 70) (by decide) rfl rfl, ?_⟩
  refine List.forall_mem_cons.mpr ⟨ok_iload_n C (show decode cX5_readOne 64 = .ok (.iload_n 2, 1) from dk_at dq23_10 (i := 0) rfl) rfl rfl, ?_⟩
  refine List.forall_mem_cons.mpr ⟨ok_bipush C (show decode cX5_readOne 65 = .ok (.bipush 8, 2) from dk_at dq23_10 (i := 1) rfl) (by decide) rfl, ?_⟩
  refine List.forall_mem_cons.mpr ⟨ok_icmple C (show decode cX5_readOne 67 = .ok (.if_icmp .le 9, 3) from dk_at dq23_10 (i := 2) rfl) (tg := 76) (by decide) rfl rfl, ?_⟩
  refine List.forall_mem_cons.mpr ⟨ok_aload_n C (show decode cX5_readOne 70 = .ok (.aload_n 1, 1) from dk_at dq23_10 (i := 3) rfl) rfl rfl, ?_⟩
  refine List.forall_mem_cons.mpr ⟨ok_iconst C (show decode cX5_readOne 71 = .ok (.iconst 4, 1) from dk_at dq23_10 (i := 4) rfl) (by decide) rfl, ?_⟩
  refine List.forall_mem_cons.mpr ⟨ok_callV C h_X9_fail ⟨rfl, rfl⟩ rfl kw_520 kw_974 kw_518 kw_519 kw_3 rfl ds_X9_fail ⟨by show 1 + 1 ≤ n + 1; omega, by show 8 + (2 + 11) + 100 ≤ 100 * (n + 1); omega⟩ (show decode cX5_readOne 72 = .ok (.invokevirtual 50, 3) from dk_at dq23_10 (i := 5) rfl) rfl, ?_⟩
  refine List.forall_mem_cons.mpr ⟨ok_zret C rfl (show decode cX5_readOne 75 = .ok (.ireturn, 1) from dk_at dq23_10 (i := 6) rfl), ?_⟩
  refine List.forall_mem_cons.mpr ⟨ok_aload_n C (show decode cX5_readOne 76 = .ok (.aload_n 0, 1) from dk_at dq23_10 (i := 7) rfl) rfl rfl, ?_⟩
  refine List.forall_mem_cons.mpr ⟨ok_dup C (show decode cX5_readOne 77 = .ok (.dup, 1) from dk_at dq23_10 (i := 8) rfl) rfl, ?_⟩
  refine List.forall_mem_cons.mpr ⟨ok_getf C (wi_X5) rfl (by decide) kw_298 (show decode cX5_readOne 78 = .ok (.getfield 31, 3) from dk_at dq23_10 (i := 9) rfl) rfl, ?_⟩
  refine List.forall_mem_cons.mpr ⟨ok_iconst C (show decode cX5_readOne 81 = .ok (.iconst 1, 1) from dk_at dq23_10 (i := 10) rfl) (by decide) rfl, ?_⟩
  refine List.forall_mem_cons.mpr ⟨ok_iadd C (show decode cX5_readOne 82 = .ok (.iadd, 1) from dk_at dq23_10 (i := 11) rfl) rfl, ?_⟩
  refine List.forall_mem_cons.mpr ⟨ok_putf C (wi_X5) tyX5 tyX5_ok nmX5 rfl (by decide) kw_298 (Or.inl rfl) (Or.inl ⟨rfl, rfl⟩) (show decode cX5_readOne 83 = .ok (.putfield 31, 3) from dk_at dq23_10 (i := 12) rfl) rfl, ?_⟩
  refine List.forall_mem_cons.mpr ⟨ok_iload_n C (show decode cX5_readOne 86 = .ok (.iload_n 3, 1) from dk_at dq23_10 (i := 13) rfl) rfl rfl, ?_⟩
  refine List.forall_mem_cons.mpr ⟨ok_ifeq C (show decode cX5_readOne 87 = .ok (.ifCond .eq 10, 3) from dk_at dq23_10 (i := 14) rfl) (tg := 97) (by decide) rfl rfl, ?_⟩
  refine List.forall_mem_cons.mpr ⟨ok_aload_n C (show decode cX5_readOne 90 = .ok (.aload_n 0, 1) from dk_at dq23_10 (i := 15) rfl) rfl rfl, ?_⟩
  refine List.forall_mem_cons.mpr ⟨ok_aload_n C (show decode cX5_readOne 91 = .ok (.aload_n 1, 1) from dk_at dq23_11 (i := 0) rfl) rfl rfl, ?_⟩
  refine List.forall_mem_cons.mpr ⟨ok_iload_n C (show decode cX5_readOne 92 = .ok (.iload_n 2, 1) from dk_at dq23_11 (i := 1) rfl) rfl rfl, ?_⟩
  refine List.forall_mem_cons.mpr ⟨ok_callV C h_X5_readBracket ⟨rfl, rfl⟩ rfl kw_978 kw_975 kw_977 kp_41 kw_10 rfl ds_X5_readBracket ⟨by show n + 1 ≤ n + 1; omega, by show 8 + (3 + 11) + 100 * n ≤ 100 * (n + 1); omega⟩ (show decode cX5_readOne 93 = .ok (.invokevirtual 64, 3) from dk_at dq23_11 (i := 2) rfl) rfl, ?_⟩
  refine List.forall_mem_cons.mpr ⟨ok_zret C rfl (show decode cX5_readOne 96 = .ok (.ireturn, 1) from dk_at dq23_11 (i := 3) rfl), ?_⟩
  refine List.forall_mem_cons.mpr ⟨ok_aload_n C (show decode cX5_readOne 97 = .ok (.aload_n 1, 1) from dk_at dq23_11 (i := 4) rfl) rfl rfl, ?_⟩
  refine List.forall_mem_cons.mpr ⟨ok_getf C (wi_X9) rfl (by decide) kw_62 (show decode cX5_readOne 98 = .ok (.getfield 47, 3) from dk_at dq23_11 (i := 5) rfl) rfl, ?_⟩
  refine List.forall_mem_cons.mpr ⟨ok_istore C (show decode cX5_readOne 101 = .ok (.istore 5, 2) from dk_at dq23_11 (i := 6) rfl) (by decide) rfl, ?_⟩
  refine List.forall_mem_cons.mpr ⟨ok_iload C (show decode cX5_readOne 103 = .ok (.iload 5, 2) from dk_at dq23_11 (i := 7) rfl) rfl, ?_⟩
  refine List.forall_mem_cons.mpr ⟨ok_bipush C (show decode cX5_readOne 105 = .ok (.bipush 79, 2) from dk_at dq23_11 (i := 8) rfl) (by decide) rfl, ?_⟩
  refine List.forall_mem_cons.mpr ⟨ok_icmpne C (show decode cX5_readOne 107 = .ok (.if_icmp .ne 35, 3) from dk_at dq23_11 (i := 9) rfl) (tg := 142) (by decide) rfl rfl, ?_⟩
  refine List.forall_mem_cons.mpr ⟨ok_aload_n C (show decode cX5_readOne 110 = .ok (.aload_n 1, 1) from dk_at dq23_11 (i := 10) rfl) rfl rfl, ?_⟩
  refine List.forall_mem_cons.mpr ⟨ok_callV C h_X9_step ⟨rfl, rfl⟩ rfl kw_499 kw_961 kw_497 kw_498 kw_3 rfl ds_X9_step ⟨by show 1 + 1 ≤ n + 1; omega, by show 8 + (1 + 11) + 100 ≤ 100 * (n + 1); omega⟩ (show decode cX5_readOne 111 = .ok (.invokevirtual 38, 3) from dk_at dq23_11 (i := 11) rfl) rfl, ?_⟩
  refine List.forall_mem_cons.mpr ⟨ok_aload_n C (show decode cX5_readOne 114 = .ok (.aload_n 0, 1) from dk_at dq23_11 (i := 12) rfl) rfl rfl, ?_⟩
  refine List.forall_mem_cons.mpr ⟨ok_aload_n C (show decode cX5_readOne 115 = .ok (.aload_n 1, 1) from dk_at dq23_11 (i := 13) rfl) rfl rfl, ?_⟩
  refine List.forall_mem_cons.mpr ⟨ok_iload_n C (show decode cX5_readOne 116 = .ok (.iload_n 2, 1) from dk_at dq23_11 (i := 14) rfl) rfl rfl, ?_⟩
  refine List.forall_mem_cons.mpr ⟨ok_iconst C (show decode cX5_readOne 117 = .ok (.iconst 1, 1) from dk_at dq23_11 (i := 15) rfl) (by decide) rfl, ?_⟩
  refine List.forall_mem_cons.mpr ⟨ok_iadd C (show decode cX5_readOne 118 = .ok (.iadd, 1) from dk_at dq23_12 (i := 0) rfl) rfl, ?_⟩
  refine List.forall_mem_cons.mpr ⟨ok_callV C h_X5_readOne ⟨rfl, rfl⟩ rfl kw_973 kw_970 kw_972 kp_40 kw_10 rfl ds_X5_readOne ⟨by show n2 + 1 ≤ n + 1; omega, by show 8 + (6 + 11) + 100 * n2 ≤ 100 * (n + 1); omega⟩ (show decode cX5_readOne 119 = .ok (.invokevirtual 61, 3) from dk_at dq23_12 (i := 1) rfl) rfl, ?_⟩
  refine List.forall_mem_cons.mpr ⟨ok_ifeq C (show decode cX5_readOne 122 = .ok (.ifCond .eq 18, 3) from dk_at dq23_12 (i := 2) rfl) (tg := 140) (by decide) rfl rfl, ?_⟩
  refine List.forall_mem_cons.mpr ⟨ok_aload_n C (show decode cX5_readOne 125 = .ok (.aload_n 0, 1) from dk_at dq23_12 (i := 3) rfl) rfl rfl, ?_⟩
  refine List.forall_mem_cons.mpr ⟨ok_bipush C (show decode cX5_readOne 126 = .ok (.bipush 79, 2) from dk_at dq23_12 (i := 4) rfl) (by decide) rfl, ?_⟩
  refine List.forall_mem_cons.mpr ⟨ok_iconst C (show decode cX5_readOne 128 = .ok (.iconst 0, 1) from dk_at dq23_12 (i := 5) rfl) (by decide) rfl, ?_⟩
  refine List.forall_mem_cons.mpr ⟨ok_iconst C (show decode cX5_readOne 129 = .ok (.iconst 0, 1) from dk_at dq23_12 (i := 6) rfl) (by decide) rfl, ?_⟩
  refine List.forall_mem_cons.mpr ⟨ok_callV C h_X5_addOp ⟨rfl, rfl⟩ rfl kw_982 kw_979 kw_981 kp_42 kw_10 rfl ds_X5_addOp ⟨by show 1 + 1 ≤ n + 1; omega, by show 8 + (4 + 11) + 100 ≤ 100 * (n + 1); omega⟩ (show decode cX5_readOne 130 = .ok (.invokevirtual 57, 3) from dk_at dq23_12 (i := 7) rfl) rfl, ?_⟩
  refine List.forall_mem_cons.mpr ⟨ok_ifeq C (show decode cX5_readOne 133 = .ok (.ifCond .eq 7, 3) from dk_at dq23_12 (i := 8) rfl) (tg := 140) (by decide) rfl rfl, ?_⟩
  refine List.forall_mem_cons.mpr ⟨ok_iconst C (show decode cX5_readOne 136 = .ok (.iconst 1, 1) from dk_at dq23_12 (i := 9) rfl) (by decide) rfl, ?_⟩
  refine List.forall_mem_cons.mpr ⟨ok_goto C (show decode cX5_readOne 137 = .ok (.goto 4, 3) from dk_at dq23_12 (i := 10) rfl) (tg := 141) (by decide) rfl, ?_⟩
  refine List.forall_mem_cons.mpr ⟨ok_iconst C (show decode cX5_readOne 140 = .ok (.iconst 0, 1) from dk_at dq23_12 (i := 11) rfl) (by decide) rfl, ?_⟩
  refine List.forall_mem_cons.mpr ⟨ok_zret C rfl (show decode cX5_readOne 141 = .ok (.ireturn, 1) from dk_at dq23_12 (i := 12) rfl), ?_⟩
  refine List.forall_mem_cons.mpr ⟨ok_iload C (show decode cX5_readOne 142 = .ok (.iload 5, 2) from dk_at dq23_12 (i := 13) rfl) rfl, ?_⟩
  refine List.forall_mem_cons.mpr ⟨ok_bipush C (show decode cX5_readOne 144 = .ok (.bipush 84, 2) from dk_at dq23_12 (i := 14) rfl) (by decide) rfl, ?_⟩
  refine List.forall_mem_cons.mpr ⟨ok_icmpgt C (show decode cX5_readOne 146 = .ok (.if_icmp .gt 13, 3) from dk_at dq23_12 (i := 15) rfl) (tg := 159) (by decide) rfl rfl, ?_⟩
  refine List.forall_mem_cons.mpr ⟨ok_aload_n C (show decode cX5_readOne 149 = .ok (.aload_n 0, 1) from dk_at dq23_13 (i := 0) rfl) rfl rfl, ?_⟩
  refine List.forall_mem_cons.mpr ⟨ok_aload_n C (show decode cX5_readOne 150 = .ok (.aload_n 1, 1) from dk_at dq23_13 (i := 1) rfl) rfl rfl, ?_⟩
  refine List.forall_mem_cons.mpr ⟨ok_iload C (show decode cX5_readOne 151 = .ok (.iload 5, 2) from dk_at dq23_13 (i := 2) rfl) rfl, ?_⟩
  refine List.forall_mem_cons.mpr ⟨ok_callV C h_X5_readOnShore ⟨rfl, rfl⟩ rfl kw_986 kw_983 kw_985 kp_43 kw_10 rfl ds_X5_readOnShore ⟨by show 3 + 1 ≤ n + 1; omega, by show 8 + (4 + 11) + 300 ≤ 100 * (n + 1); omega⟩ (show decode cX5_readOne 153 = .ok (.invokevirtual 67, 3) from dk_at dq23_13 (i := 3) rfl) rfl, ?_⟩
  refine List.forall_mem_cons.mpr ⟨ok_goto C (show decode cX5_readOne 156 = .ok (.goto 10, 3) from dk_at dq23_13 (i := 4) rfl) (tg := 166) (by decide) rfl, ?_⟩
  refine List.forall_mem_cons.mpr ⟨ok_aload_n C (show decode cX5_readOne 159 = .ok (.aload_n 0, 1) from dk_at dq23_13 (i := 5) rfl) rfl rfl, ?_⟩
  refine List.forall_mem_cons.mpr ⟨ok_aload_n C (show decode cX5_readOne 160 = .ok (.aload_n 1, 1) from dk_at dq23_13 (i := 6) rfl) rfl rfl, ?_⟩
  refine List.forall_mem_cons.mpr ⟨ok_iload C (show decode cX5_readOne 161 = .ok (.iload 5, 2) from dk_at dq23_13 (i := 7) rfl) rfl, ?_⟩
  refine List.forall_mem_cons.mpr ⟨ok_callV C h_X5_readCompared ⟨rfl, rfl⟩ rfl kw_991 kw_988 kw_990 kp_44 kw_10 rfl ds_X5_readCompared ⟨by show 3 + 1 ≤ n + 1; omega, by show 8 + (5 + 11) + 300 ≤ 100 * (n + 1); omega⟩ (show decode cX5_readOne 163 = .ok (.invokevirtual 70, 3) from dk_at dq23_13 (i := 8) rfl) rfl, ?_⟩
  refine List.forall_mem_cons.mpr ⟨ok_zret C rfl (show decode cX5_readOne 166 = .ok (.ireturn, 1) from dk_at dq23_13 (i := 9) rfl), ?_⟩
  exact fun _ h => absurd h List.not_mem_nil
def L_X5_readBracket (f_X9_step : List Value → ab_H → Option ab_O) (f_X5_readCond : List Value → ab_H → Option ab_O) (f_X9_fail : List Value → ab_H → Option ab_O) : List (Nat × ab_A) := [
  (0, ab_nx 1 (ab_aload 1)),
  (1, ab_nx 4 (ab_callV 1 9 f_X9_step 0 0 0 0)),
  (4, ab_nx 5 (ab_aload 0)),
  (5, ab_nx 6 (ab_aload 1)),
  (6, ab_nx 7 (ab_iload 2)),
  (7, ab_nx 8 (ab_lit (.int 1))),
  (8, ab_nx 9 (ab_bin (fun x y => x + y))),
  (9, ab_nx 12 (ab_callV 3 5 f_X5_readCond 0 0 0 0)),
  (12, ab_if 15 17 (fun x => !decide (x = 0))),
  (15, ab_nx 16 (ab_lit (.int 0))),
  (16, ab_zret 0 0),
  (17, ab_nx 18 (ab_aload 1)),
  (18, ab_nx 21 (ab_getf 9 5)),
  (21, ab_nx 23 (ab_lit (.int 41))),
  (23, ab_icmp 26 32 (fun x y => decide (x = y))),
  (26, ab_nx 27 (ab_aload 1)),
  (27, ab_nx 28 (ab_lit (.int 1))),
  (28, ab_nx 31 (ab_callV 2 9 f_X9_fail 0 0 0 0)),
  (31, ab_zret 0 0),
  (32, ab_nx 33 (ab_aload 1)),
  (33, ab_nx 36 (ab_callV 1 9 f_X9_step 0 0 0 0)),
  (36, ab_nx 37 (ab_lit (.int 1))),
  (37, ab_zret 0 0)]
set_option maxRecDepth 100000 in
theorem dq23_14 : ([(0, .aload_n 1, 1), (1, .invokevirtual 38, 3), (4, .aload_n 0, 1), (5, .aload_n 1, 1), (6, .iload_n 2, 1), (7, .iconst 1, 1), (8, .iadd, 1), (9, .invokevirtual 43, 3), (12, .ifCond .ne 5, 3), (15, .iconst 0, 1), (16, .ireturn, 1), (17, .aload_n 1, 1), (18, .getfield 47, 3), (21, .bipush 41, 2), (23, .if_icmp .eq 9, 3), (26, .aload_n 1, 1)] : List (Nat × Instr × Nat)).all (fun q => decide (decode cX5_readBracket q.1 = .ok q.2)) = true := by decide +kernel
set_option maxRecDepth 100000 in
theorem dq23_15 : ([(27, .iconst 1, 1), (28, .invokevirtual 50, 3), (31, .ireturn, 1), (32, .aload_n 1, 1), (33, .invokevirtual 38, 3), (36, .iconst 1, 1), (37, .ireturn, 1)] : List (Nat × Instr × Nat)).all (fun q => decide (decode cX5_readBracket q.1 = .ok q.2)) = true := by decide +kernel
set_option maxRecDepth 100000 in
set_option maxHeartbeats 4000000 in
theorem M_X5_readBracket {l : Launch} {b : ab_B} {D : va_G} {cA : Nat → ClassId} {n : Nat} (hn : 4 ≤ n) {f_X9_step : List Value → ab_H → Option ab_O} (h_X9_step : ab_M l b D ab_cl cA (ab_E0 b) yX9_step (Cond.code yX9_step cX9_step 1 none :: ab_G) ({ frames := 1, cells := 0, slots := 0, locals := 100 } : Room) f_X9_step) {f_X5_readCond : List Value → ab_H → Option ab_O} (h_X5_readCond : ab_M l b D ab_cl cA (ab_E0 b) yX5_readCond (Cond.code yX5_readCond cX5_readCond 4 (some .boolean) :: ab_G) ({ frames := n, cells := 0, slots := 0, locals := 100 * n } : Room) f_X5_readCond) {f_X9_fail : List Value → ab_H → Option ab_O} (h_X9_fail : ab_M l b D ab_cl cA (ab_E0 b) yX9_fail (Cond.code yX9_fail cX9_fail 2 (some .boolean) :: ab_G) ({ frames := 1, cells := 0, slots := 0, locals := 100 } : Room) f_X9_fail) : ab_M l b D ab_cl cA (ab_E0 b) yX5_readBracket (Cond.code yX5_readBracket cX5_readBracket 3 (some .boolean) :: ab_G) ({ frames := (n + 1), cells := 0, slots := 0, locals := 100 * (n + 1) } : Room) (ab_X (ab_T (L_X5_readBracket f_X9_step f_X5_readCond f_X9_fail)) 3) := by
  refine ab_meth (ret := (some .boolean)) (L_X5_readBracket f_X9_step f_X5_readCond f_X9_fail) (by decide) rfl fun p e R s m args below meth c o C => ?_
  unfold L_X5_readBracket
  refine List.forall_mem_cons.mpr ⟨ok_aload_n C (show decode cX5_readBracket 0 = .ok (.aload_n 1, 1) from dk_at dq23_14 (i := 0) rfl) rfl rfl, ?_⟩
  refine List.forall_mem_cons.mpr ⟨ok_callV C h_X9_step ⟨rfl, rfl⟩ rfl kw_499 kw_961 kw_497 kw_498 kw_3 rfl ds_X9_step ⟨by show 1 + 1 ≤ n + 1; omega, by show 8 + (1 + 11) + 100 ≤ 100 * (n + 1); omega⟩ (show decode cX5_readBracket 1 = .ok (.invokevirtual 38, 3) from dk_at dq23_14 (i := 1) rfl) rfl, ?_⟩
  refine List.forall_mem_cons.mpr ⟨ok_aload_n C (show decode cX5_readBracket 4 = .ok (.aload_n 0, 1) from dk_at dq23_14 (i := 2) rfl) rfl rfl, ?_⟩
  refine List.forall_mem_cons.mpr ⟨ok_aload_n C (show decode cX5_readBracket 5 = .ok (.aload_n 1, 1) from dk_at dq23_14 (i := 3) rfl) rfl rfl, ?_⟩
  refine List.forall_mem_cons.mpr ⟨ok_iload_n C (show decode cX5_readBracket 6 = .ok (.iload_n 2, 1) from dk_at dq23_14 (i := 4) rfl) rfl rfl, ?_⟩
  refine List.forall_mem_cons.mpr ⟨ok_iconst C (show decode cX5_readBracket 7 = .ok (.iconst 1, 1) from dk_at dq23_14 (i := 5) rfl) (by decide) rfl, ?_⟩
  refine List.forall_mem_cons.mpr ⟨ok_iadd C (show decode cX5_readBracket 8 = .ok (.iadd, 1) from dk_at dq23_14 (i := 6) rfl) rfl, ?_⟩
  refine List.forall_mem_cons.mpr ⟨ok_callV C h_X5_readCond ⟨rfl, rfl⟩ rfl kw_965 kw_962 kw_964 kp_38 kw_10 rfl ds_X5_readCond ⟨by show n + 1 ≤ n + 1; omega, by show 8 + (4 + 11) + 100 * n ≤ 100 * (n + 1); omega⟩ (show decode cX5_readBracket 9 = .ok (.invokevirtual 43, 3) from dk_at dq23_14 (i := 7) rfl) rfl, ?_⟩
  refine List.forall_mem_cons.mpr ⟨ok_ifne C (show decode cX5_readBracket 12 = .ok (.ifCond .ne 5, 3) from dk_at dq23_14 (i := 8) rfl) (tg := 17) (by decide) rfl rfl, ?_⟩
  refine List.forall_mem_cons.mpr ⟨ok_iconst C (show decode cX5_readBracket 15 = .ok (.iconst 0, 1) from dk_at dq23_14 (i := 9) rfl) (by decide) rfl, ?_⟩
  refine List.forall_mem_cons.mpr ⟨ok_zret C rfl (show decode cX5_readBracket 16 = .ok (.ireturn, 1) from dk_at dq23_14 (i := 10) rfl), ?_⟩
  refine List.forall_mem_cons.mpr ⟨ok_aload_n C (show decode cX5_readBracket 17 = .ok (.aload_n 1, 1) from dk_at dq23_14 (i := 11) rfl) rfl rfl, ?_⟩
  refine List.forall_mem_cons.mpr ⟨ok_getf C (wi_X9) rfl (by decide) kw_62 (show decode cX5_readBracket 18 = .ok (.getfield 47, 3) from dk_at dq23_14 (i := 12) rfl) rfl, ?_⟩
  refine List.forall_mem_cons.mpr ⟨ok_bipush C (show decode cX5_readBracket 21 = .ok (.bipush 41, 2) from dk_at dq23_14 (i := 13) rfl) (by decide) rfl, ?_⟩
  refine List.forall_mem_cons.mpr ⟨ok_icmpeq C (show decode cX5_readBracket 23 = .ok (.if_icmp .eq 9, 3) from dk_at dq23_14 (i := 14) rfl) (tg := 32) (by decide) rfl rfl, ?_⟩
  refine List.forall_mem_cons.mpr ⟨ok_aload_n C (show decode cX5_readBracket 26 = .ok (.aload_n 1, 1) from dk_at dq23_14 (i := 15) rfl) rfl rfl, ?_⟩
  refine List.forall_mem_cons.mpr ⟨ok_iconst C (show decode cX5_readBracket 27 = .ok (.iconst 1, 1) from dk_at dq23_15 (i := 0) rfl) (by decide) rfl, ?_⟩
  refine List.forall_mem_cons.mpr ⟨ok_callV C h_X9_fail ⟨rfl, rfl⟩ rfl kw_520 kw_974 kw_518 kw_519 kw_3 rfl ds_X9_fail ⟨by show 1 + 1 ≤ n + 1; omega, by show 8 + (2 + 11) + 100 ≤ 100 * (n + 1); omega⟩ (show decode cX5_readBracket 28 = .ok (.invokevirtual 50, 3) from dk_at dq23_15 (i := 1) rfl) rfl, ?_⟩
  refine List.forall_mem_cons.mpr ⟨ok_zret C rfl (show decode cX5_readBracket 31 = .ok (.ireturn, 1) from dk_at dq23_15 (i := 2) rfl), ?_⟩
  refine List.forall_mem_cons.mpr ⟨ok_aload_n C (show decode cX5_readBracket 32 = .ok (.aload_n 1, 1) from dk_at dq23_15 (i := 3) rfl) rfl rfl, ?_⟩
  refine List.forall_mem_cons.mpr ⟨ok_callV C h_X9_step ⟨rfl, rfl⟩ rfl kw_499 kw_961 kw_497 kw_498 kw_3 rfl ds_X9_step ⟨by show 1 + 1 ≤ n + 1; omega, by show 8 + (1 + 11) + 100 ≤ 100 * (n + 1); omega⟩ (show decode cX5_readBracket 33 = .ok (.invokevirtual 38, 3) from dk_at dq23_15 (i := 4) rfl) rfl, ?_⟩
  refine List.forall_mem_cons.mpr ⟨ok_iconst C (show decode cX5_readBracket 36 = .ok (.iconst 1, 1) from dk_at dq23_15 (i := 5) rfl) (by decide) rfl, ?_⟩
  refine List.forall_mem_cons.mpr ⟨ok_zret C rfl (show decode cX5_readBracket 37 = .ok (.ireturn, 1) from dk_at dq23_15 (i := 6) rfl), ?_⟩
  exact fun _ h => absurd h List.not_mem_nil
def L_X6_isFalse (f_X7_amountOf : List Value → ab_H → Option ab_O) : List (Nat × ab_A) := [
  (0, ab_nx 1 (ab_aload 1)),
  (1, ab_nx 2 (ab_lit (.int 1))),
  (2, ab_nx 3 (ab_iload 2)),
  (3, ab_nx 6 (ab_callV 3 7 f_X7_amountOf 0 0 0 0)),
  (6, ab_nx 7 (ab_istore 3)),
  (7, ab_nx 8 (ab_aload 0)),
  (8, ab_nx 11 (ab_getf 6 0)),
  (11, ab_nx 12 (ab_iload 2)),
  (12, ab_nx 13 (ab_ald 1)),
  (13, ab_nx 14 (ab_iload 3)),
  (14, ab_icmp 17 38 (fun x y => decide (y ≤ x))),
  (17, ab_nx 18 (ab_aload 0)),
  (18, ab_nx 21 (ab_getf 6 0)),
  (21, ab_nx 22 (ab_iload 2)),
  (22, ab_nx 23 (ab_ald 1)),
  (23, ab_nx 24 (ab_aload 0)),
  (24, ab_nx 27 (ab_getf 6 1)),
  (27, ab_nx 28 (ab_iload 2)),
  (28, ab_nx 29 (ab_ald 1)),
  (29, ab_nx 30 (ab_bin (fun x y => x + y))),
  (30, ab_nx 31 (ab_iload 3)),
  (31, ab_icmp 34 38 (fun x y => decide (x < y))),
  (34, ab_nx 35 (ab_lit (.int 1))),
  (35, ab_goto 39),
  (38, ab_nx 39 (ab_lit (.int 0))),
  (39, ab_zret 0 0)]
set_option maxRecDepth 100000 in
theorem dq23_16 : ([(0, .aload_n 1, 1), (1, .iconst 1, 1), (2, .iload_n 2, 1), (3, .invokevirtual 33, 3), (6, .istore_n 3, 1), (7, .aload_n 0, 1), (8, .getfield 9, 3), (11, .iload_n 2, 1), (12, .iaload, 1), (13, .iload_n 3, 1), (14, .if_icmp .ge 24, 3), (17, .aload_n 0, 1), (18, .getfield 9, 3), (21, .iload_n 2, 1), (22, .iaload, 1), (23, .aload_n 0, 1)] : List (Nat × Instr × Nat)).all (fun q => decide (decode cX6_isFalse q.1 = .ok q.2)) = true := by decide +kernel
set_option maxRecDepth 100000 in
theorem dq23_17 : ([(24, .getfield 15, 3), (27, .iload_n 2, 1), (28, .iaload, 1), (29, .iadd, 1), (30, .iload_n 3, 1), (31, .if_icmp .lt 7, 3), (34, .iconst 1, 1), (35, .goto 4, 3), (38, .iconst 0, 1), (39, .ireturn, 1)] : List (Nat × Instr × Nat)).all (fun q => decide (decode cX6_isFalse q.1 = .ok q.2)) = true := by decide +kernel
set_option maxRecDepth 100000 in
set_option maxHeartbeats 4000000 in
theorem M_X6_isFalse {l : Launch} {b : ab_B} {D : va_G} {cA : Nat → ClassId} {f_X7_amountOf : List Value → ab_H → Option ab_O} (h_X7_amountOf : ab_M l b D ab_cl cA (ab_E0 b) yX7_amountOf (Cond.code yX7_amountOf cX7_amountOf 3 (some .int) :: ab_G) ({ frames := 1, cells := 0, slots := 0, locals := 100 } : Room) f_X7_amountOf) : ab_M l b D ab_cl cA (ab_E0 b) yX6_isFalse (Cond.code yX6_isFalse cX6_isFalse 4 (some .boolean) :: ab_G) ({ frames := 2, cells := 0, slots := 0, locals := 200 } : Room) (ab_X (ab_T (L_X6_isFalse f_X7_amountOf)) 4) := by
  refine ab_meth (ret := (some .boolean)) (L_X6_isFalse f_X7_amountOf) (by decide) rfl fun p e R s m args below meth c o C => ?_
  unfold L_X6_isFalse
  refine List.forall_mem_cons.mpr ⟨ok_aload_n C (show decode cX6_isFalse 0 = .ok (.aload_n 1, 1) from dk_at dq23_16 (i := 0) rfl) rfl rfl, ?_⟩
  refine List.forall_mem_cons.mpr ⟨ok_iconst C (show decode cX6_isFalse 1 = .ok (.iconst 1, 1) from dk_at dq23_16 (i := 1) rfl) (by decide) rfl, ?_⟩
  refine List.forall_mem_cons.mpr ⟨ok_iload_n C (show decode cX6_isFalse 2 = .ok (.iload_n 2, 1) from dk_at dq23_16 (i := 2) rfl) rfl rfl, ?_⟩
  refine List.forall_mem_cons.mpr ⟨ok_callV C h_X7_amountOf ⟨rfl, rfl⟩ rfl kw_576 kw_573 kw_574 kw_575 kw_9 rfl ds_X7_amountOf ⟨by decide, by decide⟩ (show decode cX6_isFalse 3 = .ok (.invokevirtual 33, 3) from dk_at dq23_16 (i := 3) rfl) rfl, ?_⟩
  refine List.forall_mem_cons.mpr ⟨ok_istore_n C (show decode cX6_isFalse 6 = .ok (.istore_n 3, 1) from dk_at dq23_16 (i := 4) rfl) rfl (by decide) rfl, ?_⟩
  refine List.forall_mem_cons.mpr ⟨ok_aload_n C (show decode cX6_isFalse 7 = .ok (.aload_n 0, 1) from dk_at dq23_16 (i := 5) rfl) rfl rfl, ?_⟩
  refine List.forall_mem_cons.mpr ⟨ok_getf C (wi_X6) rfl (by decide) kw_142 (show decode cX6_isFalse 8 = .ok (.getfield 9, 3) from dk_at dq23_16 (i := 6) rfl) rfl, ?_⟩
  refine List.forall_mem_cons.mpr ⟨ok_iload_n C (show decode cX6_isFalse 11 = .ok (.iload_n 2, 1) from dk_at dq23_16 (i := 7) rfl) rfl rfl, ?_⟩
  refine List.forall_mem_cons.mpr ⟨ok_iaload C (show decode cX6_isFalse 12 = .ok (.iaload, 1) from dk_at dq23_16 (i := 8) rfl) rfl, ?_⟩
  refine List.forall_mem_cons.mpr ⟨ok_iload_n C (show decode cX6_isFalse 13 = .ok (.iload_n 3, 1) from dk_at dq23_16 (i := 9) rfl) rfl rfl, ?_⟩
  refine List.forall_mem_cons.mpr ⟨ok_icmpge C (show decode cX6_isFalse 14 = .ok (.if_icmp .ge 24, 3) from dk_at dq23_16 (i := 10) rfl) (tg := 38) (by decide) rfl rfl, ?_⟩
  refine List.forall_mem_cons.mpr ⟨ok_aload_n C (show decode cX6_isFalse 17 = .ok (.aload_n 0, 1) from dk_at dq23_16 (i := 11) rfl) rfl rfl, ?_⟩
  refine List.forall_mem_cons.mpr ⟨ok_getf C (wi_X6) rfl (by decide) kw_142 (show decode cX6_isFalse 18 = .ok (.getfield 9, 3) from dk_at dq23_16 (i := 12) rfl) rfl, ?_⟩
  refine List.forall_mem_cons.mpr ⟨ok_iload_n C (show decode cX6_isFalse 21 = .ok (.iload_n 2, 1) from dk_at dq23_16 (i := 13) rfl) rfl rfl, ?_⟩
  refine List.forall_mem_cons.mpr ⟨ok_iaload C (show decode cX6_isFalse 22 = .ok (.iaload, 1) from dk_at dq23_16 (i := 14) rfl) rfl, ?_⟩
  refine List.forall_mem_cons.mpr ⟨ok_aload_n C (show decode cX6_isFalse 23 = .ok (.aload_n 0, 1) from dk_at dq23_16 (i := 15) rfl) rfl rfl, ?_⟩
  refine List.forall_mem_cons.mpr ⟨ok_getf C (wi_X6) rfl (by decide) kw_146 (show decode cX6_isFalse 24 = .ok (.getfield 15, 3) from dk_at dq23_17 (i := 0) rfl) rfl, ?_⟩
  refine List.forall_mem_cons.mpr ⟨ok_iload_n C (show decode cX6_isFalse 27 = .ok (.iload_n 2, 1) from dk_at dq23_17 (i := 1) rfl) rfl rfl, ?_⟩
  refine List.forall_mem_cons.mpr ⟨ok_iaload C (show decode cX6_isFalse 28 = .ok (.iaload, 1) from dk_at dq23_17 (i := 2) rfl) rfl, ?_⟩
  refine List.forall_mem_cons.mpr ⟨ok_iadd C (show decode cX6_isFalse 29 = .ok (.iadd, 1) from dk_at dq23_17 (i := 3) rfl) rfl, ?_⟩
  refine List.forall_mem_cons.mpr ⟨ok_iload_n C (show decode cX6_isFalse 30 = .ok (.iload_n 3, 1) from dk_at dq23_17 (i := 4) rfl) rfl rfl, ?_⟩
  refine List.forall_mem_cons.mpr ⟨ok_icmplt C (show decode cX6_isFalse 31 = .ok (.if_icmp .lt 7, 3) from dk_at dq23_17 (i := 5) rfl) (tg := 38) (by decide) rfl rfl, ?_⟩
  refine List.forall_mem_cons.mpr ⟨ok_iconst C (show decode cX6_isFalse 34 = .ok (.iconst 1, 1) from dk_at dq23_17 (i := 6) rfl) (by decide) rfl, ?_⟩
  refine List.forall_mem_cons.mpr ⟨ok_goto C (show decode cX6_isFalse 35 = .ok (.goto 4, 3) from dk_at dq23_17 (i := 7) rfl) (tg := 39) (by decide) rfl, ?_⟩
  refine List.forall_mem_cons.mpr ⟨ok_iconst C (show decode cX6_isFalse 38 = .ok (.iconst 0, 1) from dk_at dq23_17 (i := 8) rfl) (by decide) rfl, ?_⟩
  refine List.forall_mem_cons.mpr ⟨ok_zret C rfl (show decode cX6_isFalse 39 = .ok (.ireturn, 1) from dk_at dq23_17 (i := 9) rfl), ?_⟩
  exact fun _ h => absurd h List.not_mem_nil
def L_X5_isSoThere (f_X6_lackAt : List Value → ab_H → Option ab_O) (f_X7_amountOf : List Value → ab_H → Option ab_O) (f_X6_isFalse : List Value → ab_H → Option ab_O) : List (Nat × ab_A) := [
  (0, ab_nx 1 (ab_iload 0)),
  (1, ab_tab 80 [32, 47, 62, 77] 92),
  (32, ab_nx 33 (ab_aload 3)),
  (33, ab_nx 34 (ab_aload 2)),
  (34, ab_nx 35 (ab_iload 1)),
  (35, ab_nx 38 (ab_callV 3 6 f_X6_lackAt 0 0 0 0)),
  (38, ab_if 41 45 (fun x => decide (x ≤ 0))),
  (41, ab_nx 42 (ab_lit (.int 1))),
  (42, ab_goto 46),
  (45, ab_nx 46 (ab_lit (.int 0))),
  (46, ab_zret 0 0),
  (47, ab_nx 48 (ab_aload 3)),
  (48, ab_nx 51 (ab_getf 6 1)),
  (51, ab_nx 52 (ab_iload 1)),
  (52, ab_nx 53 (ab_ald 1)),
  (53, ab_if 56 60 (fun x => decide (x ≤ 0))),
  (56, ab_nx 57 (ab_lit (.int 1))),
  (57, ab_goto 61),
  (60, ab_nx 61 (ab_lit (.int 0))),
  (61, ab_zret 0 0),
  (62, ab_nx 63 (ab_aload 2)),
  (63, ab_nx 64 (ab_lit (.int 3))),
  (64, ab_nx 65 (ab_iload 1)),
  (65, ab_nx 68 (ab_callV 3 7 f_X7_amountOf 0 0 0 0)),
  (68, ab_if 71 75 (fun x => decide (x ≤ 0))),
  (71, ab_nx 72 (ab_lit (.int 1))),
  (72, ab_goto 76),
  (75, ab_nx 76 (ab_lit (.int 0))),
  (76, ab_zret 0 0),
  (77, ab_nx 78 (ab_aload 2)),
  (78, ab_nx 79 (ab_lit (.int 2))),
  (79, ab_nx 80 (ab_iload 1)),
  (80, ab_nx 83 (ab_callV 3 7 f_X7_amountOf 0 0 0 0)),
  (83, ab_if 86 90 (fun x => decide (x ≤ 0))),
  (86, ab_nx 87 (ab_lit (.int 1))),
  (87, ab_goto 91),
  (90, ab_nx 91 (ab_lit (.int 0))),
  (91, ab_zret 0 0),
  (92, ab_nx 93 (ab_aload 3)),
  (93, ab_nx 94 (ab_aload 2)),
  (94, ab_nx 95 (ab_iload 1)),
  (95, ab_nx 98 (ab_callV 3 6 f_X6_isFalse 0 0 0 0)),
  (98, ab_zret 0 0)]
set_option maxRecDepth 100000 in
theorem dq23_18 : ([(0, .iload_n 0, 1), (1, .tableswitch 91 80 83 #[31, 46, 61, 76], 31), (32, .aload_n 3, 1), (33, .aload_n 2, 1), (34, .iload_n 1, 1), (35, .invokevirtual 98, 3), (38, .ifCond .le 7, 3), (41, .iconst 1, 1), (42, .goto 4, 3), (45, .iconst 0, 1), (46, .ireturn, 1), (47, .aload_n 3, 1), (48, .getfield 104, 3), (51, .iload_n 1, 1), (52, .iaload, 1), (53, .ifCond .le 7, 3)] : List (Nat × Instr × Nat)).all (fun q => decide (decode cX5_isSoThere q.1 = .ok q.2)) = true := by decide +kernel
set_option maxRecDepth 100000 in
theorem dq23_19 : ([(56, .iconst 1, 1), (57, .goto 4, 3), (60, .iconst 0, 1), (61, .ireturn, 1), (62, .aload_n 2, 1), (63, .iconst 3, 1), (64, .iload_n 1, 1), (65, .invokevirtual 107, 3), (68, .ifCond .le 7, 3), (71, .iconst 1, 1), (72, .goto 4, 3), (75, .iconst 0, 1), (76, .ireturn, 1), (77, .aload_n 2, 1), (78, .iconst 2, 1), (79, .iload_n 1, 1)] : List (Nat × Instr × Nat)).all (fun q => decide (decode cX5_isSoThere q.1 = .ok q.2)) = true := by decide +kernel
set_option maxRecDepth 100000 in
theorem dq23_20 : ([(80, .invokevirtual 107, 3), (83, .ifCond .le 7, 3), (86, .iconst 1, 1), (87, .goto 4, 3), (90, .iconst 0, 1), (91, .ireturn, 1), (92, .aload_n 3, 1), (93, .aload_n 2, 1), (94, .iload_n 1, 1), (95, .invokevirtual 112, 3), (98, .ireturn, 1)] : List (Nat × Instr × Nat)).all (fun q => decide (decode cX5_isSoThere q.1 = .ok q.2)) = true := by decide +kernel
set_option maxRecDepth 100000 in
set_option maxHeartbeats 4000000 in
theorem M_X5_isSoThere {l : Launch} {b : ab_B} {D : va_G} {cA : Nat → ClassId} {f_X6_lackAt : List Value → ab_H → Option ab_O} (h_X6_lackAt : ab_M l b D ab_cl cA (ab_E0 b) yX6_lackAt (Cond.code yX6_lackAt cX6_lackAt 3 (some .int) :: ab_G) ({ frames := 2, cells := 0, slots := 0, locals := 200 } : Room) f_X6_lackAt) {f_X7_amountOf : List Value → ab_H → Option ab_O} (h_X7_amountOf : ab_M l b D ab_cl cA (ab_E0 b) yX7_amountOf (Cond.code yX7_amountOf cX7_amountOf 3 (some .int) :: ab_G) ({ frames := 1, cells := 0, slots := 0, locals := 100 } : Room) f_X7_amountOf) {f_X6_isFalse : List Value → ab_H → Option ab_O} (h_X6_isFalse : ab_M l b D ab_cl cA (ab_E0 b) yX6_isFalse (Cond.code yX6_isFalse cX6_isFalse 4 (some .boolean) :: ab_G) ({ frames := 2, cells := 0, slots := 0, locals := 200 } : Room) f_X6_isFalse) : ab_M l b D ab_cl cA (ab_E0 b) yX5_isSoThere (Cond.code yX5_isSoThere cX5_isSoThere 4 (some .boolean) :: ab_G) ({ frames := 3, cells := 0, slots := 0, locals := 300 } : Room) (ab_X (ab_T (L_X5_isSoThere f_X6_lackAt f_X7_amountOf f_X6_isFalse)) 4) := by
  refine ab_meth (ret := (some .boolean)) (L_X5_isSoThere f_X6_lackAt f_X7_amountOf f_X6_isFalse) (by decide) rfl fun p e R s m args below meth c o C => ?_
  unfold L_X5_isSoThere
  refine List.forall_mem_cons.mpr ⟨ok_iload_n C (show decode cX5_isSoThere 0 = .ok (.iload_n 0, 1) from dk_at dq23_18 (i := 0) rfl) rfl rfl, ?_⟩
  refine List.forall_mem_cons.mpr ⟨ok_tab C (show decode cX5_isSoThere 1 = .ok (.tableswitch 91 80 83 #[31, 46, 61, 76], 31) from dk_at dq23_18 (i := 1) rfl) (by decide) (by decide) (by decide), ?_⟩
  refine List.forall_mem_cons.mpr ⟨ok_aload_n C (show decode cX5_isSoThere 32 = .ok (.aload_n 3, 1) from dk_at dq23_18 (i := 2) rfl) rfl rfl, ?_⟩
  refine List.forall_mem_cons.mpr ⟨ok_aload_n C (show decode cX5_isSoThere 33 = .ok (.aload_n 2, 1) from dk_at dq23_18 (i := 3) rfl) rfl rfl, ?_⟩
  refine List.forall_mem_cons.mpr ⟨ok_iload_n C (show decode cX5_isSoThere 34 = .ok (.iload_n 1, 1) from dk_at dq23_18 (i := 4) rfl) rfl rfl, ?_⟩
  refine List.forall_mem_cons.mpr ⟨ok_callV C h_X6_lackAt ⟨rfl, rfl⟩ rfl kw_605 kw_1008 kw_603 kw_604 kw_6 rfl ds_X6_lackAt ⟨by decide, by decide⟩ (show decode cX5_isSoThere 35 = .ok (.invokevirtual 98, 3) from dk_at dq23_18 (i := 5) rfl) rfl, ?_⟩
  refine List.forall_mem_cons.mpr ⟨ok_ifle C (show decode cX5_isSoThere 38 = .ok (.ifCond .le 7, 3) from dk_at dq23_18 (i := 6) rfl) (tg := 45) (by decide) rfl rfl, ?_⟩
  refine List.forall_mem_cons.mpr ⟨ok_iconst C (show decode cX5_isSoThere 41 = .ok (.iconst 1, 1) from dk_at dq23_18 (i := 7) rfl) (by decide) rfl, ?_⟩
  refine List.forall_mem_cons.mpr ⟨ok_goto C (show decode cX5_isSoThere 42 = .ok (.goto 4, 3) from dk_at dq23_18 (i := 8) rfl) (tg := 46) (by decide) rfl, ?_⟩
  refine List.forall_mem_cons.mpr ⟨ok_iconst C (show decode cX5_isSoThere 45 = .ok (.iconst 0, 1) from dk_at dq23_18 (i := 9) rfl) (by decide) rfl, ?_⟩
  refine List.forall_mem_cons.mpr ⟨ok_zret C rfl (show decode cX5_isSoThere 46 = .ok (.ireturn, 1) from dk_at dq23_18 (i := 10) rfl), ?_⟩
  refine List.forall_mem_cons.mpr ⟨ok_aload_n C (show decode cX5_isSoThere 47 = .ok (.aload_n 3, 1) from dk_at dq23_18 (i := 11) rfl) rfl rfl, ?_⟩
  refine List.forall_mem_cons.mpr ⟨ok_getf C (wi_X6) rfl (by decide) kw_147 (show decode cX5_isSoThere 48 = .ok (.getfield 104, 3) from dk_at dq23_18 (i := 12) rfl) rfl, ?_⟩
  refine List.forall_mem_cons.mpr ⟨ok_iload_n C (show decode cX5_isSoThere 51 = .ok (.iload_n 1, 1) from dk_at dq23_18 (i := 13) rfl) rfl rfl, ?_⟩
  refine List.forall_mem_cons.mpr ⟨ok_iaload C (show decode cX5_isSoThere 52 = .ok (.iaload, 1) from dk_at dq23_18 (i := 14) rfl) rfl, ?_⟩
  refine List.forall_mem_cons.mpr ⟨ok_ifle C (show decode cX5_isSoThere 53 = .ok (.ifCond .le 7, 3) from dk_at dq23_18 (i := 15) rfl) (tg := 60) (by decide) rfl rfl, ?_⟩
  refine List.forall_mem_cons.mpr ⟨ok_iconst C (show decode cX5_isSoThere 56 = .ok (.iconst 1, 1) from dk_at dq23_19 (i := 0) rfl) (by decide) rfl, ?_⟩
  refine List.forall_mem_cons.mpr ⟨ok_goto C (show decode cX5_isSoThere 57 = .ok (.goto 4, 3) from dk_at dq23_19 (i := 1) rfl) (tg := 61) (by decide) rfl, ?_⟩
  refine List.forall_mem_cons.mpr ⟨ok_iconst C (show decode cX5_isSoThere 60 = .ok (.iconst 0, 1) from dk_at dq23_19 (i := 2) rfl) (by decide) rfl, ?_⟩
  refine List.forall_mem_cons.mpr ⟨ok_zret C rfl (show decode cX5_isSoThere 61 = .ok (.ireturn, 1) from dk_at dq23_19 (i := 3) rfl), ?_⟩
  refine List.forall_mem_cons.mpr ⟨ok_aload_n C (show decode cX5_isSoThere 62 = .ok (.aload_n 2, 1) from dk_at dq23_19 (i := 4) rfl) rfl rfl, ?_⟩
  refine List.forall_mem_cons.mpr ⟨ok_iconst C (show decode cX5_isSoThere 63 = .ok (.iconst 3, 1) from dk_at dq23_19 (i := 5) rfl) (by decide) rfl, ?_⟩
  refine List.forall_mem_cons.mpr ⟨ok_iload_n C (show decode cX5_isSoThere 64 = .ok (.iload_n 1, 1) from dk_at dq23_19 (i := 6) rfl) rfl rfl, ?_⟩
  refine List.forall_mem_cons.mpr ⟨ok_callV C h_X7_amountOf ⟨rfl, rfl⟩ rfl kw_576 kw_1009 kw_574 kw_575 kw_9 rfl ds_X7_amountOf ⟨by decide, by decide⟩ (show decode cX5_isSoThere 65 = .ok (.invokevirtual 107, 3) from dk_at dq23_19 (i := 7) rfl) rfl, ?_⟩
  refine List.forall_mem_cons.mpr ⟨ok_ifle C (show decode cX5_isSoThere 68 = .ok (.ifCond .le 7, 3) from dk_at dq23_19 (i := 8) rfl) (tg := 75) (by decide) rfl rfl, ?_⟩
  refine List.forall_mem_cons.mpr ⟨ok_iconst C (show decode cX5_isSoThere 71 = .ok (.iconst 1, 1) from dk_at dq23_19 (i := 9) rfl) (by decide) rfl, ?_⟩
  refine List.forall_mem_cons.mpr ⟨ok_goto C (show decode cX5_isSoThere 72 = .ok (.goto 4, 3) from dk_at dq23_19 (i := 10) rfl) (tg := 76) (by decide) rfl, ?_⟩
  refine List.forall_mem_cons.mpr ⟨ok_iconst C (show decode cX5_isSoThere 75 = .ok (.iconst 0, 1) from dk_at dq23_19 (i := 11) rfl) (by decide) rfl, ?_⟩
  refine List.forall_mem_cons.mpr ⟨ok_zret C rfl (show decode cX5_isSoThere 76 = .ok (.ireturn, 1) from dk_at dq23_19 (i := 12) rfl), ?_⟩
  refine List.forall_mem_cons.mpr ⟨ok_aload_n C (show decode cX5_isSoThere 77 = .ok (.aload_n 2, 1) from dk_at dq23_19 (i := 13) rfl) rfl rfl, ?_⟩
  refine List.forall_mem_cons.mpr ⟨ok_iconst C (show decode cX5_isSoThere 78 = .ok (.iconst 2, 1) from dk_at dq23_19 (i := 14) rfl) (by decide) rfl, ?_⟩
  refine List.forall_mem_cons.mpr ⟨ok_iload_n C (show decode cX5_isSoThere 79 = .ok (.iload_n 1, 1) from dk_at dq23_19 (i := 15) rfl) rfl rfl, ?_⟩
  refine List.forall_mem_cons.mpr ⟨ok_callV C h_X7_amountOf ⟨rfl, rfl⟩ rfl kw_576 kw_1009 kw_574 kw_575 kw_9 rfl ds_X7_amountOf ⟨by decide, by decide⟩ (show decode cX5_isSoThere 80 = .ok (.invokevirtual 107, 3) from dk_at dq23_20 (i := 0) rfl) rfl, ?_⟩
  refine List.forall_mem_cons.mpr ⟨ok_ifle C (show decode cX5_isSoThere 83 = .ok (.ifCond .le 7, 3) from dk_at dq23_20 (i := 1) rfl) (tg := 90) (by decide) rfl rfl, ?_⟩
  refine List.forall_mem_cons.mpr ⟨ok_iconst C (show decode cX5_isSoThere 86 = .ok (.iconst 1, 1) from dk_at dq23_20 (i := 2) rfl) (by decide) rfl, ?_⟩
  refine List.forall_mem_cons.mpr ⟨ok_goto C (show decode cX5_isSoThere 87 = .ok (.goto 4, 3) from dk_at dq23_20 (i := 3) rfl) (tg := 91) (by decide) rfl, ?_⟩
  refine List.forall_mem_cons.mpr ⟨ok_iconst C (show decode cX5_isSoThere 90 = .ok (.iconst 0, 1) from dk_at dq23_20 (i := 4) rfl) (by decide) rfl, ?_⟩
  refine List.forall_mem_cons.mpr ⟨ok_zret C rfl (show decode cX5_isSoThere 91 = .ok (.ireturn, 1) from dk_at dq23_20 (i := 5) rfl), ?_⟩
  refine List.forall_mem_cons.mpr ⟨ok_aload_n C (show decode cX5_isSoThere 92 = .ok (.aload_n 3, 1) from dk_at dq23_20 (i := 6) rfl) rfl rfl, ?_⟩
  refine List.forall_mem_cons.mpr ⟨ok_aload_n C (show decode cX5_isSoThere 93 = .ok (.aload_n 2, 1) from dk_at dq23_20 (i := 7) rfl) rfl rfl, ?_⟩
  refine List.forall_mem_cons.mpr ⟨ok_iload_n C (show decode cX5_isSoThere 94 = .ok (.iload_n 1, 1) from dk_at dq23_20 (i := 8) rfl) rfl rfl, ?_⟩
  refine List.forall_mem_cons.mpr ⟨ok_callV C h_X6_isFalse ⟨rfl, rfl⟩ rfl kw_612 kw_1010 kw_610 kw_611 kw_6 rfl ds_X6_isFalse ⟨by decide, by decide⟩ (show decode cX5_isSoThere 95 = .ok (.invokevirtual 112, 3) from dk_at dq23_20 (i := 9) rfl) rfl, ?_⟩
  refine List.forall_mem_cons.mpr ⟨ok_zret C rfl (show decode cX5_isSoThere 98 = .ok (.ireturn, 1) from dk_at dq23_20 (i := 10) rfl), ?_⟩
  exact fun _ h => absurd h List.not_mem_nil
def L_X5_valueOf (f_X10_slotOf : List Value → ab_H → Option ab_O) : List (Nat × ab_A) := [
  (0, ab_nx 1 (ab_iload 0)),
  (1, ab_tab 85 [28, 39, 50] 72),
  (28, ab_nx 29 (ab_aload 2)),
  (29, ab_nx 32 (ab_getf 6 0)),
  (32, ab_nx 33 (ab_iload 1)),
  (33, ab_nx 34 (ab_lit (.int 0))),
  (34, ab_nx 37 (ab_call 2 f_X10_slotOf 0 0 0 0)),
  (37, ab_nx 38 (ab_ald 1)),
  (38, ab_ret 0 0),
  (39, ab_nx 40 (ab_aload 2)),
  (40, ab_nx 43 (ab_getf 6 0)),
  (43, ab_nx 44 (ab_iload 1)),
  (44, ab_nx 45 (ab_lit (.int 1))),
  (45, ab_nx 48 (ab_call 2 f_X10_slotOf 0 0 0 0)),
  (48, ab_nx 49 (ab_ald 1)),
  (49, ab_ret 0 0),
  (50, ab_nx 51 (ab_aload 2)),
  (51, ab_nx 54 (ab_getf 6 3)),
  (54, ab_nx 55 (ab_iload 1)),
  (55, ab_nx 56 (ab_lit (.int 0))),
  (56, ab_nx 59 (ab_call 2 f_X10_slotOf 0 0 0 0)),
  (59, ab_nx 60 (ab_ald 1)),
  (60, ab_nx 61 (ab_aload 2)),
  (61, ab_nx 64 (ab_getf 6 3)),
  (64, ab_nx 65 (ab_iload 1)),
  (65, ab_nx 66 (ab_lit (.int 1))),
  (66, ab_nx 69 (ab_call 2 f_X10_slotOf 0 0 0 0)),
  (69, ab_nx 70 (ab_ald 1)),
  (70, ab_nx 71 (ab_bin (fun x y => x + y))),
  (71, ab_ret 0 0),
  (72, ab_nx 73 (ab_iload 1)),
  (73, ab_ret 0 0)]
set_option maxRecDepth 100000 in
theorem dq23_21 : ([(0, .iload_n 0, 1), (1, .tableswitch 71 85 87 #[27, 38, 49], 27), (28, .aload_n 2, 1), (29, .getfield 116, 3), (32, .iload_n 1, 1), (33, .iconst 0, 1), (34, .invokestatic 84, 3), (37, .iaload, 1), (38, .ireturn, 1), (39, .aload_n 2, 1), (40, .getfield 116, 3), (43, .iload_n 1, 1), (44, .iconst 1, 1), (45, .invokestatic 84, 3), (48, .iaload, 1), (49, .ireturn, 1)] : List (Nat × Instr × Nat)).all (fun q => decide (decode cX5_valueOf q.1 = .ok q.2)) = true := by decide +kernel
set_option maxRecDepth 100000 in
theorem dq23_22 : ([(50, .aload_n 2, 1), (51, .getfield 119, 3), (54, .iload_n 1, 1), (55, .iconst 0, 1), (56, .invokestatic 84, 3), (59, .iaload, 1), (60, .aload_n 2, 1), (61, .getfield 119, 3), (64, .iload_n 1, 1), (65, .iconst 1, 1), (66, .invokestatic 84, 3), (69, .iaload, 1), (70, .iadd, 1), (71, .ireturn, 1), (72, .iload_n 1, 1), (73, .ireturn, 1)] : List (Nat × Instr × Nat)).all (fun q => decide (decode cX5_valueOf q.1 = .ok q.2)) = true := by decide +kernel
set_option maxRecDepth 100000 in
set_option maxHeartbeats 4000000 in
theorem M_X5_valueOf {l : Launch} {b : ab_B} {D : va_G} {cA : Nat → ClassId} {f_X10_slotOf : List Value → ab_H → Option ab_O} (h_X10_slotOf : ab_M l b D ab_cl cA (ab_E0 b) yX10_slotOf (Cond.code yX10_slotOf cX10_slotOf 2 (some .int) :: ab_G) ({ frames := 1, cells := 0, slots := 0, locals := 100 } : Room) f_X10_slotOf) : ab_M l b D ab_cl cA (ab_E0 b) yX5_valueOf (Cond.code yX5_valueOf cX5_valueOf 3 (some .int) :: ab_G) ({ frames := 2, cells := 0, slots := 0, locals := 200 } : Room) (ab_X (ab_T (L_X5_valueOf f_X10_slotOf)) 3) := by
  refine ab_meth (ret := (some .int)) (L_X5_valueOf f_X10_slotOf) (by decide) rfl fun p e R s m args below meth c o C => ?_
  unfold L_X5_valueOf
  refine List.forall_mem_cons.mpr ⟨ok_iload_n C (show decode cX5_valueOf 0 = .ok (.iload_n 0, 1) from dk_at dq23_21 (i := 0) rfl) rfl rfl, ?_⟩
  refine List.forall_mem_cons.mpr ⟨ok_tab C (show decode cX5_valueOf 1 = .ok (.tableswitch 71 85 87 #[27, 38, 49], 27) from dk_at dq23_21 (i := 1) rfl) (by decide) (by decide) (by decide), ?_⟩
  refine List.forall_mem_cons.mpr ⟨ok_aload_n C (show decode cX5_valueOf 28 = .ok (.aload_n 2, 1) from dk_at dq23_21 (i := 2) rfl) rfl rfl, ?_⟩
  refine List.forall_mem_cons.mpr ⟨ok_getf C (wi_X6) rfl (by decide) kw_145 (show decode cX5_valueOf 29 = .ok (.getfield 116, 3) from dk_at dq23_21 (i := 3) rfl) rfl, ?_⟩
  refine List.forall_mem_cons.mpr ⟨ok_iload_n C (show decode cX5_valueOf 32 = .ok (.iload_n 1, 1) from dk_at dq23_21 (i := 4) rfl) rfl rfl, ?_⟩
  refine List.forall_mem_cons.mpr ⟨ok_iconst C (show decode cX5_valueOf 33 = .ok (.iconst 0, 1) from dk_at dq23_21 (i := 5) rfl) (by decide) rfl, ?_⟩
  refine List.forall_mem_cons.mpr ⟨ok_callSN C h_X10_slotOf ⟨rfl, rfl⟩ kw_532 (host := "LackFerry") (by decide +kernel) kw_531 kw_1 ds_X10_slotOf ⟨by decide, by decide⟩ (show decode cX5_valueOf 34 = .ok (.invokestatic 84, 3) from dk_at dq23_21 (i := 6) rfl) rfl, ?_⟩
  refine List.forall_mem_cons.mpr ⟨ok_iaload C (show decode cX5_valueOf 37 = .ok (.iaload, 1) from dk_at dq23_21 (i := 7) rfl) rfl, ?_⟩
  refine List.forall_mem_cons.mpr ⟨ok_ret C rfl (show decode cX5_valueOf 38 = .ok (.ireturn, 1) from dk_at dq23_21 (i := 8) rfl), ?_⟩
  refine List.forall_mem_cons.mpr ⟨ok_aload_n C (show decode cX5_valueOf 39 = .ok (.aload_n 2, 1) from dk_at dq23_21 (i := 9) rfl) rfl rfl, ?_⟩
  refine List.forall_mem_cons.mpr ⟨ok_getf C (wi_X6) rfl (by decide) kw_145 (show decode cX5_valueOf 40 = .ok (.getfield 116, 3) from dk_at dq23_21 (i := 10) rfl) rfl, ?_⟩
  refine List.forall_mem_cons.mpr ⟨ok_iload_n C (show decode cX5_valueOf 43 = .ok (.iload_n 1, 1) from dk_at dq23_21 (i := 11) rfl) rfl rfl, ?_⟩
  refine List.forall_mem_cons.mpr ⟨ok_iconst C (show decode cX5_valueOf 44 = .ok (.iconst 1, 1) from dk_at dq23_21 (i := 12) rfl) (by decide) rfl, ?_⟩
  refine List.forall_mem_cons.mpr ⟨ok_callSN C h_X10_slotOf ⟨rfl, rfl⟩ kw_532 (host := "LackFerry") (by decide +kernel) kw_531 kw_1 ds_X10_slotOf ⟨by decide, by decide⟩ (show decode cX5_valueOf 45 = .ok (.invokestatic 84, 3) from dk_at dq23_21 (i := 13) rfl) rfl, ?_⟩
  refine List.forall_mem_cons.mpr ⟨ok_iaload C (show decode cX5_valueOf 48 = .ok (.iaload, 1) from dk_at dq23_21 (i := 14) rfl) rfl, ?_⟩
  refine List.forall_mem_cons.mpr ⟨ok_ret C rfl (show decode cX5_valueOf 49 = .ok (.ireturn, 1) from dk_at dq23_21 (i := 15) rfl), ?_⟩
  refine List.forall_mem_cons.mpr ⟨ok_aload_n C (show decode cX5_valueOf 50 = .ok (.aload_n 2, 1) from dk_at dq23_22 (i := 0) rfl) rfl rfl, ?_⟩
  refine List.forall_mem_cons.mpr ⟨ok_getf C (wi_X6) rfl (by decide) kw_154 (show decode cX5_valueOf 51 = .ok (.getfield 119, 3) from dk_at dq23_22 (i := 1) rfl) rfl, ?_⟩
  refine List.forall_mem_cons.mpr ⟨ok_iload_n C (show decode cX5_valueOf 54 = .ok (.iload_n 1, 1) from dk_at dq23_22 (i := 2) rfl) rfl rfl, ?_⟩
  refine List.forall_mem_cons.mpr ⟨ok_iconst C (show decode cX5_valueOf 55 = .ok (.iconst 0, 1) from dk_at dq23_22 (i := 3) rfl) (by decide) rfl, ?_⟩
  refine List.forall_mem_cons.mpr ⟨ok_callSN C h_X10_slotOf ⟨rfl, rfl⟩ kw_532 (host := "LackFerry") (by decide +kernel) kw_531 kw_1 ds_X10_slotOf ⟨by decide, by decide⟩ (show decode cX5_valueOf 56 = .ok (.invokestatic 84, 3) from dk_at dq23_22 (i := 4) rfl) rfl, ?_⟩
  refine List.forall_mem_cons.mpr ⟨ok_iaload C (show decode cX5_valueOf 59 = .ok (.iaload, 1) from dk_at dq23_22 (i := 5) rfl) rfl, ?_⟩
  refine List.forall_mem_cons.mpr ⟨ok_aload_n C (show decode cX5_valueOf 60 = .ok (.aload_n 2, 1) from dk_at dq23_22 (i := 6) rfl) rfl rfl, ?_⟩
  refine List.forall_mem_cons.mpr ⟨ok_getf C (wi_X6) rfl (by decide) kw_154 (show decode cX5_valueOf 61 = .ok (.getfield 119, 3) from dk_at dq23_22 (i := 7) rfl) rfl, ?_⟩
  refine List.forall_mem_cons.mpr ⟨ok_iload_n C (show decode cX5_valueOf 64 = .ok (.iload_n 1, 1) from dk_at dq23_22 (i := 8) rfl) rfl rfl, ?_⟩
  refine List.forall_mem_cons.mpr ⟨ok_iconst C (show decode cX5_valueOf 65 = .ok (.iconst 1, 1) from dk_at dq23_22 (i := 9) rfl) (by decide) rfl, ?_⟩
  refine List.forall_mem_cons.mpr ⟨ok_callSN C h_X10_slotOf ⟨rfl, rfl⟩ kw_532 (host := "LackFerry") (by decide +kernel) kw_531 kw_1 ds_X10_slotOf ⟨by decide, by decide⟩ (show decode cX5_valueOf 66 = .ok (.invokestatic 84, 3) from dk_at dq23_22 (i := 10) rfl) rfl, ?_⟩
  refine List.forall_mem_cons.mpr ⟨ok_iaload C (show decode cX5_valueOf 69 = .ok (.iaload, 1) from dk_at dq23_22 (i := 11) rfl) rfl, ?_⟩
  refine List.forall_mem_cons.mpr ⟨ok_iadd C (show decode cX5_valueOf 70 = .ok (.iadd, 1) from dk_at dq23_22 (i := 12) rfl) rfl, ?_⟩
  refine List.forall_mem_cons.mpr ⟨ok_ret C rfl (show decode cX5_valueOf 71 = .ok (.ireturn, 1) from dk_at dq23_22 (i := 13) rfl), ?_⟩
  refine List.forall_mem_cons.mpr ⟨ok_iload_n C (show decode cX5_valueOf 72 = .ok (.iload_n 1, 1) from dk_at dq23_22 (i := 14) rfl) rfl rfl, ?_⟩
  refine List.forall_mem_cons.mpr ⟨ok_ret C rfl (show decode cX5_valueOf 73 = .ok (.ireturn, 1) from dk_at dq23_22 (i := 15) rfl), ?_⟩
  exact fun _ h => absurd h List.not_mem_nil
def L_X5_isSoCompared : List (Nat × ab_A) := [
  (0, ab_nx 1 (ab_iload 1)),
  (1, ab_nx 3 (ab_lit (.int 60))),
  (3, ab_icmp 6 19 (fun x y => !decide (x = y))),
  (6, ab_nx 7 (ab_iload 0)),
  (7, ab_nx 8 (ab_iload 2)),
  (8, ab_icmp 11 15 (fun x y => decide (y ≤ x))),
  (11, ab_nx 12 (ab_lit (.int 1))),
  (12, ab_goto 48),
  (15, ab_nx 16 (ab_lit (.int 0))),
  (16, ab_goto 48),
  (19, ab_nx 20 (ab_iload 1)),
  (20, ab_nx 22 (ab_lit (.int 61))),
  (22, ab_icmp 25 38 (fun x y => !decide (x = y))),
  (25, ab_nx 26 (ab_iload 0)),
  (26, ab_nx 27 (ab_iload 2)),
  (27, ab_icmp 30 34 (fun x y => !decide (x = y))),
  (30, ab_nx 31 (ab_lit (.int 1))),
  (31, ab_goto 48),
  (34, ab_nx 35 (ab_lit (.int 0))),
  (35, ab_goto 48),
  (38, ab_nx 39 (ab_iload 0)),
  (39, ab_nx 40 (ab_iload 2)),
  (40, ab_icmp 43 47 (fun x y => decide (x ≤ y))),
  (43, ab_nx 44 (ab_lit (.int 1))),
  (44, ab_goto 48),
  (47, ab_nx 48 (ab_lit (.int 0))),
  (48, ab_zret 0 0)]
set_option maxRecDepth 100000 in
theorem dq23_23 : ([(0, .iload_n 1, 1), (1, .bipush 60, 2), (3, .if_icmp .ne 16, 3), (6, .iload_n 0, 1), (7, .iload_n 2, 1), (8, .if_icmp .ge 7, 3), (11, .iconst 1, 1), (12, .goto 36, 3), (15, .iconst 0, 1), (16, .goto 32, 3), (19, .iload_n 1, 1), (20, .bipush 61, 2), (22, .if_icmp .ne 16, 3), (25, .iload_n 0, 1), (26, .iload_n 2, 1), (27, .if_icmp .ne 7, 3)] : List (Nat × Instr × Nat)).all (fun q => decide (decode cX5_isSoCompared q.1 = .ok q.2)) = true := by decide +kernel
set_option maxRecDepth 100000 in
theorem dq23_24 : ([(30, .iconst 1, 1), (31, .goto 17, 3), (34, .iconst 0, 1), (35, .goto 13, 3), (38, .iload_n 0, 1), (39, .iload_n 2, 1), (40, .if_icmp .le 7, 3), (43, .iconst 1, 1), (44, .goto 4, 3), (47, .iconst 0, 1), (48, .ireturn, 1)] : List (Nat × Instr × Nat)).all (fun q => decide (decode cX5_isSoCompared q.1 = .ok q.2)) = true := by decide +kernel
set_option maxRecDepth 100000 in
set_option maxHeartbeats 4000000 in
theorem M_X5_isSoCompared {l : Launch} {b : ab_B} {D : va_G} {cA : Nat → ClassId} : ab_M l b D ab_cl cA (ab_E0 b) yX5_isSoCompared (Cond.code yX5_isSoCompared cX5_isSoCompared 3 (some .boolean) :: ab_G) ({ frames := 1, cells := 0, slots := 0, locals := 100 } : Room) (ab_X (ab_T L_X5_isSoCompared) 3) := by
  refine ab_meth (ret := (some .boolean)) L_X5_isSoCompared (by decide) rfl fun p e R s m args below meth c o C => ?_
  unfold L_X5_isSoCompared
  refine List.forall_mem_cons.mpr ⟨ok_iload_n C (show decode cX5_isSoCompared 0 = .ok (.iload_n 1, 1) from dk_at dq23_23 (i := 0) rfl) rfl rfl, ?_⟩
  refine List.forall_mem_cons.mpr ⟨ok_bipush C (show decode cX5_isSoCompared 1 = .ok (.bipush 60, 2) from dk_at dq23_23 (i := 1) rfl) (by decide) rfl, ?_⟩
  refine List.forall_mem_cons.mpr ⟨ok_icmpne C (show decode cX5_isSoCompared 3 = .ok (.if_icmp .ne 16, 3) from dk_at dq23_23 (i := 2) rfl) (tg := 19) (by decide) rfl rfl, ?_⟩
  refine List.forall_mem_cons.mpr ⟨ok_iload_n C (show decode cX5_isSoCompared 6 = .ok (.iload_n 0, 1) from dk_at dq23_23 (i := 3) rfl) rfl rfl, ?_⟩
  refine List.forall_mem_cons.mpr ⟨ok_iload_n C (show decode cX5_isSoCompared 7 = .ok (.iload_n 2, 1) from dk_at dq23_23 (i := 4) rfl) rfl rfl, ?_⟩
  refine List.forall_mem_cons.mpr ⟨ok_icmpge C (show decode cX5_isSoCompared 8 = .ok (.if_icmp .ge 7, 3) from dk_at dq23_23 (i := 5) rfl) (tg := 15) (by decide) rfl rfl, ?_⟩
  refine List.forall_mem_cons.mpr ⟨ok_iconst C (show decode cX5_isSoCompared 11 = .ok (.iconst 1, 1) from dk_at dq23_23 (i := 6) rfl) (by decide) rfl, ?_⟩
  refine List.forall_mem_cons.mpr ⟨ok_goto C (show decode cX5_isSoCompared 12 = .ok (.goto 36, 3) from dk_at dq23_23 (i := 7) rfl) (tg := 48) (by decide) rfl, ?_⟩
  refine List.forall_mem_cons.mpr ⟨ok_iconst C (show decode cX5_isSoCompared 15 = .ok (.iconst 0, 1) from dk_at dq23_23 (i := 8) rfl) (by decide) rfl, ?_⟩
  refine List.forall_mem_cons.mpr ⟨ok_goto C (show decode cX5_isSoCompared 16 = .ok (.goto 32, 3) from dk_at dq23_23 (i := 9) rfl) (tg := 48) (by decide) rfl, ?_⟩
  refine List.forall_mem_cons.mpr ⟨ok_iload_n C (show decode cX5_isSoCompared 19 = .ok (.iload_n 1, 1) from dk_at dq23_23 (i := 10) rfl) rfl rfl, ?_⟩
  refine List.forall_mem_cons.mpr ⟨ok_bipush C (show decode cX5_isSoCompared 20 = .ok (.bipush 61, 2) from dk_at dq23_23 (i := 11) rfl) (by decide) rfl, ?_⟩
  refine List.forall_mem_cons.mpr ⟨ok_icmpne C (show decode cX5_isSoCompared 22 = .ok (.if_icmp .ne 16, 3) from dk_at dq23_23 (i := 12) rfl) (tg := 38) (by decide) rfl rfl, ?_⟩
  refine List.forall_mem_cons.mpr ⟨ok_iload_n C (show decode cX5_isSoCompared 25 = .ok (.iload_n 0, 1) from dk_at dq23_23 (i := 13) rfl) rfl rfl, ?_⟩
  refine List.forall_mem_cons.mpr ⟨ok_iload_n C (show decode cX5_isSoCompared 26 = .ok (.iload_n 2, 1) from dk_at dq23_23 (i := 14) rfl) rfl rfl, ?_⟩
  refine List.forall_mem_cons.mpr ⟨ok_icmpne C (show decode cX5_isSoCompared 27 = .ok (.if_icmp .ne 7, 3) from dk_at dq23_23 (i := 15) rfl) (tg := 34) (by decide) rfl rfl, ?_⟩
  refine List.forall_mem_cons.mpr ⟨ok_iconst C (show decode cX5_isSoCompared 30 = .ok (.iconst 1, 1) from dk_at dq23_24 (i := 0) rfl) (by decide) rfl, ?_⟩
  refine List.forall_mem_cons.mpr ⟨ok_goto C (show decode cX5_isSoCompared 31 = .ok (.goto 17, 3) from dk_at dq23_24 (i := 1) rfl) (tg := 48) (by decide) rfl, ?_⟩
  refine List.forall_mem_cons.mpr ⟨ok_iconst C (show decode cX5_isSoCompared 34 = .ok (.iconst 0, 1) from dk_at dq23_24 (i := 2) rfl) (by decide) rfl, ?_⟩
  refine List.forall_mem_cons.mpr ⟨ok_goto C (show decode cX5_isSoCompared 35 = .ok (.goto 13, 3) from dk_at dq23_24 (i := 3) rfl) (tg := 48) (by decide) rfl, ?_⟩
  refine List.forall_mem_cons.mpr ⟨ok_iload_n C (show decode cX5_isSoCompared 38 = .ok (.iload_n 0, 1) from dk_at dq23_24 (i := 4) rfl) rfl rfl, ?_⟩
  refine List.forall_mem_cons.mpr ⟨ok_iload_n C (show decode cX5_isSoCompared 39 = .ok (.iload_n 2, 1) from dk_at dq23_24 (i := 5) rfl) rfl rfl, ?_⟩
  refine List.forall_mem_cons.mpr ⟨ok_icmple C (show decode cX5_isSoCompared 40 = .ok (.if_icmp .le 7, 3) from dk_at dq23_24 (i := 6) rfl) (tg := 47) (by decide) rfl rfl, ?_⟩
  refine List.forall_mem_cons.mpr ⟨ok_iconst C (show decode cX5_isSoCompared 43 = .ok (.iconst 1, 1) from dk_at dq23_24 (i := 7) rfl) (by decide) rfl, ?_⟩
  refine List.forall_mem_cons.mpr ⟨ok_goto C (show decode cX5_isSoCompared 44 = .ok (.goto 4, 3) from dk_at dq23_24 (i := 8) rfl) (tg := 48) (by decide) rfl, ?_⟩
  refine List.forall_mem_cons.mpr ⟨ok_iconst C (show decode cX5_isSoCompared 47 = .ok (.iconst 0, 1) from dk_at dq23_24 (i := 9) rfl) (by decide) rfl, ?_⟩
  refine List.forall_mem_cons.mpr ⟨ok_zret C rfl (show decode cX5_isSoCompared 48 = .ok (.ireturn, 1) from dk_at dq23_24 (i := 10) rfl), ?_⟩
  exact fun _ h => absurd h List.not_mem_nil
def L_X5_isSo (f_X10_slotOf : List Value → ab_H → Option ab_O) (f_X5_isSoThere : List Value → ab_H → Option ab_O) (f_X5_valueOf : List Value → ab_H → Option ab_O) (f_X5_isSoCompared : List Value → ab_H → Option ab_O) : List (Nat × ab_A) := [
  (0, ab_nx 1 (ab_aload 0)),
  (1, ab_nx 4 (ab_getf 5 0)),
  (4, ab_nx 5 (ab_iload 1)),
  (5, ab_nx 6 (ab_ald 1)),
  (6, ab_nx 8 (ab_lit (.int 84))),
  (8, ab_icmp 11 36 (fun x y => decide (y < x))),
  (11, ab_nx 12 (ab_aload 0)),
  (12, ab_nx 15 (ab_getf 5 0)),
  (15, ab_nx 16 (ab_iload 1)),
  (16, ab_nx 17 (ab_ald 1)),
  (17, ab_nx 18 (ab_iload 2)),
  (18, ab_nx 19 (ab_aload 0)),
  (19, ab_nx 22 (ab_getf 5 1)),
  (22, ab_nx 23 (ab_iload 1)),
  (23, ab_nx 24 (ab_ald 1)),
  (24, ab_nx 27 (ab_call 2 f_X10_slotOf 0 0 0 0)),
  (27, ab_nx 28 (ab_aload 3)),
  (28, ab_nx 30 (ab_aload 4)),
  (30, ab_nx 33 (ab_call 4 f_X5_isSoThere 0 0 0 0)),
  (33, ab_goto 63),
  (36, ab_nx 37 (ab_aload 0)),
  (37, ab_nx 40 (ab_getf 5 0)),
  (40, ab_nx 41 (ab_iload 1)),
  (41, ab_nx 42 (ab_ald 1)),
  (42, ab_nx 43 (ab_iload 2)),
  (43, ab_nx 45 (ab_aload 4)),
  (45, ab_nx 48 (ab_call 3 f_X5_valueOf 0 0 0 0)),
  (48, ab_nx 49 (ab_aload 0)),
  (49, ab_nx 52 (ab_getf 5 1)),
  (52, ab_nx 53 (ab_iload 1)),
  (53, ab_nx 54 (ab_ald 1)),
  (54, ab_nx 55 (ab_aload 0)),
  (55, ab_nx 58 (ab_getf 5 2)),
  (58, ab_nx 59 (ab_iload 1)),
  (59, ab_nx 60 (ab_ald 1)),
  (60, ab_nx 63 (ab_call 3 f_X5_isSoCompared 0 0 0 0)),
  (63, ab_zret 0 0)]
set_option maxRecDepth 100000 in
theorem dq23_25 : ([(0, .aload_n 0, 1), (1, .getfield 11, 3), (4, .iload_n 1, 1), (5, .iaload, 1), (6, .bipush 84, 2), (8, .if_icmp .gt 28, 3), (11, .aload_n 0, 1), (12, .getfield 11, 3), (15, .iload_n 1, 1), (16, .iaload, 1), (17, .iload_n 2, 1), (18, .aload_n 0, 1), (19, .getfield 15, 3), (22, .iload_n 1, 1), (23, .iaload, 1), (24, .invokestatic 84, 3)] : List (Nat × Instr × Nat)).all (fun q => decide (decode cX5_isSo q.1 = .ok q.2)) = true := by decide +kernel
set_option maxRecDepth 100000 in
theorem dq23_26 : ([(27, .aload_n 3, 1), (28, .aload 4, 2), (30, .invokestatic 88, 3), (33, .goto 30, 3), (36, .aload_n 0, 1), (37, .getfield 11, 3), (40, .iload_n 1, 1), (41, .iaload, 1), (42, .iload_n 2, 1), (43, .aload 4, 2), (45, .invokestatic 91, 3), (48, .aload_n 0, 1), (49, .getfield 15, 3), (52, .iload_n 1, 1), (53, .iaload, 1), (54, .aload_n 0, 1)] : List (Nat × Instr × Nat)).all (fun q => decide (decode cX5_isSo q.1 = .ok q.2)) = true := by decide +kernel
set_option maxRecDepth 100000 in
theorem dq23_27 : ([(55, .getfield 18, 3), (58, .iload_n 1, 1), (59, .iaload, 1), (60, .invokestatic 95, 3), (63, .ireturn, 1)] : List (Nat × Instr × Nat)).all (fun q => decide (decode cX5_isSo q.1 = .ok q.2)) = true := by decide +kernel
set_option maxRecDepth 100000 in
set_option maxHeartbeats 4000000 in
theorem M_X5_isSo {l : Launch} {b : ab_B} {D : va_G} {cA : Nat → ClassId} {f_X10_slotOf : List Value → ab_H → Option ab_O} (h_X10_slotOf : ab_M l b D ab_cl cA (ab_E0 b) yX10_slotOf (Cond.code yX10_slotOf cX10_slotOf 2 (some .int) :: ab_G) ({ frames := 1, cells := 0, slots := 0, locals := 100 } : Room) f_X10_slotOf) {f_X5_isSoThere : List Value → ab_H → Option ab_O} (h_X5_isSoThere : ab_M l b D ab_cl cA (ab_E0 b) yX5_isSoThere (Cond.code yX5_isSoThere cX5_isSoThere 4 (some .boolean) :: ab_G) ({ frames := 3, cells := 0, slots := 0, locals := 300 } : Room) f_X5_isSoThere) {f_X5_valueOf : List Value → ab_H → Option ab_O} (h_X5_valueOf : ab_M l b D ab_cl cA (ab_E0 b) yX5_valueOf (Cond.code yX5_valueOf cX5_valueOf 3 (some .int) :: ab_G) ({ frames := 2, cells := 0, slots := 0, locals := 200 } : Room) f_X5_valueOf) {f_X5_isSoCompared : List Value → ab_H → Option ab_O} (h_X5_isSoCompared : ab_M l b D ab_cl cA (ab_E0 b) yX5_isSoCompared (Cond.code yX5_isSoCompared cX5_isSoCompared 3 (some .boolean) :: ab_G) ({ frames := 1, cells := 0, slots := 0, locals := 100 } : Room) f_X5_isSoCompared) : ab_M l b D ab_cl cA (ab_E0 b) yX5_isSo (Cond.code yX5_isSo cX5_isSo 5 (some .boolean) :: ab_G) ({ frames := 4, cells := 0, slots := 0, locals := 400 } : Room) (ab_X (ab_T (L_X5_isSo f_X10_slotOf f_X5_isSoThere f_X5_valueOf f_X5_isSoCompared)) 5) := by
  refine ab_meth (ret := (some .boolean)) (L_X5_isSo f_X10_slotOf f_X5_isSoThere f_X5_valueOf f_X5_isSoCompared) (by decide) rfl fun p e R s m args below meth c o C => ?_
  unfold L_X5_isSo
  refine List.forall_mem_cons.mpr ⟨ok_aload_n C (show decode cX5_isSo 0 = .ok (.aload_n 0, 1) from dk_at dq23_25 (i := 0) rfl) rfl rfl, ?_⟩
  refine List.forall_mem_cons.mpr ⟨ok_getf C (wi_X5) rfl (by decide) kw_294 (show decode cX5_isSo 1 = .ok (.getfield 11, 3) from dk_at dq23_25 (i := 1) rfl) rfl, ?_⟩
  refine List.forall_mem_cons.mpr ⟨ok_iload_n C (show decode cX5_isSo 4 = .ok (.iload_n 1, 1) from dk_at dq23_25 (i := 2) rfl) rfl rfl, ?_⟩
  refine List.forall_mem_cons.mpr ⟨ok_iaload C (show decode cX5_isSo 5 = .ok (.iaload, 1) from dk_at dq23_25 (i := 3) rfl) rfl, ?_⟩
  refine List.forall_mem_cons.mpr ⟨ok_bipush C (show decode cX5_isSo 6 = .ok (.bipush 84, 2) from dk_at dq23_25 (i := 4) rfl) (by decide) rfl, ?_⟩
  refine List.forall_mem_cons.mpr ⟨ok_icmpgt C (show decode cX5_isSo 8 = .ok (.if_icmp .gt 28, 3) from dk_at dq23_25 (i := 5) rfl) (tg := 36) (by decide) rfl rfl, ?_⟩
  refine List.forall_mem_cons.mpr ⟨ok_aload_n C (show decode cX5_isSo 11 = .ok (.aload_n 0, 1) from dk_at dq23_25 (i := 6) rfl) rfl rfl, ?_⟩
  refine List.forall_mem_cons.mpr ⟨ok_getf C (wi_X5) rfl (by decide) kw_294 (show decode cX5_isSo 12 = .ok (.getfield 11, 3) from dk_at dq23_25 (i := 7) rfl) rfl, ?_⟩
  refine List.forall_mem_cons.mpr ⟨ok_iload_n C (show decode cX5_isSo 15 = .ok (.iload_n 1, 1) from dk_at dq23_25 (i := 8) rfl) rfl rfl, ?_⟩
  refine List.forall_mem_cons.mpr ⟨ok_iaload C (show decode cX5_isSo 16 = .ok (.iaload, 1) from dk_at dq23_25 (i := 9) rfl) rfl, ?_⟩
  refine List.forall_mem_cons.mpr ⟨ok_iload_n C (show decode cX5_isSo 17 = .ok (.iload_n 2, 1) from dk_at dq23_25 (i := 10) rfl) rfl rfl, ?_⟩
  refine List.forall_mem_cons.mpr ⟨ok_aload_n C (show decode cX5_isSo 18 = .ok (.aload_n 0, 1) from dk_at dq23_25 (i := 11) rfl) rfl rfl, ?_⟩
  refine List.forall_mem_cons.mpr ⟨ok_getf C (wi_X5) rfl (by decide) kw_295 (show decode cX5_isSo 19 = .ok (.getfield 15, 3) from dk_at dq23_25 (i := 12) rfl) rfl, ?_⟩
  refine List.forall_mem_cons.mpr ⟨ok_iload_n C (show decode cX5_isSo 22 = .ok (.iload_n 1, 1) from dk_at dq23_25 (i := 13) rfl) rfl rfl, ?_⟩
  refine List.forall_mem_cons.mpr ⟨ok_iaload C (show decode cX5_isSo 23 = .ok (.iaload, 1) from dk_at dq23_25 (i := 14) rfl) rfl, ?_⟩
  refine List.forall_mem_cons.mpr ⟨ok_callSN C h_X10_slotOf ⟨rfl, rfl⟩ kw_532 (host := "LackFerry") (by decide +kernel) kw_531 kw_1 ds_X10_slotOf ⟨by decide, by decide⟩ (show decode cX5_isSo 24 = .ok (.invokestatic 84, 3) from dk_at dq23_25 (i := 15) rfl) rfl, ?_⟩
  refine List.forall_mem_cons.mpr ⟨ok_aload_n C (show decode cX5_isSo 27 = .ok (.aload_n 3, 1) from dk_at dq23_26 (i := 0) rfl) rfl rfl, ?_⟩
  refine List.forall_mem_cons.mpr ⟨ok_aload C (show decode cX5_isSo 28 = .ok (.aload 4, 2) from dk_at dq23_26 (i := 1) rfl) rfl, ?_⟩
  refine List.forall_mem_cons.mpr ⟨ok_callS C h_X5_isSoThere ⟨rfl, rfl⟩ kw_1007 kw_1005 kw_1006 kw_10 ds_X5_isSoThere ⟨by decide, by decide⟩ (show decode cX5_isSo 30 = .ok (.invokestatic 88, 3) from dk_at dq23_26 (i := 2) rfl) rfl, ?_⟩
  refine List.forall_mem_cons.mpr ⟨ok_goto C (show decode cX5_isSo 33 = .ok (.goto 30, 3) from dk_at dq23_26 (i := 3) rfl) (tg := 63) (by decide) rfl, ?_⟩
  refine List.forall_mem_cons.mpr ⟨ok_aload_n C (show decode cX5_isSo 36 = .ok (.aload_n 0, 1) from dk_at dq23_26 (i := 4) rfl) rfl rfl, ?_⟩
  refine List.forall_mem_cons.mpr ⟨ok_getf C (wi_X5) rfl (by decide) kw_294 (show decode cX5_isSo 37 = .ok (.getfield 11, 3) from dk_at dq23_26 (i := 5) rfl) rfl, ?_⟩
  refine List.forall_mem_cons.mpr ⟨ok_iload_n C (show decode cX5_isSo 40 = .ok (.iload_n 1, 1) from dk_at dq23_26 (i := 6) rfl) rfl rfl, ?_⟩
  refine List.forall_mem_cons.mpr ⟨ok_iaload C (show decode cX5_isSo 41 = .ok (.iaload, 1) from dk_at dq23_26 (i := 7) rfl) rfl, ?_⟩
  refine List.forall_mem_cons.mpr ⟨ok_iload_n C (show decode cX5_isSo 42 = .ok (.iload_n 2, 1) from dk_at dq23_26 (i := 8) rfl) rfl rfl, ?_⟩
  refine List.forall_mem_cons.mpr ⟨ok_aload C (show decode cX5_isSo 43 = .ok (.aload 4, 2) from dk_at dq23_26 (i := 9) rfl) rfl, ?_⟩
  refine List.forall_mem_cons.mpr ⟨ok_callS C h_X5_valueOf ⟨rfl, rfl⟩ kw_1013 kw_1011 kw_1012 kw_10 ds_X5_valueOf ⟨by decide, by decide⟩ (show decode cX5_isSo 45 = .ok (.invokestatic 91, 3) from dk_at dq23_26 (i := 10) rfl) rfl, ?_⟩
  refine List.forall_mem_cons.mpr ⟨ok_aload_n C (show decode cX5_isSo 48 = .ok (.aload_n 0, 1) from dk_at dq23_26 (i := 11) rfl) rfl rfl, ?_⟩
  refine List.forall_mem_cons.mpr ⟨ok_getf C (wi_X5) rfl (by decide) kw_295 (show decode cX5_isSo 49 = .ok (.getfield 15, 3) from dk_at dq23_26 (i := 12) rfl) rfl, ?_⟩
  refine List.forall_mem_cons.mpr ⟨ok_iload_n C (show decode cX5_isSo 52 = .ok (.iload_n 1, 1) from dk_at dq23_26 (i := 13) rfl) rfl rfl, ?_⟩
  refine List.forall_mem_cons.mpr ⟨ok_iaload C (show decode cX5_isSo 53 = .ok (.iaload, 1) from dk_at dq23_26 (i := 14) rfl) rfl, ?_⟩
  refine List.forall_mem_cons.mpr ⟨ok_aload_n C (show decode cX5_isSo 54 = .ok (.aload_n 0, 1) from dk_at dq23_26 (i := 15) rfl) rfl rfl, ?_⟩
  refine List.forall_mem_cons.mpr ⟨ok_getf C (wi_X5) rfl (by decide) kw_296 (show decode cX5_isSo 55 = .ok (.getfield 18, 3) from dk_at dq23_27 (i := 0) rfl) rfl, ?_⟩
  refine List.forall_mem_cons.mpr ⟨ok_iload_n C (show decode cX5_isSo 58 = .ok (.iload_n 1, 1) from dk_at dq23_27 (i := 1) rfl) rfl rfl, ?_⟩
  refine List.forall_mem_cons.mpr ⟨ok_iaload C (show decode cX5_isSo 59 = .ok (.iaload, 1) from dk_at dq23_27 (i := 2) rfl) rfl, ?_⟩
  refine List.forall_mem_cons.mpr ⟨ok_callS C h_X5_isSoCompared ⟨rfl, rfl⟩ kw_1016 kw_1014 kw_1015 kw_10 ds_X5_isSoCompared ⟨by decide, by decide⟩ (show decode cX5_isSo 60 = .ok (.invokestatic 95, 3) from dk_at dq23_27 (i := 3) rfl) rfl, ?_⟩
  refine List.forall_mem_cons.mpr ⟨ok_zret C rfl (show decode cX5_isSo 63 = .ok (.ireturn, 1) from dk_at dq23_27 (i := 4) rfl), ?_⟩
  exact fun _ h => absurd h List.not_mem_nil
end
-- 24.m04.lean.txt
section
def L_X5_holdsOf (f_X5_isSo : List Value → ab_H → Option ab_O) : List (Nat × ab_A) := [
  (0, ab_nx 1 (ab_lit (.int 0))),
  (1, ab_nx 3 (ab_istore 4)),
  (3, ab_nx 4 (ab_lit (.int 0))),
  (4, ab_nx 6 (ab_istore 5)),
  (6, ab_nx 8 (ab_iload 5)),
  (8, ab_nx 9 (ab_aload 0)),
  (9, ab_nx 12 (ab_getf 5 3)),
  (12, ab_icmp 15 133 (fun x y => decide (y ≤ x))),
  (15, ab_nx 17 (ab_iload 4)),
  (17, ab_nx 18 (ab_lit (.int 1))),
  (18, ab_nx 19 (ab_bin (fun x y => x &&& y))),
  (19, ab_nx 21 (ab_istore 6)),
  (21, ab_nx 22 (ab_aload 0)),
  (22, ab_nx 25 (ab_getf 5 0)),
  (25, ab_nx 27 (ab_iload 5)),
  (27, ab_nx 28 (ab_ald 1)),
  (28, ab_nx 30 (ab_lit (.int 79))),
  (30, ab_icmp 33 42 (fun x y => !decide (x = y))),
  (33, ab_nx 35 (ab_iload 4)),
  (35, ab_nx 36 (ab_lit (.int 1))),
  (36, ab_nx 37 (ab_bin (fun x y => x ^^^ y))),
  (37, ab_nx 39 (ab_istore 4)),
  (39, ab_goto 127),
  (42, ab_nx 43 (ab_aload 0)),
  (43, ab_nx 46 (ab_getf 5 0)),
  (46, ab_nx 48 (ab_iload 5)),
  (48, ab_nx 49 (ab_ald 1)),
  (49, ab_nx 51 (ab_lit (.int 78))),
  (51, ab_icmp 54 79 (fun x y => !decide (x = y))),
  (54, ab_nx 56 (ab_iload 6)),
  (56, ab_nx 57 (ab_lit (.int 1))),
  (57, ab_icmp 60 67 (fun x y => !decide (x = y))),
  (60, ab_nx 62 (ab_iload 4)),
  (62, ab_nx 63 (ab_lit (.int 1))),
  (63, ab_nx 64 (ab_bin (fun x y => x >>> (y &&& 31)))),
  (64, ab_goto 74),
  (67, ab_nx 69 (ab_iload 4)),
  (69, ab_nx 70 (ab_lit (.int 1))),
  (70, ab_nx 71 (ab_bin (fun x y => x >>> (y &&& 31)))),
  (71, ab_nx 73 (ab_lit (.int (-2)))),
  (73, ab_nx 74 (ab_bin (fun x y => x &&& y))),
  (74, ab_nx 76 (ab_istore 4)),
  (76, ab_goto 127),
  (79, ab_nx 80 (ab_aload 0)),
  (80, ab_nx 83 (ab_getf 5 0)),
  (83, ab_nx 85 (ab_iload 5)),
  (85, ab_nx 86 (ab_ald 1)),
  (86, ab_nx 88 (ab_lit (.int 77))),
  (88, ab_icmp 91 103 (fun x y => !decide (x = y))),
  (91, ab_nx 93 (ab_iload 4)),
  (93, ab_nx 94 (ab_lit (.int 1))),
  (94, ab_nx 95 (ab_bin (fun x y => x >>> (y &&& 31)))),
  (95, ab_nx 97 (ab_iload 6)),
  (97, ab_nx 98 (ab_bin (fun x y => x ||| y))),
  (98, ab_nx 100 (ab_istore 4)),
  (100, ab_goto 127),
  (103, ab_nx 105 (ab_iload 4)),
  (105, ab_nx 106 (ab_lit (.int 1))),
  (106, ab_nx 107 (ab_bin (fun x y => x <<< (y &&& 31)))),
  (107, ab_nx 108 (ab_aload 0)),
  (108, ab_nx 110 (ab_iload 5)),
  (110, ab_nx 111 (ab_iload 1)),
  (111, ab_nx 112 (ab_aload 2)),
  (112, ab_nx 113 (ab_aload 3)),
  (113, ab_nx 116 (ab_callV 5 5 f_X5_isSo 0 0 0 0)),
  (116, ab_if 119 123 (fun x => decide (x = 0))),
  (119, ab_nx 120 (ab_lit (.int 1))),
  (120, ab_goto 124),
  (123, ab_nx 124 (ab_lit (.int 0))),
  (124, ab_nx 125 (ab_bin (fun x y => x ||| y))),
  (125, ab_nx 127 (ab_istore 4)),
  (127, ab_nx 130 (ab_iinc 5 1)),
  (130, ab_goto 6),
  (133, ab_nx 135 (ab_iload 4)),
  (135, ab_nx 136 (ab_lit (.int 1))),
  (136, ab_nx 137 (ab_bin (fun x y => x &&& y))),
  (137, ab_nx 138 (ab_lit (.int 1))),
  (138, ab_icmp 141 145 (fun x y => !decide (x = y))),
  (141, ab_nx 142 (ab_lit (.int 1))),
  (142, ab_goto 146),
  (145, ab_nx 146 (ab_lit (.int 0))),
  (146, ab_zret 0 0)]
set_option maxRecDepth 100000 in
theorem dq24_0 : ([(0, .iconst 0, 1), (1, .istore 4, 2), (3, .iconst 0, 1), (4, .istore 5, 2), (6, .iload 5, 2), (8, .aload_n 0, 1), (9, .getfield 27, 3), (12, .if_icmp .ge 121, 3), (15, .iload 4, 2), (17, .iconst 1, 1), (18, .iand, 1), (19, .istore 6, 2), (21, .aload_n 0, 1), (22, .getfield 11, 3), (25, .iload 5, 2), (27, .iaload, 1)] : List (Nat × Instr × Nat)).all (fun q => decide (decode cX5_holdsOf q.1 = .ok q.2)) = true := by decide +kernel
set_option maxRecDepth 100000 in
theorem dq24_1 : ([(28, .bipush 79, 2), (30, .if_icmp .ne 12, 3), (33, .iload 4, 2), (35, .iconst 1, 1), (36, .ixor, 1), (37, .istore 4, 2), (39, .goto 88, 3), (42, .aload_n 0, 1), (43, .getfield 11, 3), (46, .iload 5, 2), (48, .iaload, 1), (49, .bipush 78, 2), (51, .if_icmp .ne 28, 3), (54, .iload 6, 2), (56, .iconst 1, 1), (57, .if_icmp .ne 10, 3)] : List (Nat × Instr × Nat)).all (fun q => decide (decode cX5_holdsOf q.1 = .ok q.2)) = true := by decide +kernel
set_option maxRecDepth 100000 in
theorem dq24_2 : ([(60, .iload 4, 2), (62, .iconst 1, 1), (63, .ishr, 1), (64, .goto 10, 3), (67, .iload 4, 2), (69, .iconst 1, 1), (70, .ishr, 1), (71, .bipush (-2), 2), (73, .iand, 1), (74, .istore 4, 2), (76, .goto 51, 3), (79, .aload_n 0, 1), (80, .getfield 11, 3), (83, .iload 5, 2), (85, .iaload, 1), (86, .bipush 77, 2)] : List (Nat × Instr × Nat)).all (fun q => decide (decode cX5_holdsOf q.1 = .ok q.2)) = true := by decide +kernel
set_option maxRecDepth 100000 in
theorem dq24_3 : ([(88, .if_icmp .ne 15, 3), (91, .iload 4, 2), (93, .iconst 1, 1), (94, .ishr, 1), (95, .iload 6, 2), (97, .ior, 1), (98, .istore 4, 2), (100, .goto 27, 3), (103, .iload 4, 2), (105, .iconst 1, 1), (106, .ishl, 1), (107, .aload_n 0, 1), (108, .iload 5, 2), (110, .iload_n 1, 1), (111, .aload_n 2, 1), (112, .aload_n 3, 1)] : List (Nat × Instr × Nat)).all (fun q => decide (decode cX5_holdsOf q.1 = .ok q.2)) = true := by decide +kernel
set_option maxRecDepth 100000 in
theorem dq24_4 : ([(113, .invokevirtual 80, 3), (116, .ifCond .eq 7, 3), (119, .iconst 1, 1), (120, .goto 4, 3), (123, .iconst 0, 1), (124, .ior, 1), (125, .istore 4, 2), (127, .iinc 5 1, 3), (130, .goto (-124), 3), (133, .iload 4, 2), (135, .iconst 1, 1), (136, .iand, 1), (137, .iconst 1, 1), (138, .if_icmp .ne 7, 3), (141, .iconst 1, 1), (142, .goto 4, 3)] : List (Nat × Instr × Nat)).all (fun q => decide (decode cX5_holdsOf q.1 = .ok q.2)) = true := by decide +kernel
set_option maxRecDepth 100000 in
theorem dq24_5 : ([(145, .iconst 0, 1), (146, .ireturn, 1)] : List (Nat × Instr × Nat)).all (fun q => decide (decode cX5_holdsOf q.1 = .ok q.2)) = true := by decide +kernel
set_option maxRecDepth 100000 in
set_option maxHeartbeats 4000000 in
theorem M_X5_holdsOf {l : Launch} {b : ab_B} {D : va_G} {cA : Nat → ClassId} {f_X5_isSo : List Value → ab_H → Option ab_O} (h_X5_isSo : ab_M l b D ab_cl cA (ab_E0 b) yX5_isSo (Cond.code yX5_isSo cX5_isSo 5 (some .boolean) :: ab_G) ({ frames := 4, cells := 0, slots := 0, locals := 400 } : Room) f_X5_isSo) : ab_M l b D ab_cl cA (ab_E0 b) yX5_holdsOf (Cond.code yX5_holdsOf cX5_holdsOf 7 (some .boolean) :: ab_G) ({ frames := 5, cells := 0, slots := 0, locals := 500 } : Room) (ab_X (ab_T (L_X5_holdsOf f_X5_isSo)) 7) := by
  refine ab_meth (ret := (some .boolean)) (L_X5_holdsOf f_X5_isSo) (by decide) rfl fun p e R s m args below meth c o C => ?_
  unfold L_X5_holdsOf
  refine List.forall_mem_cons.mpr ⟨ok_iconst C (show decode cX5_holdsOf 0 = .ok (.iconst 0, 1) from dk_at dq24_0 (i := 0) rfl) (by decide) rfl, ?_⟩
  refine List.forall_mem_cons.mpr ⟨ok_istore C (show decode cX5_holdsOf 1 = .ok (.istore 4, 2) from dk_at dq24_0 (i := 1) rfl) (by decide) rfl, ?_⟩
  refine List.forall_mem_cons.mpr ⟨ok_iconst C (show decode cX5_holdsOf 3 = .ok (.iconst 0, 1) from dk_at dq24_0 (i := 2) rfl) (by decide) rfl, ?_⟩
  refine List.forall_mem_cons.mpr ⟨ok_istore C (show decode cX5_holdsOf 4 = .ok (.istore 5, 2) from dk_at dq24_0 (i := 3) rfl) (by decide) rfl, ?_⟩
  refine List.forall_mem_cons.mpr ⟨ok_iload C (show decode cX5_holdsOf 6 = .ok (.iload 5, 2) from dk_at dq24_0 (i := 4) rfl) rfl, ?_⟩
  refine List.forall_mem_cons.mpr ⟨ok_aload_n C (show decode cX5_holdsOf 8 = .ok (.aload_n 0, 1) from dk_at dq24_0 (i := 5) rfl) rfl rfl, ?_⟩
  refine List.forall_mem_cons.mpr ⟨ok_getf C (wi_X5) rfl (by decide) kw_297 (show decode cX5_holdsOf 9 = .ok (.getfield 27, 3) from dk_at dq24_0 (i := 6) rfl) rfl, ?_⟩
  refine List.forall_mem_cons.mpr ⟨ok_icmpge C (show decode cX5_holdsOf 12 = .ok (.if_icmp .ge 121, 3) from dk_at dq24_0 (i := 7) rfl) (tg := 133) (by decide) rfl rfl, ?_⟩
  refine List.forall_mem_cons.mpr ⟨ok_iload C (show decode cX5_holdsOf 15 = .ok (.iload 4, 2) from dk_at dq24_0 (i := 8) rfl) rfl, ?_⟩
  refine List.forall_mem_cons.mpr ⟨ok_iconst C (show decode cX5_holdsOf 17 = .ok (.iconst 1, 1) from dk_at dq24_0 (i := 9) rfl) (by decide) rfl, ?_⟩
  refine List.forall_mem_cons.mpr ⟨ok_iand C (show decode cX5_holdsOf 18 = .ok (.iand, 1) from dk_at dq24_0 (i := 10) rfl) rfl, ?_⟩
  refine List.forall_mem_cons.mpr ⟨ok_istore C (show decode cX5_holdsOf 19 = .ok (.istore 6, 2) from dk_at dq24_0 (i := 11) rfl) (by decide) rfl, ?_⟩
  refine List.forall_mem_cons.mpr ⟨ok_aload_n C (show decode cX5_holdsOf 21 = .ok (.aload_n 0, 1) from dk_at dq24_0 (i := 12) rfl) rfl rfl, ?_⟩
  refine List.forall_mem_cons.mpr ⟨ok_getf C (wi_X5) rfl (by decide) kw_294 (show decode cX5_holdsOf 22 = .ok (.getfield 11, 3) from dk_at dq24_0 (i := 13) rfl) rfl, ?_⟩
  refine List.forall_mem_cons.mpr ⟨ok_iload C (show decode cX5_holdsOf 25 = .ok (.iload 5, 2) from dk_at dq24_0 (i := 14) rfl) rfl, ?_⟩
  refine List.forall_mem_cons.mpr ⟨ok_iaload C (show decode cX5_holdsOf 27 = .ok (.iaload, 1) from dk_at dq24_0 (i := 15) rfl) rfl, ?_⟩
  refine List.forall_mem_cons.mpr ⟨ok_bipush C (show decode cX5_holdsOf 28 = .ok (.bipush 79, 2) from dk_at dq24_1 (i := 0) rfl) (by decide) rfl, ?_⟩
  refine List.forall_mem_cons.mpr ⟨ok_icmpne C (show decode cX5_holdsOf 30 = .ok (.if_icmp .ne 12, 3) from dk_at dq24_1 (i := 1) rfl) (tg := 42) (by decide) rfl rfl, ?_⟩
  refine List.forall_mem_cons.mpr ⟨ok_iload C (show decode cX5_holdsOf 33 = .ok (.iload 4, 2) from dk_at dq24_1 (i := 2) rfl) rfl, ?_⟩
  refine List.forall_mem_cons.mpr ⟨ok_iconst C (show decode cX5_holdsOf 35 = .ok (.iconst 1, 1) from dk_at dq24_1 (i := 3) rfl) (by decide) rfl, ?_⟩
  refine List.forall_mem_cons.mpr ⟨ok_ixor C (show decode cX5_holdsOf 36 = .ok (.ixor, 1) from dk_at dq24_1 (i := 4) rfl) rfl, ?_⟩
  refine List.forall_mem_cons.mpr ⟨ok_istore C (show decode cX5_holdsOf 37 = .ok (.istore 4, 2) from dk_at dq24_1 (i := 5) rfl) (by decide) rfl, ?_⟩
  refine List.forall_mem_cons.mpr ⟨ok_goto C (show decode cX5_holdsOf 39 = .ok (.goto 88, 3) from dk_at dq24_1 (i := 6) rfl) (tg := 127) (by decide) rfl, ?_⟩
  refine List.forall_mem_cons.mpr ⟨ok_aload_n C (show decode cX5_holdsOf 42 = .ok (.aload_n 0, 1) from dk_at dq24_1 (i := 7) rfl) rfl rfl, ?_⟩
  refine List.forall_mem_cons.mpr ⟨ok_getf C (wi_X5) rfl (by decide) kw_294 (show decode cX5_holdsOf 43 = .ok (.getfield 11, 3) from dk_at dq24_1 (i := 8) rfl) rfl, ?_⟩
  refine List.forall_mem_cons.mpr ⟨ok_iload C (show decode cX5_holdsOf 46 = .ok (.iload 5, 2) from dk_at dq24_1 (i := 9) rfl) rfl, ?_⟩
  refine List.forall_mem_cons.mpr ⟨ok_iaload C (show decode cX5_holdsOf 48 = .ok (.iaload, 1) from dk_at dq24_1 (i := 10) rfl) rfl, ?_⟩
  refine List.forall_mem_cons.mpr ⟨ok_bipush C (show decode cX5_holdsOf 49 = .ok (.bipush 78, 2) from dk_at dq24_1 (i := 11) rfl) (by decide) rfl, ?_⟩
  refine List.forall_mem_cons.mpr ⟨ok_icmpne C (show decode cX5_holdsOf 51 = .ok (.if_icmp .ne 28, 3) from dk_at dq24_1 (i := 12) rfl) (tg := 79) (by decide) rfl rfl, ?_⟩
  refine List.forall_mem_cons.mpr ⟨ok_iload C (show decode cX5_holdsOf 54 = .ok (.iload 6, 2) from dk_at dq24_1 (i := 13) rfl) rfl, ?_⟩
  refine List.forall_mem_cons.mpr ⟨ok_iconst C (show decode cX5_holdsOf 56 = .ok (.iconst 1, 1) from dk_at dq24_1 (i := 14) rfl) (by decide) rfl, ?_⟩
  refine List.forall_mem_cons.mpr ⟨ok_icmpne C (show decode cX5_holdsOf 57 = .ok (.if_icmp .ne 10, 3) from dk_at dq24_1 (i := 15) rfl) (tg := 67) (by decide) rfl rfl, ?_⟩
  refine List.forall_mem_cons.mpr ⟨ok_iload C (show decode cX5_holdsOf 60 = .ok (.iload 4, 2) from dk_at dq24_2 (i := 0) rfl) rfl, ?_⟩
  refine List.forall_mem_cons.mpr ⟨ok_iconst C (show decode cX5_holdsOf 62 = .ok (.iconst 1, 1) from dk_at dq24_2 (i := 1) rfl) (by decide) rfl, ?_⟩
  refine List.forall_mem_cons.mpr ⟨ok_ishr C (show decode cX5_holdsOf 63 = .ok (.ishr, 1) from dk_at dq24_2 (i := 2) rfl) rfl, ?_⟩
  refine List.forall_mem_cons.mpr ⟨ok_goto C (show decode cX5_holdsOf 64 = .ok (.goto 10, 3) from dk_at dq24_2 (i := 3) rfl) (tg := 74) (by decide) rfl, ?_⟩
  refine List.forall_mem_cons.mpr ⟨ok_iload C (show decode cX5_holdsOf 67 = .ok (.iload 4, 2) from dk_at dq24_2 (i := 4) rfl) rfl, ?_⟩
  refine List.forall_mem_cons.mpr ⟨ok_iconst C (show decode cX5_holdsOf 69 = .ok (.iconst 1, 1) from dk_at dq24_2 (i := 5) rfl) (by decide) rfl, ?_⟩
  refine List.forall_mem_cons.mpr ⟨ok_ishr C (show decode cX5_holdsOf 70 = .ok (.ishr, 1) from dk_at dq24_2 (i := 6) rfl) rfl, ?_⟩
  refine List.forall_mem_cons.mpr ⟨ok_bipush C (show decode cX5_holdsOf 71 = .ok (.bipush (-2), 2) from dk_at dq24_2 (i := 7) rfl) (by decide) rfl, ?_⟩
  refine List.forall_mem_cons.mpr ⟨ok_iand C (show decode cX5_holdsOf 73 = .ok (.iand, 1) from dk_at dq24_2 (i := 8) rfl) rfl, ?_⟩
  refine List.forall_mem_cons.mpr ⟨ok_istore C (show decode cX5_holdsOf 74 = .ok (.istore 4, 2) from dk_at dq24_2 (i := 9) rfl) (by decide) rfl, ?_⟩
  refine List.forall_mem_cons.mpr ⟨ok_goto C (show decode cX5_holdsOf 76 = .ok (.goto 51, 3) from dk_at dq24_2 (i := 10) rfl) (tg := 127) (by decide) rfl, ?_⟩
  refine List.forall_mem_cons.mpr ⟨ok_aload_n C (show decode cX5_holdsOf 79 = .ok (.aload_n 0, 1) from dk_at dq24_2 (i := 11) rfl) rfl rfl, ?_⟩
  refine List.forall_mem_cons.mpr ⟨ok_getf C (wi_X5) rfl (by decide) kw_294 (show decode cX5_holdsOf 80 = .ok (.getfield 11, 3) from dk_at dq24_2 (i := 12) rfl) rfl, ?_⟩
  refine List.forall_mem_cons.mpr ⟨ok_iload C (show decode cX5_holdsOf 83 = .ok (.iload 5, 2) from dk_at dq24_2 (i := 13) rfl) rfl, ?_⟩
  refine List.forall_mem_cons.mpr ⟨ok_iaload C (show decode cX5_holdsOf 85 = .ok (.iaload, 1) from dk_at dq24_2 (i := 14) rfl) rfl, ?_⟩
  refine List.forall_mem_cons.mpr ⟨ok_bipush C (show decode cX5_holdsOf 86 = .ok (.bipush 77, 2) from dk_at dq24_2 (i := 15) rfl) (by decide) rfl, ?_⟩
  refine List.forall_mem_cons.mpr ⟨ok_icmpne C (show decode cX5_holdsOf 88 = .ok (.if_icmp .ne 15, 3) from dk_at dq24_3 (i := 0) rfl) (tg := 103) (by decide) rfl rfl, ?_⟩
  refine List.forall_mem_cons.mpr ⟨ok_iload C (show decode cX5_holdsOf 91 = .ok (.iload 4, 2) from dk_at dq24_3 (i := 1) rfl) rfl, ?_⟩
  refine List.forall_mem_cons.mpr ⟨ok_iconst C (show decode cX5_holdsOf 93 = .ok (.iconst 1, 1) from dk_at dq24_3 (i := 2) rfl) (by decide) rfl, ?_⟩
  refine List.forall_mem_cons.mpr ⟨ok_ishr C (show decode cX5_holdsOf 94 = .ok (.ishr, 1) from dk_at dq24_3 (i := 3) rfl) rfl, ?_⟩
  refine List.forall_mem_cons.mpr ⟨ok_iload C (show decode cX5_holdsOf 95 = .ok (.iload 6, 2) from dk_at dq24_3 (i := 4) rfl) rfl, ?_⟩
  refine List.forall_mem_cons.mpr ⟨ok_ior C (show decode cX5_holdsOf 97 = .ok (.ior, 1) from dk_at dq24_3 (i := 5) rfl) rfl, ?_⟩
  refine List.forall_mem_cons.mpr ⟨ok_istore C (show decode cX5_holdsOf 98 = .ok (.istore 4, 2) from dk_at dq24_3 (i := 6) rfl) (by decide) rfl, ?_⟩
  refine List.forall_mem_cons.mpr ⟨ok_goto C (show decode cX5_holdsOf 100 = .ok (.goto 27, 3) from dk_at dq24_3 (i := 7) rfl) (tg := 127) (by decide) rfl, ?_⟩
  refine List.forall_mem_cons.mpr ⟨ok_iload C (show decode cX5_holdsOf 103 = .ok (.iload 4, 2) from dk_at dq24_3 (i := 8) rfl) rfl, ?_⟩
  refine List.forall_mem_cons.mpr ⟨ok_iconst C (show decode cX5_holdsOf 105 = .ok (.iconst 1, 1) from dk_at dq24_3 (i := 9) rfl) (by decide) rfl, ?_⟩
  refine List.forall_mem_cons.mpr ⟨ok_ishl C (show decode cX5_holdsOf 106 = .ok (.ishl, 1) from dk_at dq24_3 (i := 10) rfl) rfl, ?_⟩
  refine List.forall_mem_cons.mpr ⟨ok_aload_n C (show decode cX5_holdsOf 107 = .ok (.aload_n 0, 1) from dk_at dq24_3 (i := 11) rfl) rfl rfl, ?_⟩
  refine List.forall_mem_cons.mpr ⟨ok_iload C (show decode cX5_holdsOf 108 = .ok (.iload 5, 2) from dk_at dq24_3 (i := 12) rfl) rfl, ?_⟩
  refine List.forall_mem_cons.mpr ⟨ok_iload_n C (show decode cX5_holdsOf 110 = .ok (.iload_n 1, 1) from dk_at dq24_3 (i := 13) rfl) rfl rfl, ?_⟩
  refine List.forall_mem_cons.mpr ⟨ok_aload_n C (show decode cX5_holdsOf 111 = .ok (.aload_n 2, 1) from dk_at dq24_3 (i := 14) rfl) rfl rfl, ?_⟩
  refine List.forall_mem_cons.mpr ⟨ok_aload_n C (show decode cX5_holdsOf 112 = .ok (.aload_n 3, 1) from dk_at dq24_3 (i := 15) rfl) rfl rfl, ?_⟩
  refine List.forall_mem_cons.mpr ⟨ok_callV C h_X5_isSo ⟨rfl, rfl⟩ rfl kw_1003 kw_1000 kw_1002 kp_45 kw_10 rfl ds_X5_isSo ⟨by decide, by decide⟩ (show decode cX5_holdsOf 113 = .ok (.invokevirtual 80, 3) from dk_at dq24_4 (i := 0) rfl) rfl, ?_⟩
  refine List.forall_mem_cons.mpr ⟨ok_ifeq C (show decode cX5_holdsOf 116 = .ok (.ifCond .eq 7, 3) from dk_at dq24_4 (i := 1) rfl) (tg := 123) (by decide) rfl rfl, ?_⟩
  refine List.forall_mem_cons.mpr ⟨ok_iconst C (show decode cX5_holdsOf 119 = .ok (.iconst 1, 1) from dk_at dq24_4 (i := 2) rfl) (by decide) rfl, ?_⟩
  refine List.forall_mem_cons.mpr ⟨ok_goto C (show decode cX5_holdsOf 120 = .ok (.goto 4, 3) from dk_at dq24_4 (i := 3) rfl) (tg := 124) (by decide) rfl, ?_⟩
  refine List.forall_mem_cons.mpr ⟨ok_iconst C (show decode cX5_holdsOf 123 = .ok (.iconst 0, 1) from dk_at dq24_4 (i := 4) rfl) (by decide) rfl, ?_⟩
  refine List.forall_mem_cons.mpr ⟨ok_ior C (show decode cX5_holdsOf 124 = .ok (.ior, 1) from dk_at dq24_4 (i := 5) rfl) rfl, ?_⟩
  refine List.forall_mem_cons.mpr ⟨ok_istore C (show decode cX5_holdsOf 125 = .ok (.istore 4, 2) from dk_at dq24_4 (i := 6) rfl) (by decide) rfl, ?_⟩
  refine List.forall_mem_cons.mpr ⟨ok_iinc C (show decode cX5_holdsOf 127 = .ok (.iinc 5 1, 3) from dk_at dq24_4 (i := 7) rfl) (by decide) (by decide) rfl, ?_⟩
  refine List.forall_mem_cons.mpr ⟨ok_goto C (show decode cX5_holdsOf 130 = .ok (.goto (-124), 3) from dk_at dq24_4 (i := 8) rfl) (tg := 6) (by decide) rfl, ?_⟩
  refine List.forall_mem_cons.mpr ⟨ok_iload C (show decode cX5_holdsOf 133 = .ok (.iload 4, 2) from dk_at dq24_4 (i := 9) rfl) rfl, ?_⟩
  refine List.forall_mem_cons.mpr ⟨ok_iconst C (show decode cX5_holdsOf 135 = .ok (.iconst 1, 1) from dk_at dq24_4 (i := 10) rfl) (by decide) rfl, ?_⟩
  refine List.forall_mem_cons.mpr ⟨ok_iand C (show decode cX5_holdsOf 136 = .ok (.iand, 1) from dk_at dq24_4 (i := 11) rfl) rfl, ?_⟩
  refine List.forall_mem_cons.mpr ⟨ok_iconst C (show decode cX5_holdsOf 137 = .ok (.iconst 1, 1) from dk_at dq24_4 (i := 12) rfl) (by decide) rfl, ?_⟩
  refine List.forall_mem_cons.mpr ⟨ok_icmpne C (show decode cX5_holdsOf 138 = .ok (.if_icmp .ne 7, 3) from dk_at dq24_4 (i := 13) rfl) (tg := 145) (by decide) rfl rfl, ?_⟩
  refine List.forall_mem_cons.mpr ⟨ok_iconst C (show decode cX5_holdsOf 141 = .ok (.iconst 1, 1) from dk_at dq24_4 (i := 14) rfl) (by decide) rfl, ?_⟩
  refine List.forall_mem_cons.mpr ⟨ok_goto C (show decode cX5_holdsOf 142 = .ok (.goto 4, 3) from dk_at dq24_4 (i := 15) rfl) (tg := 146) (by decide) rfl, ?_⟩
  refine List.forall_mem_cons.mpr ⟨ok_iconst C (show decode cX5_holdsOf 145 = .ok (.iconst 0, 1) from dk_at dq24_5 (i := 0) rfl) (by decide) rfl, ?_⟩
  refine List.forall_mem_cons.mpr ⟨ok_zret C rfl (show decode cX5_holdsOf 146 = .ok (.ireturn, 1) from dk_at dq24_5 (i := 1) rfl), ?_⟩
  exact fun _ h => absurd h List.not_mem_nil
def L_X6_beginAs (f_X7_amountOf : List Value → ab_H → Option ab_O) : List (Nat × ab_A) := [
  (0, ab_nx 1 (ab_lit (.int 0))),
  (1, ab_nx 2 (ab_istore 2)),
  (2, ab_nx 3 (ab_iload 2)),
  (3, ab_nx 5 (ab_lit (.int 12))),
  (5, ab_icmp 8 47 (fun x y => decide (y ≤ x))),
  (8, ab_nx 9 (ab_aload 0)),
  (9, ab_nx 12 (ab_getf 6 0)),
  (12, ab_nx 13 (ab_iload 2)),
  (13, ab_nx 14 (ab_aload 1)),
  (14, ab_nx 15 (ab_lit (.int 0))),
  (15, ab_nx 16 (ab_iload 2)),
  (16, ab_nx 19 (ab_callV 3 7 f_X7_amountOf 0 0 0 0)),
  (19, ab_nx 20 (ab_ast 1)),
  (20, ab_nx 21 (ab_aload 0)),
  (21, ab_nx 24 (ab_getf 6 1)),
  (24, ab_nx 25 (ab_iload 2)),
  (25, ab_nx 26 (ab_lit (.int 0))),
  (26, ab_nx 27 (ab_ast 1)),
  (27, ab_nx 28 (ab_aload 0)),
  (28, ab_nx 31 (ab_getf 6 2)),
  (31, ab_nx 32 (ab_iload 2)),
  (32, ab_nx 33 (ab_lit (.int 0))),
  (33, ab_nx 34 (ab_ast 1)),
  (34, ab_nx 35 (ab_aload 0)),
  (35, ab_nx 38 (ab_getf 6 3)),
  (38, ab_nx 39 (ab_iload 2)),
  (39, ab_nx 40 (ab_lit (.int 0))),
  (40, ab_nx 41 (ab_ast 1)),
  (41, ab_nx 44 (ab_iinc 2 1)),
  (44, ab_goto 2),
  (47, ab_nx 48 (ab_lit (.int 0))),
  (48, ab_nx 49 (ab_istore 2)),
  (49, ab_nx 50 (ab_iload 2)),
  (50, ab_nx 52 (ab_lit (.int 8))),
  (52, ab_icmp 55 80 (fun x y => decide (y ≤ x))),
  (55, ab_nx 56 (ab_aload 0)),
  (56, ab_nx 59 (ab_getf 6 4)),
  (59, ab_nx 60 (ab_iload 2)),
  (60, ab_nx 61 (ab_aload 1)),
  (61, ab_nx 64 (ab_getf 7 2)),
  (64, ab_nx 65 (ab_iload 2)),
  (65, ab_nx 66 (ab_ald 1)),
  (66, ab_nx 67 (ab_ast 1)),
  (67, ab_nx 68 (ab_aload 0)),
  (68, ab_nx 71 (ab_getf 6 5)),
  (71, ab_nx 72 (ab_iload 2)),
  (72, ab_nx 73 (ab_lit (.int 0))),
  (73, ab_nx 74 (ab_ast 1)),
  (74, ab_nx 77 (ab_iinc 2 1)),
  (77, ab_goto 49),
  (80, ab_nx 81 (ab_lit (.int 0))),
  (81, ab_nx 82 (ab_istore 2)),
  (82, ab_nx 83 (ab_iload 2)),
  (83, ab_nx 85 (ab_lit (.int 64))),
  (85, ab_icmp 88 101 (fun x y => decide (y ≤ x))),
  (88, ab_nx 89 (ab_aload 0)),
  (89, ab_nx 92 (ab_getf 6 6)),
  (92, ab_nx 93 (ab_iload 2)),
  (93, ab_nx 94 (ab_lit (.int 0))),
  (94, ab_nx 95 (ab_ast 1)),
  (95, ab_nx 98 (ab_iinc 2 1)),
  (98, ab_goto 82),
  (101, ab_nx 102 (ab_aload 0)),
  (102, ab_nx 103 (ab_lit (.int 0))),
  (103, ab_nx 106 (ab_putf 6 7 0)),
  (106, ab_nx 107 (ab_aload 0)),
  (107, ab_nx 108 (ab_lit (.int 0))),
  (108, ab_nx 111 (ab_putf 6 8 0)),
  (111, ab_nx 112 (ab_aload 0)),
  (112, ab_nx 113 (ab_lit (.int 0))),
  (113, ab_nx 116 (ab_putf 6 9 0)),
  (116, ab_vret 0 0)]
set_option maxRecDepth 100000 in
theorem dq24_6 : ([(0, .iconst 0, 1), (1, .istore_n 2, 1), (2, .iload_n 2, 1), (3, .bipush 12, 2), (5, .if_icmp .ge 42, 3), (8, .aload_n 0, 1), (9, .getfield 9, 3), (12, .iload_n 2, 1), (13, .aload_n 1, 1), (14, .iconst 0, 1), (15, .iload_n 2, 1), (16, .invokevirtual 33, 3), (19, .iastore, 1), (20, .aload_n 0, 1), (21, .getfield 15, 3), (24, .iload_n 2, 1)] : List (Nat × Instr × Nat)).all (fun q => decide (decode cX6_beginAs q.1 = .ok q.2)) = true := by decide +kernel
set_option maxRecDepth 100000 in
theorem dq24_7 : ([(25, .iconst 0, 1), (26, .iastore, 1), (27, .aload_n 0, 1), (28, .getfield 18, 3), (31, .iload_n 2, 1), (32, .iconst 0, 1), (33, .iastore, 1), (34, .aload_n 0, 1), (35, .getfield 21, 3), (38, .iload_n 2, 1), (39, .iconst 0, 1), (40, .iastore, 1), (41, .iinc 2 1, 3), (44, .goto (-42), 3), (47, .iconst 0, 1), (48, .istore_n 2, 1)] : List (Nat × Instr × Nat)).all (fun q => decide (decode cX6_beginAs q.1 = .ok q.2)) = true := by decide +kernel
set_option maxRecDepth 100000 in
theorem dq24_8 : ([(49, .iload_n 2, 1), (50, .bipush 8, 2), (52, .if_icmp .ge 28, 3), (55, .aload_n 0, 1), (56, .getfield 24, 3), (59, .iload_n 2, 1), (60, .aload_n 1, 1), (61, .getfield 39, 3), (64, .iload_n 2, 1), (65, .iaload, 1), (66, .iastore, 1), (67, .aload_n 0, 1), (68, .getfield 27, 3), (71, .iload_n 2, 1), (72, .iconst 0, 1), (73, .iastore, 1)] : List (Nat × Instr × Nat)).all (fun q => decide (decode cX6_beginAs q.1 = .ok q.2)) = true := by decide +kernel
set_option maxRecDepth 100000 in
theorem dq24_9 : ([(74, .iinc 2 1, 3), (77, .goto (-28), 3), (80, .iconst 0, 1), (81, .istore_n 2, 1), (82, .iload_n 2, 1), (83, .bipush 64, 2), (85, .if_icmp .ge 16, 3), (88, .aload_n 0, 1), (89, .getfield 30, 3), (92, .iload_n 2, 1), (93, .iconst 0, 1), (94, .iastore, 1), (95, .iinc 2 1, 3), (98, .goto (-16), 3), (101, .aload_n 0, 1), (102, .iconst 0, 1)] : List (Nat × Instr × Nat)).all (fun q => decide (decode cX6_beginAs q.1 = .ok q.2)) = true := by decide +kernel
set_option maxRecDepth 100000 in
theorem dq24_10 : ([(103, .putfield 42, 3), (106, .aload_n 0, 1), (107, .iconst 0, 1), (108, .putfield 46, 3), (111, .aload_n 0, 1), (112, .iconst 0, 1), (113, .putfield 49, 3), (116, .return_, 1)] : List (Nat × Instr × Nat)).all (fun q => decide (decode cX6_beginAs q.1 = .ok q.2)) = true := by decide +kernel
set_option maxRecDepth 100000 in
set_option maxHeartbeats 4000000 in
theorem M_X6_beginAs {l : Launch} {b : ab_B} {D : va_G} {cA : Nat → ClassId} {f_X7_amountOf : List Value → ab_H → Option ab_O} (h_X7_amountOf : ab_M l b D ab_cl cA (ab_E0 b) yX7_amountOf (Cond.code yX7_amountOf cX7_amountOf 3 (some .int) :: ab_G) ({ frames := 1, cells := 0, slots := 0, locals := 100 } : Room) f_X7_amountOf) : ab_M l b D ab_cl cA (ab_E0 b) yX6_beginAs (Cond.code yX6_beginAs cX6_beginAs 3 none :: ab_G) ({ frames := 2, cells := 0, slots := 0, locals := 200 } : Room) (ab_X (ab_T (L_X6_beginAs f_X7_amountOf)) 3) := by
  refine ab_meth (ret := none) (L_X6_beginAs f_X7_amountOf) (by decide) rfl fun p e R s m args below meth c o C => ?_
  unfold L_X6_beginAs
  refine List.forall_mem_cons.mpr ⟨ok_iconst C (show decode cX6_beginAs 0 = .ok (.iconst 0, 1) from dk_at dq24_6 (i := 0) rfl) (by decide) rfl, ?_⟩
  refine List.forall_mem_cons.mpr ⟨ok_istore_n C (show decode cX6_beginAs 1 = .ok (.istore_n 2, 1) from dk_at dq24_6 (i := 1) rfl) rfl (by decide) rfl, ?_⟩
  refine List.forall_mem_cons.mpr ⟨ok_iload_n C (show decode cX6_beginAs 2 = .ok (.iload_n 2, 1) from dk_at dq24_6 (i := 2) rfl) rfl rfl, ?_⟩
  refine List.forall_mem_cons.mpr ⟨ok_bipush C (show decode cX6_beginAs 3 = .ok (.bipush 12, 2) from dk_at dq24_6 (i := 3) rfl) (by decide) rfl, ?_⟩
  refine List.forall_mem_cons.mpr ⟨ok_icmpge C (show decode cX6_beginAs 5 = .ok (.if_icmp .ge 42, 3) from dk_at dq24_6 (i := 4) rfl) (tg := 47) (by decide) rfl rfl, ?_⟩
  refine List.forall_mem_cons.mpr ⟨ok_aload_n C (show decode cX6_beginAs 8 = .ok (.aload_n 0, 1) from dk_at dq24_6 (i := 5) rfl) rfl rfl, ?_⟩
  refine List.forall_mem_cons.mpr ⟨ok_getf C (wi_X6) rfl (by decide) kw_142 (show decode cX6_beginAs 9 = .ok (.getfield 9, 3) from dk_at dq24_6 (i := 6) rfl) rfl, ?_⟩
  refine List.forall_mem_cons.mpr ⟨ok_iload_n C (show decode cX6_beginAs 12 = .ok (.iload_n 2, 1) from dk_at dq24_6 (i := 7) rfl) rfl rfl, ?_⟩
  refine List.forall_mem_cons.mpr ⟨ok_aload_n C (show decode cX6_beginAs 13 = .ok (.aload_n 1, 1) from dk_at dq24_6 (i := 8) rfl) rfl rfl, ?_⟩
  refine List.forall_mem_cons.mpr ⟨ok_iconst C (show decode cX6_beginAs 14 = .ok (.iconst 0, 1) from dk_at dq24_6 (i := 9) rfl) (by decide) rfl, ?_⟩
  refine List.forall_mem_cons.mpr ⟨ok_iload_n C (show decode cX6_beginAs 15 = .ok (.iload_n 2, 1) from dk_at dq24_6 (i := 10) rfl) rfl rfl, ?_⟩
  refine List.forall_mem_cons.mpr ⟨ok_callV C h_X7_amountOf ⟨rfl, rfl⟩ rfl kw_576 kw_573 kw_574 kw_575 kw_9 rfl ds_X7_amountOf ⟨by decide, by decide⟩ (show decode cX6_beginAs 16 = .ok (.invokevirtual 33, 3) from dk_at dq24_6 (i := 11) rfl) rfl, ?_⟩
  refine List.forall_mem_cons.mpr ⟨ok_iastore C (show decode cX6_beginAs 19 = .ok (.iastore, 1) from dk_at dq24_6 (i := 12) rfl) rfl, ?_⟩
  refine List.forall_mem_cons.mpr ⟨ok_aload_n C (show decode cX6_beginAs 20 = .ok (.aload_n 0, 1) from dk_at dq24_6 (i := 13) rfl) rfl rfl, ?_⟩
  refine List.forall_mem_cons.mpr ⟨ok_getf C (wi_X6) rfl (by decide) kw_146 (show decode cX6_beginAs 21 = .ok (.getfield 15, 3) from dk_at dq24_6 (i := 14) rfl) rfl, ?_⟩
  refine List.forall_mem_cons.mpr ⟨ok_iload_n C (show decode cX6_beginAs 24 = .ok (.iload_n 2, 1) from dk_at dq24_6 (i := 15) rfl) rfl rfl, ?_⟩
  refine List.forall_mem_cons.mpr ⟨ok_iconst C (show decode cX6_beginAs 25 = .ok (.iconst 0, 1) from dk_at dq24_7 (i := 0) rfl) (by decide) rfl, ?_⟩
  refine List.forall_mem_cons.mpr ⟨ok_iastore C (show decode cX6_beginAs 26 = .ok (.iastore, 1) from dk_at dq24_7 (i := 1) rfl) rfl, ?_⟩
  refine List.forall_mem_cons.mpr ⟨ok_aload_n C (show decode cX6_beginAs 27 = .ok (.aload_n 0, 1) from dk_at dq24_7 (i := 2) rfl) rfl rfl, ?_⟩
  refine List.forall_mem_cons.mpr ⟨ok_getf C (wi_X6) rfl (by decide) kw_149 (show decode cX6_beginAs 28 = .ok (.getfield 18, 3) from dk_at dq24_7 (i := 3) rfl) rfl, ?_⟩
  refine List.forall_mem_cons.mpr ⟨ok_iload_n C (show decode cX6_beginAs 31 = .ok (.iload_n 2, 1) from dk_at dq24_7 (i := 4) rfl) rfl rfl, ?_⟩
  refine List.forall_mem_cons.mpr ⟨ok_iconst C (show decode cX6_beginAs 32 = .ok (.iconst 0, 1) from dk_at dq24_7 (i := 5) rfl) (by decide) rfl, ?_⟩
  refine List.forall_mem_cons.mpr ⟨ok_iastore C (show decode cX6_beginAs 33 = .ok (.iastore, 1) from dk_at dq24_7 (i := 6) rfl) rfl, ?_⟩
  refine List.forall_mem_cons.mpr ⟨ok_aload_n C (show decode cX6_beginAs 34 = .ok (.aload_n 0, 1) from dk_at dq24_7 (i := 7) rfl) rfl rfl, ?_⟩
  refine List.forall_mem_cons.mpr ⟨ok_getf C (wi_X6) rfl (by decide) kw_151 (show decode cX6_beginAs 35 = .ok (.getfield 21, 3) from dk_at dq24_7 (i := 8) rfl) rfl, ?_⟩
  refine List.forall_mem_cons.mpr ⟨ok_iload_n C (show decode cX6_beginAs 38 = .ok (.iload_n 2, 1) from dk_at dq24_7 (i := 9) rfl) rfl rfl, ?_⟩
  refine List.forall_mem_cons.mpr ⟨ok_iconst C (show decode cX6_beginAs 39 = .ok (.iconst 0, 1) from dk_at dq24_7 (i := 10) rfl) (by decide) rfl, ?_⟩
  refine List.forall_mem_cons.mpr ⟨ok_iastore C (show decode cX6_beginAs 40 = .ok (.iastore, 1) from dk_at dq24_7 (i := 11) rfl) rfl, ?_⟩
  refine List.forall_mem_cons.mpr ⟨ok_iinc C (show decode cX6_beginAs 41 = .ok (.iinc 2 1, 3) from dk_at dq24_7 (i := 12) rfl) (by decide) (by decide) rfl, ?_⟩
  refine List.forall_mem_cons.mpr ⟨ok_goto C (show decode cX6_beginAs 44 = .ok (.goto (-42), 3) from dk_at dq24_7 (i := 13) rfl) (tg := 2) (by decide) rfl, ?_⟩
  refine List.forall_mem_cons.mpr ⟨ok_iconst C (show decode cX6_beginAs 47 = .ok (.iconst 0, 1) from dk_at dq24_7 (i := 14) rfl) (by decide) rfl, ?_⟩
  refine List.forall_mem_cons.mpr ⟨ok_istore_n C (show decode cX6_beginAs 48 = .ok (.istore_n 2, 1) from dk_at dq24_7 (i := 15) rfl) rfl (by decide) rfl, ?_⟩
  refine List.forall_mem_cons.mpr ⟨ok_iload_n C (show decode cX6_beginAs 49 = .ok (.iload_n 2, 1) from dk_at dq24_8 (i := 0) rfl) rfl rfl, ?_⟩
  refine List.forall_mem_cons.mpr ⟨ok_bipush C (show decode cX6_beginAs 50 = .ok (.bipush 8, 2) from dk_at dq24_8 (i := 1) rfl) (by decide) rfl, ?_⟩
  refine List.forall_mem_cons.mpr ⟨ok_icmpge C (show decode cX6_beginAs 52 = .ok (.if_icmp .ge 28, 3) from dk_at dq24_8 (i := 2) rfl) (tg := 80) (by decide) rfl rfl, ?_⟩
  refine List.forall_mem_cons.mpr ⟨ok_aload_n C (show decode cX6_beginAs 55 = .ok (.aload_n 0, 1) from dk_at dq24_8 (i := 3) rfl) rfl rfl, ?_⟩
  refine List.forall_mem_cons.mpr ⟨ok_getf C (wi_X6) rfl (by decide) kw_155 (show decode cX6_beginAs 56 = .ok (.getfield 24, 3) from dk_at dq24_8 (i := 4) rfl) rfl, ?_⟩
  refine List.forall_mem_cons.mpr ⟨ok_iload_n C (show decode cX6_beginAs 59 = .ok (.iload_n 2, 1) from dk_at dq24_8 (i := 5) rfl) rfl rfl, ?_⟩
  refine List.forall_mem_cons.mpr ⟨ok_aload_n C (show decode cX6_beginAs 60 = .ok (.aload_n 1, 1) from dk_at dq24_8 (i := 6) rfl) rfl rfl, ?_⟩
  refine List.forall_mem_cons.mpr ⟨ok_getf C (wi_X7) rfl (by decide) kw_237 (show decode cX6_beginAs 61 = .ok (.getfield 39, 3) from dk_at dq24_8 (i := 7) rfl) rfl, ?_⟩
  refine List.forall_mem_cons.mpr ⟨ok_iload_n C (show decode cX6_beginAs 64 = .ok (.iload_n 2, 1) from dk_at dq24_8 (i := 8) rfl) rfl rfl, ?_⟩
  refine List.forall_mem_cons.mpr ⟨ok_iaload C (show decode cX6_beginAs 65 = .ok (.iaload, 1) from dk_at dq24_8 (i := 9) rfl) rfl, ?_⟩
  refine List.forall_mem_cons.mpr ⟨ok_iastore C (show decode cX6_beginAs 66 = .ok (.iastore, 1) from dk_at dq24_8 (i := 10) rfl) rfl, ?_⟩
  refine List.forall_mem_cons.mpr ⟨ok_aload_n C (show decode cX6_beginAs 67 = .ok (.aload_n 0, 1) from dk_at dq24_8 (i := 11) rfl) rfl rfl, ?_⟩
  refine List.forall_mem_cons.mpr ⟨ok_getf C (wi_X6) rfl (by decide) kw_158 (show decode cX6_beginAs 68 = .ok (.getfield 27, 3) from dk_at dq24_8 (i := 12) rfl) rfl, ?_⟩
  refine List.forall_mem_cons.mpr ⟨ok_iload_n C (show decode cX6_beginAs 71 = .ok (.iload_n 2, 1) from dk_at dq24_8 (i := 13) rfl) rfl rfl, ?_⟩
  refine List.forall_mem_cons.mpr ⟨ok_iconst C (show decode cX6_beginAs 72 = .ok (.iconst 0, 1) from dk_at dq24_8 (i := 14) rfl) (by decide) rfl, ?_⟩
  refine List.forall_mem_cons.mpr ⟨ok_iastore C (show decode cX6_beginAs 73 = .ok (.iastore, 1) from dk_at dq24_8 (i := 15) rfl) rfl, ?_⟩
  refine List.forall_mem_cons.mpr ⟨ok_iinc C (show decode cX6_beginAs 74 = .ok (.iinc 2 1, 3) from dk_at dq24_9 (i := 0) rfl) (by decide) (by decide) rfl, ?_⟩
  refine List.forall_mem_cons.mpr ⟨ok_goto C (show decode cX6_beginAs 77 = .ok (.goto (-28), 3) from dk_at dq24_9 (i := 1) rfl) (tg := 49) (by decide) rfl, ?_⟩
  refine List.forall_mem_cons.mpr ⟨ok_iconst C (show decode cX6_beginAs 80 = .ok (.iconst 0, 1) from dk_at dq24_9 (i := 2) rfl) (by decide) rfl, ?_⟩
  refine List.forall_mem_cons.mpr ⟨ok_istore_n C (show decode cX6_beginAs 81 = .ok (.istore_n 2, 1) from dk_at dq24_9 (i := 3) rfl) rfl (by decide) rfl, ?_⟩
  refine List.forall_mem_cons.mpr ⟨ok_iload_n C (show decode cX6_beginAs 82 = .ok (.iload_n 2, 1) from dk_at dq24_9 (i := 4) rfl) rfl rfl, ?_⟩
  refine List.forall_mem_cons.mpr ⟨ok_bipush C (show decode cX6_beginAs 83 = .ok (.bipush 64, 2) from dk_at dq24_9 (i := 5) rfl) (by decide) rfl, ?_⟩
  refine List.forall_mem_cons.mpr ⟨ok_icmpge C (show decode cX6_beginAs 85 = .ok (.if_icmp .ge 16, 3) from dk_at dq24_9 (i := 6) rfl) (tg := 101) (by decide) rfl rfl, ?_⟩
  refine List.forall_mem_cons.mpr ⟨ok_aload_n C (show decode cX6_beginAs 88 = .ok (.aload_n 0, 1) from dk_at dq24_9 (i := 7) rfl) rfl rfl, ?_⟩
  refine List.forall_mem_cons.mpr ⟨ok_getf C (wi_X6) rfl (by decide) kw_161 (show decode cX6_beginAs 89 = .ok (.getfield 30, 3) from dk_at dq24_9 (i := 8) rfl) rfl, ?_⟩
  refine List.forall_mem_cons.mpr ⟨ok_iload_n C (show decode cX6_beginAs 92 = .ok (.iload_n 2, 1) from dk_at dq24_9 (i := 9) rfl) rfl rfl, ?_⟩
  refine List.forall_mem_cons.mpr ⟨ok_iconst C (show decode cX6_beginAs 93 = .ok (.iconst 0, 1) from dk_at dq24_9 (i := 10) rfl) (by decide) rfl, ?_⟩
  refine List.forall_mem_cons.mpr ⟨ok_iastore C (show decode cX6_beginAs 94 = .ok (.iastore, 1) from dk_at dq24_9 (i := 11) rfl) rfl, ?_⟩
  refine List.forall_mem_cons.mpr ⟨ok_iinc C (show decode cX6_beginAs 95 = .ok (.iinc 2 1, 3) from dk_at dq24_9 (i := 12) rfl) (by decide) (by decide) rfl, ?_⟩
  refine List.forall_mem_cons.mpr ⟨ok_goto C (show decode cX6_beginAs 98 = .ok (.goto (-16), 3) from dk_at dq24_9 (i := 13) rfl) (tg := 82) (by decide) rfl, ?_⟩
  refine List.forall_mem_cons.mpr ⟨ok_aload_n C (show decode cX6_beginAs 101 = .ok (.aload_n 0, 1) from dk_at dq24_9 (i := 14) rfl) rfl rfl, ?_⟩
  refine List.forall_mem_cons.mpr ⟨ok_iconst C (show decode cX6_beginAs 102 = .ok (.iconst 0, 1) from dk_at dq24_9 (i := 15) rfl) (by decide) rfl, ?_⟩
  refine List.forall_mem_cons.mpr ⟨ok_putf C (wi_X6) tyX6 tyX6_ok nmX6 rfl (by decide) kw_162 (Or.inl rfl) (Or.inl ⟨rfl, rfl⟩) (show decode cX6_beginAs 103 = .ok (.putfield 42, 3) from dk_at dq24_10 (i := 0) rfl) rfl, ?_⟩
  refine List.forall_mem_cons.mpr ⟨ok_aload_n C (show decode cX6_beginAs 106 = .ok (.aload_n 0, 1) from dk_at dq24_10 (i := 1) rfl) rfl rfl, ?_⟩
  refine List.forall_mem_cons.mpr ⟨ok_iconst C (show decode cX6_beginAs 107 = .ok (.iconst 0, 1) from dk_at dq24_10 (i := 2) rfl) (by decide) rfl, ?_⟩
  refine List.forall_mem_cons.mpr ⟨ok_putf C (wi_X6) tyX6 tyX6_ok nmX6 rfl (by decide) kw_165 (Or.inl rfl) (Or.inl ⟨rfl, rfl⟩) (show decode cX6_beginAs 108 = .ok (.putfield 46, 3) from dk_at dq24_10 (i := 3) rfl) rfl, ?_⟩
  refine List.forall_mem_cons.mpr ⟨ok_aload_n C (show decode cX6_beginAs 111 = .ok (.aload_n 0, 1) from dk_at dq24_10 (i := 4) rfl) rfl rfl, ?_⟩
  refine List.forall_mem_cons.mpr ⟨ok_iconst C (show decode cX6_beginAs 112 = .ok (.iconst 0, 1) from dk_at dq24_10 (i := 5) rfl) (by decide) rfl, ?_⟩
  refine List.forall_mem_cons.mpr ⟨ok_putf C (wi_X6) tyX6 tyX6_ok nmX6 rfl (by decide) kw_168 (Or.inl rfl) (Or.inl ⟨rfl, rfl⟩) (show decode cX6_beginAs 113 = .ok (.putfield 49, 3) from dk_at dq24_10 (i := 6) rfl) rfl, ?_⟩
  refine List.forall_mem_cons.mpr ⟨ok_vret C rfl (show decode cX6_beginAs 116 = .ok (.return_, 1) from dk_at dq24_10 (i := 7) rfl), ?_⟩
  exact fun _ h => absurd h List.not_mem_nil
def L_X6_looksLike : List (Nat × ab_A) := [
  (0, ab_nx 1 (ab_lit (.int 0))),
  (1, ab_nx 2 (ab_istore 2)),
  (2, ab_nx 3 (ab_iload 2)),
  (3, ab_nx 5 (ab_lit (.int 12))),
  (5, ab_icmp 8 31 (fun x y => decide (y ≤ x))),
  (8, ab_nx 9 (ab_aload 0)),
  (9, ab_nx 12 (ab_getf 6 0)),
  (12, ab_nx 13 (ab_iload 2)),
  (13, ab_nx 14 (ab_ald 1)),
  (14, ab_nx 15 (ab_aload 1)),
  (15, ab_nx 18 (ab_getf 6 0)),
  (18, ab_nx 19 (ab_iload 2)),
  (19, ab_nx 20 (ab_ald 1)),
  (20, ab_icmp 23 25 (fun x y => decide (x = y))),
  (23, ab_nx 24 (ab_lit (.int 0))),
  (24, ab_zret 0 0),
  (25, ab_nx 28 (ab_iinc 2 1)),
  (28, ab_goto 2),
  (31, ab_nx 32 (ab_lit (.int 0))),
  (32, ab_nx 33 (ab_istore 2)),
  (33, ab_nx 34 (ab_iload 2)),
  (34, ab_nx 36 (ab_lit (.int 8))),
  (36, ab_icmp 39 62 (fun x y => decide (y ≤ x))),
  (39, ab_nx 40 (ab_aload 0)),
  (40, ab_nx 43 (ab_getf 6 4)),
  (43, ab_nx 44 (ab_iload 2)),
  (44, ab_nx 45 (ab_ald 1)),
  (45, ab_nx 46 (ab_aload 1)),
  (46, ab_nx 49 (ab_getf 6 4)),
  (49, ab_nx 50 (ab_iload 2)),
  (50, ab_nx 51 (ab_ald 1)),
  (51, ab_icmp 54 56 (fun x y => decide (x = y))),
  (54, ab_nx 55 (ab_lit (.int 0))),
  (55, ab_zret 0 0),
  (56, ab_nx 59 (ab_iinc 2 1)),
  (59, ab_goto 33),
  (62, ab_nx 63 (ab_lit (.int 1))),
  (63, ab_zret 0 0)]
set_option maxRecDepth 100000 in
theorem dq24_11 : ([(0, .iconst 0, 1), (1, .istore_n 2, 1), (2, .iload_n 2, 1), (3, .bipush 12, 2), (5, .if_icmp .ge 26, 3), (8, .aload_n 0, 1), (9, .getfield 9, 3), (12, .iload_n 2, 1), (13, .iaload, 1), (14, .aload_n 1, 1), (15, .getfield 9, 3), (18, .iload_n 2, 1), (19, .iaload, 1), (20, .if_icmp .eq 5, 3), (23, .iconst 0, 1), (24, .ireturn, 1)] : List (Nat × Instr × Nat)).all (fun q => decide (decode cX6_looksLike q.1 = .ok q.2)) = true := by decide +kernel
set_option maxRecDepth 100000 in
theorem dq24_12 : ([(25, .iinc 2 1, 3), (28, .goto (-26), 3), (31, .iconst 0, 1), (32, .istore_n 2, 1), (33, .iload_n 2, 1), (34, .bipush 8, 2), (36, .if_icmp .ge 26, 3), (39, .aload_n 0, 1), (40, .getfield 24, 3), (43, .iload_n 2, 1), (44, .iaload, 1), (45, .aload_n 1, 1), (46, .getfield 24, 3), (49, .iload_n 2, 1), (50, .iaload, 1), (51, .if_icmp .eq 5, 3)] : List (Nat × Instr × Nat)).all (fun q => decide (decode cX6_looksLike q.1 = .ok q.2)) = true := by decide +kernel
set_option maxRecDepth 100000 in
theorem dq24_13 : ([(54, .iconst 0, 1), (55, .ireturn, 1), (56, .iinc 2 1, 3), (59, .goto (-26), 3), (62, .iconst 1, 1), (63, .ireturn, 1)] : List (Nat × Instr × Nat)).all (fun q => decide (decode cX6_looksLike q.1 = .ok q.2)) = true := by decide +kernel
set_option maxRecDepth 100000 in
set_option maxHeartbeats 4000000 in
theorem M_X6_looksLike {l : Launch} {b : ab_B} {D : va_G} {cA : Nat → ClassId} : ab_M l b D ab_cl cA (ab_E0 b) yX6_looksLike (Cond.code yX6_looksLike cX6_looksLike 3 (some .boolean) :: ab_G) ({ frames := 1, cells := 0, slots := 0, locals := 100 } : Room) (ab_X (ab_T L_X6_looksLike) 3) := by
  refine ab_meth (ret := (some .boolean)) L_X6_looksLike (by decide) rfl fun p e R s m args below meth c o C => ?_
  unfold L_X6_looksLike
  refine List.forall_mem_cons.mpr ⟨ok_iconst C (show decode cX6_looksLike 0 = .ok (.iconst 0, 1) from dk_at dq24_11 (i := 0) rfl) (by decide) rfl, ?_⟩
  refine List.forall_mem_cons.mpr ⟨ok_istore_n C (show decode cX6_looksLike 1 = .ok (.istore_n 2, 1) from dk_at dq24_11 (i := 1) rfl) rfl (by decide) rfl, ?_⟩
  refine List.forall_mem_cons.mpr ⟨ok_iload_n C (show decode cX6_looksLike 2 = .ok (.iload_n 2, 1) from dk_at dq24_11 (i := 2) rfl) rfl rfl, ?_⟩
  refine List.forall_mem_cons.mpr ⟨ok_bipush C (show decode cX6_looksLike 3 = .ok (.bipush 12, 2) from dk_at dq24_11 (i := 3) rfl) (by decide) rfl, ?_⟩
  refine List.forall_mem_cons.mpr ⟨ok_icmpge C (show decode cX6_looksLike 5 = .ok (.if_icmp .ge 26, 3) from dk_at dq24_11 (i := 4) rfl) (tg := 31) (by decide) rfl rfl, ?_⟩
  refine List.forall_mem_cons.mpr ⟨ok_aload_n C (show decode cX6_looksLike 8 = .ok (.aload_n 0, 1) from dk_at dq24_11 (i := 5) rfl) rfl rfl, ?_⟩
  refine List.forall_mem_cons.mpr ⟨ok_getf C (wi_X6) rfl (by decide) kw_142 (show decode cX6_looksLike 9 = .ok (.getfield 9, 3) from dk_at dq24_11 (i := 6) rfl) rfl, ?_⟩
  refine List.forall_mem_cons.mpr ⟨ok_iload_n C (show decode cX6_looksLike 12 = .ok (.iload_n 2, 1) from dk_at dq24_11 (i := 7) rfl) rfl rfl, ?_⟩
  refine List.forall_mem_cons.mpr ⟨ok_iaload C (show decode cX6_looksLike 13 = .ok (.iaload, 1) from dk_at dq24_11 (i := 8) rfl) rfl, ?_⟩
  refine List.forall_mem_cons.mpr ⟨ok_aload_n C (show decode cX6_looksLike 14 = .ok (.aload_n 1, 1) from dk_at dq24_11 (i := 9) rfl) rfl rfl, ?_⟩
  refine List.forall_mem_cons.mpr ⟨ok_getf C (wi_X6) rfl (by decide) kw_142 (show decode cX6_looksLike 15 = .ok (.getfield 9, 3) from dk_at dq24_11 (i := 10) rfl) rfl, ?_⟩
  refine List.forall_mem_cons.mpr ⟨ok_iload_n C (show decode cX6_looksLike 18 = .ok (.iload_n 2, 1) from dk_at dq24_11 (i := 11) rfl) rfl rfl, ?_⟩
  refine List.forall_mem_cons.mpr ⟨ok_iaload C (show decode cX6_looksLike 19 = .ok (.iaload, 1) from dk_at dq24_11 (i := 12) rfl) rfl, ?_⟩
  refine List.forall_mem_cons.mpr ⟨ok_icmpeq C (show decode cX6_looksLike 20 = .ok (.if_icmp .eq 5, 3) from dk_at dq24_11 (i := 13) rfl) (tg := 25) (by decide) rfl rfl, ?_⟩
  refine List.forall_mem_cons.mpr ⟨ok_iconst C (show decode cX6_looksLike 23 = .ok (.iconst 0, 1) from dk_at dq24_11 (i := 14) rfl) (by decide) rfl, ?_⟩
  refine List.forall_mem_cons.mpr ⟨ok_zret C rfl (show decode cX6_looksLike 24 = .ok (.ireturn, 1) from dk_at dq24_11 (i := 15) rfl), ?_⟩
  refine List.forall_mem_cons.mpr ⟨ok_iinc C (show decode cX6_looksLike 25 = .ok (.iinc 2 1, 3) from dk_at dq24_12 (i := 0) rfl) (by decide) (by decide) rfl, ?_⟩
  refine List.forall_mem_cons.mpr ⟨ok_goto C (show decode cX6_looksLike 28 = .ok (.goto (-26), 3) from dk_at dq24_12 (i := 1) rfl) (tg := 2) (by decide) rfl, ?_⟩
  refine List.forall_mem_cons.mpr ⟨ok_iconst C (show decode cX6_looksLike 31 = .ok (.iconst 0, 1) from dk_at dq24_12 (i := 2) rfl) (by decide) rfl, ?_⟩
  refine List.forall_mem_cons.mpr ⟨ok_istore_n C (show decode cX6_looksLike 32 = .ok (.istore_n 2, 1) from dk_at dq24_12 (i := 3) rfl) rfl (by decide) rfl, ?_⟩
  refine List.forall_mem_cons.mpr ⟨ok_iload_n C (show decode cX6_looksLike 33 = .ok (.iload_n 2, 1) from dk_at dq24_12 (i := 4) rfl) rfl rfl, ?_⟩
  refine List.forall_mem_cons.mpr ⟨ok_bipush C (show decode cX6_looksLike 34 = .ok (.bipush 8, 2) from dk_at dq24_12 (i := 5) rfl) (by decide) rfl, ?_⟩
  refine List.forall_mem_cons.mpr ⟨ok_icmpge C (show decode cX6_looksLike 36 = .ok (.if_icmp .ge 26, 3) from dk_at dq24_12 (i := 6) rfl) (tg := 62) (by decide) rfl rfl, ?_⟩
  refine List.forall_mem_cons.mpr ⟨ok_aload_n C (show decode cX6_looksLike 39 = .ok (.aload_n 0, 1) from dk_at dq24_12 (i := 7) rfl) rfl rfl, ?_⟩
  refine List.forall_mem_cons.mpr ⟨ok_getf C (wi_X6) rfl (by decide) kw_155 (show decode cX6_looksLike 40 = .ok (.getfield 24, 3) from dk_at dq24_12 (i := 8) rfl) rfl, ?_⟩
  refine List.forall_mem_cons.mpr ⟨ok_iload_n C (show decode cX6_looksLike 43 = .ok (.iload_n 2, 1) from dk_at dq24_12 (i := 9) rfl) rfl rfl, ?_⟩
  refine List.forall_mem_cons.mpr ⟨ok_iaload C (show decode cX6_looksLike 44 = .ok (.iaload, 1) from dk_at dq24_12 (i := 10) rfl) rfl, ?_⟩
  refine List.forall_mem_cons.mpr ⟨ok_aload_n C (show decode cX6_looksLike 45 = .ok (.aload_n 1, 1) from dk_at dq24_12 (i := 11) rfl) rfl rfl, ?_⟩
  refine List.forall_mem_cons.mpr ⟨ok_getf C (wi_X6) rfl (by decide) kw_155 (show decode cX6_looksLike 46 = .ok (.getfield 24, 3) from dk_at dq24_12 (i := 12) rfl) rfl, ?_⟩
  refine List.forall_mem_cons.mpr ⟨ok_iload_n C (show decode cX6_looksLike 49 = .ok (.iload_n 2, 1) from dk_at dq24_12 (i := 13) rfl) rfl rfl, ?_⟩
  refine List.forall_mem_cons.mpr ⟨ok_iaload C (show decode cX6_looksLike 50 = .ok (.iaload, 1) from dk_at dq24_12 (i := 14) rfl) rfl, ?_⟩
  refine List.forall_mem_cons.mpr ⟨ok_icmpeq C (show decode cX6_looksLike 51 = .ok (.if_icmp .eq 5, 3) from dk_at dq24_12 (i := 15) rfl) (tg := 56) (by decide) rfl rfl, ?_⟩
  refine List.forall_mem_cons.mpr ⟨ok_iconst C (show decode cX6_looksLike 54 = .ok (.iconst 0, 1) from dk_at dq24_13 (i := 0) rfl) (by decide) rfl, ?_⟩
  refine List.forall_mem_cons.mpr ⟨ok_zret C rfl (show decode cX6_looksLike 55 = .ok (.ireturn, 1) from dk_at dq24_13 (i := 1) rfl), ?_⟩
  refine List.forall_mem_cons.mpr ⟨ok_iinc C (show decode cX6_looksLike 56 = .ok (.iinc 2 1, 3) from dk_at dq24_13 (i := 2) rfl) (by decide) (by decide) rfl, ?_⟩
  refine List.forall_mem_cons.mpr ⟨ok_goto C (show decode cX6_looksLike 59 = .ok (.goto (-26), 3) from dk_at dq24_13 (i := 3) rfl) (tg := 33) (by decide) rfl, ?_⟩
  refine List.forall_mem_cons.mpr ⟨ok_iconst C (show decode cX6_looksLike 62 = .ok (.iconst 1, 1) from dk_at dq24_13 (i := 4) rfl) (by decide) rfl, ?_⟩
  refine List.forall_mem_cons.mpr ⟨ok_zret C rfl (show decode cX6_looksLike 63 = .ok (.ireturn, 1) from dk_at dq24_13 (i := 5) rfl), ?_⟩
  exact fun _ h => absurd h List.not_mem_nil
def L_X6_hungerInAll : List (Nat × ab_A) := [
  (0, ab_nx 1 (ab_lit (.int 0))),
  (1, ab_nx 2 (ab_istore 1)),
  (2, ab_nx 3 (ab_lit (.int 0))),
  (3, ab_nx 4 (ab_istore 2)),
  (4, ab_nx 5 (ab_iload 2)),
  (5, ab_nx 7 (ab_lit (.int 12))),
  (7, ab_icmp 10 25 (fun x y => decide (y ≤ x))),
  (10, ab_nx 11 (ab_iload 1)),
  (11, ab_nx 12 (ab_aload 0)),
  (12, ab_nx 15 (ab_getf 6 2)),
  (15, ab_nx 16 (ab_iload 2)),
  (16, ab_nx 17 (ab_ald 1)),
  (17, ab_nx 18 (ab_bin (fun x y => x + y))),
  (18, ab_nx 19 (ab_istore 1)),
  (19, ab_nx 22 (ab_iinc 2 1)),
  (22, ab_goto 4),
  (25, ab_nx 26 (ab_iload 1)),
  (26, ab_ret 0 0)]
set_option maxRecDepth 100000 in
theorem dq24_14 : ([(0, .iconst 0, 1), (1, .istore_n 1, 1), (2, .iconst 0, 1), (3, .istore_n 2, 1), (4, .iload_n 2, 1), (5, .bipush 12, 2), (7, .if_icmp .ge 18, 3), (10, .iload_n 1, 1), (11, .aload_n 0, 1), (12, .getfield 18, 3), (15, .iload_n 2, 1), (16, .iaload, 1), (17, .iadd, 1), (18, .istore_n 1, 1), (19, .iinc 2 1, 3), (22, .goto (-18), 3)] : List (Nat × Instr × Nat)).all (fun q => decide (decode cX6_hungerInAll q.1 = .ok q.2)) = true := by decide +kernel
set_option maxRecDepth 100000 in
theorem dq24_15 : ([(25, .iload_n 1, 1), (26, .ireturn, 1)] : List (Nat × Instr × Nat)).all (fun q => decide (decode cX6_hungerInAll q.1 = .ok q.2)) = true := by decide +kernel
set_option maxRecDepth 100000 in
set_option maxHeartbeats 4000000 in
theorem M_X6_hungerInAll {l : Launch} {b : ab_B} {D : va_G} {cA : Nat → ClassId} : ab_M l b D ab_cl cA (ab_E0 b) yX6_hungerInAll (Cond.code yX6_hungerInAll cX6_hungerInAll 3 (some .int) :: ab_G) ({ frames := 1, cells := 0, slots := 0, locals := 100 } : Room) (ab_X (ab_T L_X6_hungerInAll) 3) := by
  refine ab_meth (ret := (some .int)) L_X6_hungerInAll (by decide) rfl fun p e R s m args below meth c o C => ?_
  unfold L_X6_hungerInAll
  refine List.forall_mem_cons.mpr ⟨ok_iconst C (show decode cX6_hungerInAll 0 = .ok (.iconst 0, 1) from dk_at dq24_14 (i := 0) rfl) (by decide) rfl, ?_⟩
  refine List.forall_mem_cons.mpr ⟨ok_istore_n C (show decode cX6_hungerInAll 1 = .ok (.istore_n 1, 1) from dk_at dq24_14 (i := 1) rfl) rfl (by decide) rfl, ?_⟩
  refine List.forall_mem_cons.mpr ⟨ok_iconst C (show decode cX6_hungerInAll 2 = .ok (.iconst 0, 1) from dk_at dq24_14 (i := 2) rfl) (by decide) rfl, ?_⟩
  refine List.forall_mem_cons.mpr ⟨ok_istore_n C (show decode cX6_hungerInAll 3 = .ok (.istore_n 2, 1) from dk_at dq24_14 (i := 3) rfl) rfl (by decide) rfl, ?_⟩
  refine List.forall_mem_cons.mpr ⟨ok_iload_n C (show decode cX6_hungerInAll 4 = .ok (.iload_n 2, 1) from dk_at dq24_14 (i := 4) rfl) rfl rfl, ?_⟩
  refine List.forall_mem_cons.mpr ⟨ok_bipush C (show decode cX6_hungerInAll 5 = .ok (.bipush 12, 2) from dk_at dq24_14 (i := 5) rfl) (by decide) rfl, ?_⟩
  refine List.forall_mem_cons.mpr ⟨ok_icmpge C (show decode cX6_hungerInAll 7 = .ok (.if_icmp .ge 18, 3) from dk_at dq24_14 (i := 6) rfl) (tg := 25) (by decide) rfl rfl, ?_⟩
  refine List.forall_mem_cons.mpr ⟨ok_iload_n C (show decode cX6_hungerInAll 10 = .ok (.iload_n 1, 1) from dk_at dq24_14 (i := 7) rfl) rfl rfl, ?_⟩
  refine List.forall_mem_cons.mpr ⟨ok_aload_n C (show decode cX6_hungerInAll 11 = .ok (.aload_n 0, 1) from dk_at dq24_14 (i := 8) rfl) rfl rfl, ?_⟩
  refine List.forall_mem_cons.mpr ⟨ok_getf C (wi_X6) rfl (by decide) kw_149 (show decode cX6_hungerInAll 12 = .ok (.getfield 18, 3) from dk_at dq24_14 (i := 9) rfl) rfl, ?_⟩
  refine List.forall_mem_cons.mpr ⟨ok_iload_n C (show decode cX6_hungerInAll 15 = .ok (.iload_n 2, 1) from dk_at dq24_14 (i := 10) rfl) rfl rfl, ?_⟩
  refine List.forall_mem_cons.mpr ⟨ok_iaload C (show decode cX6_hungerInAll 16 = .ok (.iaload, 1) from dk_at dq24_14 (i := 11) rfl) rfl, ?_⟩
  refine List.forall_mem_cons.mpr ⟨ok_iadd C (show decode cX6_hungerInAll 17 = .ok (.iadd, 1) from dk_at dq24_14 (i := 12) rfl) rfl, ?_⟩
  refine List.forall_mem_cons.mpr ⟨ok_istore_n C (show decode cX6_hungerInAll 18 = .ok (.istore_n 1, 1) from dk_at dq24_14 (i := 13) rfl) rfl (by decide) rfl, ?_⟩
  refine List.forall_mem_cons.mpr ⟨ok_iinc C (show decode cX6_hungerInAll 19 = .ok (.iinc 2 1, 3) from dk_at dq24_14 (i := 14) rfl) (by decide) (by decide) rfl, ?_⟩
  refine List.forall_mem_cons.mpr ⟨ok_goto C (show decode cX6_hungerInAll 22 = .ok (.goto (-18), 3) from dk_at dq24_14 (i := 15) rfl) (tg := 4) (by decide) rfl, ?_⟩
  refine List.forall_mem_cons.mpr ⟨ok_iload_n C (show decode cX6_hungerInAll 25 = .ok (.iload_n 1, 1) from dk_at dq24_15 (i := 0) rfl) rfl rfl, ?_⟩
  refine List.forall_mem_cons.mpr ⟨ok_ret C rfl (show decode cX6_hungerInAll 26 = .ok (.ireturn, 1) from dk_at dq24_15 (i := 1) rfl), ?_⟩
  exact fun _ h => absurd h List.not_mem_nil
def L_X6_isAlive : List (Nat × ab_A) := [
  (0, ab_nx 1 (ab_aload 0)),
  (1, ab_nx 4 (ab_getf 6 4)),
  (4, ab_nx 5 (ab_iload 1)),
  (5, ab_nx 6 (ab_ald 1)),
  (6, ab_nx 7 (ab_lit (.int (-1)))),
  (7, ab_icmp 10 14 (fun x y => decide (x = y))),
  (10, ab_nx 11 (ab_lit (.int 1))),
  (11, ab_goto 15),
  (14, ab_nx 15 (ab_lit (.int 0))),
  (15, ab_zret 0 0)]
set_option maxRecDepth 100000 in
theorem dq24_16 : ([(0, .aload_n 0, 1), (1, .getfield 24, 3), (4, .iload_n 1, 1), (5, .iaload, 1), (6, .iconst (-1), 1), (7, .if_icmp .eq 7, 3), (10, .iconst 1, 1), (11, .goto 4, 3), (14, .iconst 0, 1), (15, .ireturn, 1)] : List (Nat × Instr × Nat)).all (fun q => decide (decode cX6_isAlive q.1 = .ok q.2)) = true := by decide +kernel
set_option maxRecDepth 100000 in
set_option maxHeartbeats 4000000 in
theorem M_X6_isAlive {l : Launch} {b : ab_B} {D : va_G} {cA : Nat → ClassId} : ab_M l b D ab_cl cA (ab_E0 b) yX6_isAlive (Cond.code yX6_isAlive cX6_isAlive 2 (some .boolean) :: ab_G) ({ frames := 1, cells := 0, slots := 0, locals := 100 } : Room) (ab_X (ab_T L_X6_isAlive) 2) := by
  refine ab_meth (ret := (some .boolean)) L_X6_isAlive (by decide) rfl fun p e R s m args below meth c o C => ?_
  unfold L_X6_isAlive
  refine List.forall_mem_cons.mpr ⟨ok_aload_n C (show decode cX6_isAlive 0 = .ok (.aload_n 0, 1) from dk_at dq24_16 (i := 0) rfl) rfl rfl, ?_⟩
  refine List.forall_mem_cons.mpr ⟨ok_getf C (wi_X6) rfl (by decide) kw_155 (show decode cX6_isAlive 1 = .ok (.getfield 24, 3) from dk_at dq24_16 (i := 1) rfl) rfl, ?_⟩
  refine List.forall_mem_cons.mpr ⟨ok_iload_n C (show decode cX6_isAlive 4 = .ok (.iload_n 1, 1) from dk_at dq24_16 (i := 2) rfl) rfl rfl, ?_⟩
  refine List.forall_mem_cons.mpr ⟨ok_iaload C (show decode cX6_isAlive 5 = .ok (.iaload, 1) from dk_at dq24_16 (i := 3) rfl) rfl, ?_⟩
  refine List.forall_mem_cons.mpr ⟨ok_iconst C (show decode cX6_isAlive 6 = .ok (.iconst (-1), 1) from dk_at dq24_16 (i := 4) rfl) (by decide) rfl, ?_⟩
  refine List.forall_mem_cons.mpr ⟨ok_icmpeq C (show decode cX6_isAlive 7 = .ok (.if_icmp .eq 7, 3) from dk_at dq24_16 (i := 5) rfl) (tg := 14) (by decide) rfl rfl, ?_⟩
  refine List.forall_mem_cons.mpr ⟨ok_iconst C (show decode cX6_isAlive 10 = .ok (.iconst 1, 1) from dk_at dq24_16 (i := 6) rfl) (by decide) rfl, ?_⟩
  refine List.forall_mem_cons.mpr ⟨ok_goto C (show decode cX6_isAlive 11 = .ok (.goto 4, 3) from dk_at dq24_16 (i := 7) rfl) (tg := 15) (by decide) rfl, ?_⟩
  refine List.forall_mem_cons.mpr ⟨ok_iconst C (show decode cX6_isAlive 14 = .ok (.iconst 0, 1) from dk_at dq24_16 (i := 8) rfl) (by decide) rfl, ?_⟩
  refine List.forall_mem_cons.mpr ⟨ok_zret C rfl (show decode cX6_isAlive 15 = .ok (.ireturn, 1) from dk_at dq24_16 (i := 9) rfl), ?_⟩
  exact fun _ h => absurd h List.not_mem_nil
def L_X6_menOn : List (Nat × ab_A) := [
  (0, ab_nx 1 (ab_lit (.int 0))),
  (1, ab_nx 2 (ab_istore 3)),
  (2, ab_nx 3 (ab_lit (.int 0))),
  (3, ab_nx 5 (ab_istore 4)),
  (5, ab_nx 7 (ab_iload 4)),
  (7, ab_nx 8 (ab_aload 1)),
  (8, ab_nx 11 (ab_getf 7 9)),
  (11, ab_icmp 14 38 (fun x y => decide (y ≤ x))),
  (14, ab_nx 15 (ab_aload 0)),
  (15, ab_nx 18 (ab_getf 6 4)),
  (18, ab_nx 20 (ab_iload 4)),
  (20, ab_nx 21 (ab_ald 1)),
  (21, ab_nx 22 (ab_iload 2)),
  (22, ab_icmp 25 32 (fun x y => !decide (x = y))),
  (25, ab_nx 26 (ab_iload 3)),
  (26, ab_nx 27 (ab_lit (.int 1))),
  (27, ab_nx 29 (ab_iload 4)),
  (29, ab_nx 30 (ab_bin (fun x y => x <<< (y &&& 31)))),
  (30, ab_nx 31 (ab_bin (fun x y => x ||| y))),
  (31, ab_nx 32 (ab_istore 3)),
  (32, ab_nx 35 (ab_iinc 4 1)),
  (35, ab_goto 5),
  (38, ab_nx 39 (ab_iload 3)),
  (39, ab_ret 0 0)]
set_option maxRecDepth 100000 in
theorem dq24_17 : ([(0, .iconst 0, 1), (1, .istore_n 3, 1), (2, .iconst 0, 1), (3, .istore 4, 2), (5, .iload 4, 2), (7, .aload_n 1, 1), (8, .getfield 63, 3), (11, .if_icmp .ge 27, 3), (14, .aload_n 0, 1), (15, .getfield 24, 3), (18, .iload 4, 2), (20, .iaload, 1), (21, .iload_n 2, 1), (22, .if_icmp .ne 10, 3), (25, .iload_n 3, 1), (26, .iconst 1, 1)] : List (Nat × Instr × Nat)).all (fun q => decide (decode cX6_menOn q.1 = .ok q.2)) = true := by decide +kernel
set_option maxRecDepth 100000 in
theorem dq24_18 : ([(27, .iload 4, 2), (29, .ishl, 1), (30, .ior, 1), (31, .istore_n 3, 1), (32, .iinc 4 1, 3), (35, .goto (-30), 3), (38, .iload_n 3, 1), (39, .ireturn, 1)] : List (Nat × Instr × Nat)).all (fun q => decide (decode cX6_menOn q.1 = .ok q.2)) = true := by decide +kernel
set_option maxRecDepth 100000 in
set_option maxHeartbeats 4000000 in
theorem M_X6_menOn {l : Launch} {b : ab_B} {D : va_G} {cA : Nat → ClassId} : ab_M l b D ab_cl cA (ab_E0 b) yX6_menOn (Cond.code yX6_menOn cX6_menOn 5 (some .int) :: ab_G) ({ frames := 1, cells := 0, slots := 0, locals := 100 } : Room) (ab_X (ab_T L_X6_menOn) 5) := by
  refine ab_meth (ret := (some .int)) L_X6_menOn (by decide) rfl fun p e R s m args below meth c o C => ?_
  unfold L_X6_menOn
  refine List.forall_mem_cons.mpr ⟨ok_iconst C (show decode cX6_menOn 0 = .ok (.iconst 0, 1) from dk_at dq24_17 (i := 0) rfl) (by decide) rfl, ?_⟩
  refine List.forall_mem_cons.mpr ⟨ok_istore_n C (show decode cX6_menOn 1 = .ok (.istore_n 3, 1) from dk_at dq24_17 (i := 1) rfl) rfl (by decide) rfl, ?_⟩
  refine List.forall_mem_cons.mpr ⟨ok_iconst C (show decode cX6_menOn 2 = .ok (.iconst 0, 1) from dk_at dq24_17 (i := 2) rfl) (by decide) rfl, ?_⟩
  refine List.forall_mem_cons.mpr ⟨ok_istore C (show decode cX6_menOn 3 = .ok (.istore 4, 2) from dk_at dq24_17 (i := 3) rfl) (by decide) rfl, ?_⟩
  refine List.forall_mem_cons.mpr ⟨ok_iload C (show decode cX6_menOn 5 = .ok (.iload 4, 2) from dk_at dq24_17 (i := 4) rfl) rfl, ?_⟩
  refine List.forall_mem_cons.mpr ⟨ok_aload_n C (show decode cX6_menOn 7 = .ok (.aload_n 1, 1) from dk_at dq24_17 (i := 5) rfl) rfl rfl, ?_⟩
  refine List.forall_mem_cons.mpr ⟨ok_getf C (wi_X7) rfl (by decide) kw_255 (show decode cX6_menOn 8 = .ok (.getfield 63, 3) from dk_at dq24_17 (i := 6) rfl) rfl, ?_⟩
  refine List.forall_mem_cons.mpr ⟨ok_icmpge C (show decode cX6_menOn 11 = .ok (.if_icmp .ge 27, 3) from dk_at dq24_17 (i := 7) rfl) (tg := 38) (by decide) rfl rfl, ?_⟩
  refine List.forall_mem_cons.mpr ⟨ok_aload_n C (show decode cX6_menOn 14 = .ok (.aload_n 0, 1) from dk_at dq24_17 (i := 8) rfl) rfl rfl, ?_⟩
  refine List.forall_mem_cons.mpr ⟨ok_getf C (wi_X6) rfl (by decide) kw_155 (show decode cX6_menOn 15 = .ok (.getfield 24, 3) from dk_at dq24_17 (i := 9) rfl) rfl, ?_⟩
  refine List.forall_mem_cons.mpr ⟨ok_iload C (show decode cX6_menOn 18 = .ok (.iload 4, 2) from dk_at dq24_17 (i := 10) rfl) rfl, ?_⟩
  refine List.forall_mem_cons.mpr ⟨ok_iaload C (show decode cX6_menOn 20 = .ok (.iaload, 1) from dk_at dq24_17 (i := 11) rfl) rfl, ?_⟩
  refine List.forall_mem_cons.mpr ⟨ok_iload_n C (show decode cX6_menOn 21 = .ok (.iload_n 2, 1) from dk_at dq24_17 (i := 12) rfl) rfl rfl, ?_⟩
  refine List.forall_mem_cons.mpr ⟨ok_icmpne C (show decode cX6_menOn 22 = .ok (.if_icmp .ne 10, 3) from dk_at dq24_17 (i := 13) rfl) (tg := 32) (by decide) rfl rfl, ?_⟩
  refine List.forall_mem_cons.mpr ⟨ok_iload_n C (show decode cX6_menOn 25 = .ok (.iload_n 3, 1) from dk_at dq24_17 (i := 14) rfl) rfl rfl, ?_⟩
  refine List.forall_mem_cons.mpr ⟨ok_iconst C (show decode cX6_menOn 26 = .ok (.iconst 1, 1) from dk_at dq24_17 (i := 15) rfl) (by decide) rfl, ?_⟩
  refine List.forall_mem_cons.mpr ⟨ok_iload C (show decode cX6_menOn 27 = .ok (.iload 4, 2) from dk_at dq24_18 (i := 0) rfl) rfl, ?_⟩
  refine List.forall_mem_cons.mpr ⟨ok_ishl C (show decode cX6_menOn 29 = .ok (.ishl, 1) from dk_at dq24_18 (i := 1) rfl) rfl, ?_⟩
  refine List.forall_mem_cons.mpr ⟨ok_ior C (show decode cX6_menOn 30 = .ok (.ior, 1) from dk_at dq24_18 (i := 2) rfl) rfl, ?_⟩
  refine List.forall_mem_cons.mpr ⟨ok_istore_n C (show decode cX6_menOn 31 = .ok (.istore_n 3, 1) from dk_at dq24_18 (i := 3) rfl) rfl (by decide) rfl, ?_⟩
  refine List.forall_mem_cons.mpr ⟨ok_iinc C (show decode cX6_menOn 32 = .ok (.iinc 4 1, 3) from dk_at dq24_18 (i := 4) rfl) (by decide) (by decide) rfl, ?_⟩
  refine List.forall_mem_cons.mpr ⟨ok_goto C (show decode cX6_menOn 35 = .ok (.goto (-30), 3) from dk_at dq24_18 (i := 5) rfl) (tg := 5) (by decide) rfl, ?_⟩
  refine List.forall_mem_cons.mpr ⟨ok_iload_n C (show decode cX6_menOn 38 = .ok (.iload_n 3, 1) from dk_at dq24_18 (i := 6) rfl) rfl rfl, ?_⟩
  refine List.forall_mem_cons.mpr ⟨ok_ret C rfl (show decode cX6_menOn 39 = .ok (.ireturn, 1) from dk_at dq24_18 (i := 7) rfl), ?_⟩
  exact fun _ h => absurd h List.not_mem_nil
def L_X6_missersOf (f_X6_isFelt : List Value → ab_H → Option ab_O) : List (Nat × ab_A) := [
  (0, ab_nx 1 (ab_lit (.int 0))),
  (1, ab_nx 2 (ab_istore 3)),
  (2, ab_nx 3 (ab_lit (.int 0))),
  (3, ab_nx 5 (ab_istore 4)),
  (5, ab_nx 7 (ab_iload 4)),
  (7, ab_nx 8 (ab_aload 1)),
  (8, ab_nx 11 (ab_getf 7 10)),
  (11, ab_icmp 14 53 (fun x y => decide (y ≤ x))),
  (14, ab_nx 15 (ab_aload 1)),
  (15, ab_nx 18 (ab_getf 7 5)),
  (18, ab_nx 20 (ab_iload 4)),
  (20, ab_nx 21 (ab_ald 1)),
  (21, ab_nx 22 (ab_iload 2)),
  (22, ab_icmp 25 47 (fun x y => !decide (x = y))),
  (25, ab_nx 26 (ab_aload 0)),
  (26, ab_nx 27 (ab_aload 1)),
  (27, ab_nx 29 (ab_iload 4)),
  (29, ab_nx 32 (ab_callV 3 6 f_X6_isFelt 0 0 0 0)),
  (32, ab_if 35 47 (fun x => decide (x = 0))),
  (35, ab_nx 36 (ab_iload 3)),
  (36, ab_nx 37 (ab_lit (.int 1))),
  (37, ab_nx 38 (ab_aload 1)),
  (38, ab_nx 41 (ab_getf 7 4)),
  (41, ab_nx 43 (ab_iload 4)),
  (43, ab_nx 44 (ab_ald 1)),
  (44, ab_nx 45 (ab_bin (fun x y => x <<< (y &&& 31)))),
  (45, ab_nx 46 (ab_bin (fun x y => x ||| y))),
  (46, ab_nx 47 (ab_istore 3)),
  (47, ab_nx 50 (ab_iinc 4 1)),
  (50, ab_goto 5),
  (53, ab_nx 54 (ab_iload 3)),
  (54, ab_ret 0 0)]
set_option maxRecDepth 100000 in
theorem dq24_19 : ([(0, .iconst 0, 1), (1, .istore_n 3, 1), (2, .iconst 0, 1), (3, .istore 4, 2), (5, .iload 4, 2), (7, .aload_n 1, 1), (8, .getfield 78, 3), (11, .if_icmp .ge 42, 3), (14, .aload_n 1, 1), (15, .getfield 69, 3), (18, .iload 4, 2), (20, .iaload, 1), (21, .iload_n 2, 1), (22, .if_icmp .ne 25, 3), (25, .aload_n 0, 1), (26, .aload_n 1, 1)] : List (Nat × Instr × Nat)).all (fun q => decide (decode cX6_missersOf q.1 = .ok q.2)) = true := by decide +kernel
set_option maxRecDepth 100000 in
theorem dq24_20 : ([(27, .iload 4, 2), (29, .invokevirtual 81, 3), (32, .ifCond .eq 15, 3), (35, .iload_n 3, 1), (36, .iconst 1, 1), (37, .aload_n 1, 1), (38, .getfield 66, 3), (41, .iload 4, 2), (43, .iaload, 1), (44, .ishl, 1), (45, .ior, 1), (46, .istore_n 3, 1), (47, .iinc 4 1, 3), (50, .goto (-45), 3), (53, .iload_n 3, 1), (54, .ireturn, 1)] : List (Nat × Instr × Nat)).all (fun q => decide (decode cX6_missersOf q.1 = .ok q.2)) = true := by decide +kernel
set_option maxRecDepth 100000 in
set_option maxHeartbeats 4000000 in
theorem M_X6_missersOf {l : Launch} {b : ab_B} {D : va_G} {cA : Nat → ClassId} {f_X6_isFelt : List Value → ab_H → Option ab_O} (h_X6_isFelt : ab_M l b D ab_cl cA (ab_E0 b) yX6_isFelt (Cond.code yX6_isFelt cX6_isFelt 6 (some .boolean) :: ab_G) ({ frames := 2, cells := 0, slots := 0, locals := 200 } : Room) f_X6_isFelt) : ab_M l b D ab_cl cA (ab_E0 b) yX6_missersOf (Cond.code yX6_missersOf cX6_missersOf 5 (some .int) :: ab_G) ({ frames := 3, cells := 0, slots := 0, locals := 300 } : Room) (ab_X (ab_T (L_X6_missersOf f_X6_isFelt)) 5) := by
  refine ab_meth (ret := (some .int)) (L_X6_missersOf f_X6_isFelt) (by decide) rfl fun p e R s m args below meth c o C => ?_
  unfold L_X6_missersOf
  refine List.forall_mem_cons.mpr ⟨ok_iconst C (show decode cX6_missersOf 0 = .ok (.iconst 0, 1) from dk_at dq24_19 (i := 0) rfl) (by decide) rfl, ?_⟩
  refine List.forall_mem_cons.mpr ⟨ok_istore_n C (show decode cX6_missersOf 1 = .ok (.istore_n 3, 1) from dk_at dq24_19 (i := 1) rfl) rfl (by decide) rfl, ?_⟩
  refine List.forall_mem_cons.mpr ⟨ok_iconst C (show decode cX6_missersOf 2 = .ok (.iconst 0, 1) from dk_at dq24_19 (i := 2) rfl) (by decide) rfl, ?_⟩
  refine List.forall_mem_cons.mpr ⟨ok_istore C (show decode cX6_missersOf 3 = .ok (.istore 4, 2) from dk_at dq24_19 (i := 3) rfl) (by decide) rfl, ?_⟩
  refine List.forall_mem_cons.mpr ⟨ok_iload C (show decode cX6_missersOf 5 = .ok (.iload 4, 2) from dk_at dq24_19 (i := 4) rfl) rfl, ?_⟩
  refine List.forall_mem_cons.mpr ⟨ok_aload_n C (show decode cX6_missersOf 7 = .ok (.aload_n 1, 1) from dk_at dq24_19 (i := 5) rfl) rfl rfl, ?_⟩
  refine List.forall_mem_cons.mpr ⟨ok_getf C (wi_X7) rfl (by decide) kw_257 (show decode cX6_missersOf 8 = .ok (.getfield 78, 3) from dk_at dq24_19 (i := 6) rfl) rfl, ?_⟩
  refine List.forall_mem_cons.mpr ⟨ok_icmpge C (show decode cX6_missersOf 11 = .ok (.if_icmp .ge 42, 3) from dk_at dq24_19 (i := 7) rfl) (tg := 53) (by decide) rfl rfl, ?_⟩
  refine List.forall_mem_cons.mpr ⟨ok_aload_n C (show decode cX6_missersOf 14 = .ok (.aload_n 1, 1) from dk_at dq24_19 (i := 8) rfl) rfl rfl, ?_⟩
  refine List.forall_mem_cons.mpr ⟨ok_getf C (wi_X7) rfl (by decide) kw_242 (show decode cX6_missersOf 15 = .ok (.getfield 69, 3) from dk_at dq24_19 (i := 9) rfl) rfl, ?_⟩
  refine List.forall_mem_cons.mpr ⟨ok_iload C (show decode cX6_missersOf 18 = .ok (.iload 4, 2) from dk_at dq24_19 (i := 10) rfl) rfl, ?_⟩
  refine List.forall_mem_cons.mpr ⟨ok_iaload C (show decode cX6_missersOf 20 = .ok (.iaload, 1) from dk_at dq24_19 (i := 11) rfl) rfl, ?_⟩
  refine List.forall_mem_cons.mpr ⟨ok_iload_n C (show decode cX6_missersOf 21 = .ok (.iload_n 2, 1) from dk_at dq24_19 (i := 12) rfl) rfl rfl, ?_⟩
  refine List.forall_mem_cons.mpr ⟨ok_icmpne C (show decode cX6_missersOf 22 = .ok (.if_icmp .ne 25, 3) from dk_at dq24_19 (i := 13) rfl) (tg := 47) (by decide) rfl rfl, ?_⟩
  refine List.forall_mem_cons.mpr ⟨ok_aload_n C (show decode cX6_missersOf 25 = .ok (.aload_n 0, 1) from dk_at dq24_19 (i := 14) rfl) rfl rfl, ?_⟩
  refine List.forall_mem_cons.mpr ⟨ok_aload_n C (show decode cX6_missersOf 26 = .ok (.aload_n 1, 1) from dk_at dq24_19 (i := 15) rfl) rfl rfl, ?_⟩
  refine List.forall_mem_cons.mpr ⟨ok_iload C (show decode cX6_missersOf 27 = .ok (.iload 4, 2) from dk_at dq24_20 (i := 0) rfl) rfl, ?_⟩
  refine List.forall_mem_cons.mpr ⟨ok_callV C h_X6_isFelt ⟨rfl, rfl⟩ rfl kw_672 kw_669 kw_671 kp_19 kw_6 rfl ds_X6_isFelt ⟨by decide, by decide⟩ (show decode cX6_missersOf 29 = .ok (.invokevirtual 81, 3) from dk_at dq24_20 (i := 1) rfl) rfl, ?_⟩
  refine List.forall_mem_cons.mpr ⟨ok_ifeq C (show decode cX6_missersOf 32 = .ok (.ifCond .eq 15, 3) from dk_at dq24_20 (i := 2) rfl) (tg := 47) (by decide) rfl rfl, ?_⟩
  refine List.forall_mem_cons.mpr ⟨ok_iload_n C (show decode cX6_missersOf 35 = .ok (.iload_n 3, 1) from dk_at dq24_20 (i := 3) rfl) rfl rfl, ?_⟩
  refine List.forall_mem_cons.mpr ⟨ok_iconst C (show decode cX6_missersOf 36 = .ok (.iconst 1, 1) from dk_at dq24_20 (i := 4) rfl) (by decide) rfl, ?_⟩
  refine List.forall_mem_cons.mpr ⟨ok_aload_n C (show decode cX6_missersOf 37 = .ok (.aload_n 1, 1) from dk_at dq24_20 (i := 5) rfl) rfl rfl, ?_⟩
  refine List.forall_mem_cons.mpr ⟨ok_getf C (wi_X7) rfl (by decide) kw_240 (show decode cX6_missersOf 38 = .ok (.getfield 66, 3) from dk_at dq24_20 (i := 6) rfl) rfl, ?_⟩
  refine List.forall_mem_cons.mpr ⟨ok_iload C (show decode cX6_missersOf 41 = .ok (.iload 4, 2) from dk_at dq24_20 (i := 7) rfl) rfl, ?_⟩
  refine List.forall_mem_cons.mpr ⟨ok_iaload C (show decode cX6_missersOf 43 = .ok (.iaload, 1) from dk_at dq24_20 (i := 8) rfl) rfl, ?_⟩
  refine List.forall_mem_cons.mpr ⟨ok_ishl C (show decode cX6_missersOf 44 = .ok (.ishl, 1) from dk_at dq24_20 (i := 9) rfl) rfl, ?_⟩
  refine List.forall_mem_cons.mpr ⟨ok_ior C (show decode cX6_missersOf 45 = .ok (.ior, 1) from dk_at dq24_20 (i := 10) rfl) rfl, ?_⟩
  refine List.forall_mem_cons.mpr ⟨ok_istore_n C (show decode cX6_missersOf 46 = .ok (.istore_n 3, 1) from dk_at dq24_20 (i := 11) rfl) rfl (by decide) rfl, ?_⟩
  refine List.forall_mem_cons.mpr ⟨ok_iinc C (show decode cX6_missersOf 47 = .ok (.iinc 4 1, 3) from dk_at dq24_20 (i := 12) rfl) (by decide) (by decide) rfl, ?_⟩
  refine List.forall_mem_cons.mpr ⟨ok_goto C (show decode cX6_missersOf 50 = .ok (.goto (-45), 3) from dk_at dq24_20 (i := 13) rfl) (tg := 5) (by decide) rfl, ?_⟩
  refine List.forall_mem_cons.mpr ⟨ok_iload_n C (show decode cX6_missersOf 53 = .ok (.iload_n 3, 1) from dk_at dq24_20 (i := 14) rfl) rfl rfl, ?_⟩
  refine List.forall_mem_cons.mpr ⟨ok_ret C rfl (show decode cX6_missersOf 54 = .ok (.ireturn, 1) from dk_at dq24_20 (i := 15) rfl), ?_⟩
  exact fun _ h => absurd h List.not_mem_nil
def L_X6_missedBy (f_X6_isFelt : List Value → ab_H → Option ab_O) : List (Nat × ab_A) := [
  (0, ab_nx 1 (ab_lit (.int 0))),
  (1, ab_nx 2 (ab_istore 3)),
  (2, ab_nx 3 (ab_lit (.int 0))),
  (3, ab_nx 5 (ab_istore 4)),
  (5, ab_nx 7 (ab_iload 4)),
  (7, ab_nx 8 (ab_aload 1)),
  (8, ab_nx 11 (ab_getf 7 10)),
  (11, ab_icmp 14 53 (fun x y => decide (y ≤ x))),
  (14, ab_nx 15 (ab_aload 1)),
  (15, ab_nx 18 (ab_getf 7 4)),
  (18, ab_nx 20 (ab_iload 4)),
  (20, ab_nx 21 (ab_ald 1)),
  (21, ab_nx 22 (ab_iload 2)),
  (22, ab_icmp 25 47 (fun x y => !decide (x = y))),
  (25, ab_nx 26 (ab_aload 0)),
  (26, ab_nx 27 (ab_aload 1)),
  (27, ab_nx 29 (ab_iload 4)),
  (29, ab_nx 32 (ab_callV 3 6 f_X6_isFelt 0 0 0 0)),
  (32, ab_if 35 47 (fun x => decide (x = 0))),
  (35, ab_nx 36 (ab_iload 3)),
  (36, ab_nx 37 (ab_lit (.int 1))),
  (37, ab_nx 38 (ab_aload 1)),
  (38, ab_nx 41 (ab_getf 7 5)),
  (41, ab_nx 43 (ab_iload 4)),
  (43, ab_nx 44 (ab_ald 1)),
  (44, ab_nx 45 (ab_bin (fun x y => x <<< (y &&& 31)))),
  (45, ab_nx 46 (ab_bin (fun x y => x ||| y))),
  (46, ab_nx 47 (ab_istore 3)),
  (47, ab_nx 50 (ab_iinc 4 1)),
  (50, ab_goto 5),
  (53, ab_nx 54 (ab_iload 3)),
  (54, ab_ret 0 0)]
set_option maxRecDepth 100000 in
theorem dq24_21 : ([(0, .iconst 0, 1), (1, .istore_n 3, 1), (2, .iconst 0, 1), (3, .istore 4, 2), (5, .iload 4, 2), (7, .aload_n 1, 1), (8, .getfield 78, 3), (11, .if_icmp .ge 42, 3), (14, .aload_n 1, 1), (15, .getfield 66, 3), (18, .iload 4, 2), (20, .iaload, 1), (21, .iload_n 2, 1), (22, .if_icmp .ne 25, 3), (25, .aload_n 0, 1), (26, .aload_n 1, 1)] : List (Nat × Instr × Nat)).all (fun q => decide (decode cX6_missedBy q.1 = .ok q.2)) = true := by decide +kernel
set_option maxRecDepth 100000 in
theorem dq24_22 : ([(27, .iload 4, 2), (29, .invokevirtual 81, 3), (32, .ifCond .eq 15, 3), (35, .iload_n 3, 1), (36, .iconst 1, 1), (37, .aload_n 1, 1), (38, .getfield 69, 3), (41, .iload 4, 2), (43, .iaload, 1), (44, .ishl, 1), (45, .ior, 1), (46, .istore_n 3, 1), (47, .iinc 4 1, 3), (50, .goto (-45), 3), (53, .iload_n 3, 1), (54, .ireturn, 1)] : List (Nat × Instr × Nat)).all (fun q => decide (decode cX6_missedBy q.1 = .ok q.2)) = true := by decide +kernel
set_option maxRecDepth 100000 in
set_option maxHeartbeats 4000000 in
theorem M_X6_missedBy {l : Launch} {b : ab_B} {D : va_G} {cA : Nat → ClassId} {f_X6_isFelt : List Value → ab_H → Option ab_O} (h_X6_isFelt : ab_M l b D ab_cl cA (ab_E0 b) yX6_isFelt (Cond.code yX6_isFelt cX6_isFelt 6 (some .boolean) :: ab_G) ({ frames := 2, cells := 0, slots := 0, locals := 200 } : Room) f_X6_isFelt) : ab_M l b D ab_cl cA (ab_E0 b) yX6_missedBy (Cond.code yX6_missedBy cX6_missedBy 5 (some .int) :: ab_G) ({ frames := 3, cells := 0, slots := 0, locals := 300 } : Room) (ab_X (ab_T (L_X6_missedBy f_X6_isFelt)) 5) := by
  refine ab_meth (ret := (some .int)) (L_X6_missedBy f_X6_isFelt) (by decide) rfl fun p e R s m args below meth c o C => ?_
  unfold L_X6_missedBy
  refine List.forall_mem_cons.mpr ⟨ok_iconst C (show decode cX6_missedBy 0 = .ok (.iconst 0, 1) from dk_at dq24_21 (i := 0) rfl) (by decide) rfl, ?_⟩
  refine List.forall_mem_cons.mpr ⟨ok_istore_n C (show decode cX6_missedBy 1 = .ok (.istore_n 3, 1) from dk_at dq24_21 (i := 1) rfl) rfl (by decide) rfl, ?_⟩
  refine List.forall_mem_cons.mpr ⟨ok_iconst C (show decode cX6_missedBy 2 = .ok (.iconst 0, 1) from dk_at dq24_21 (i := 2) rfl) (by decide) rfl, ?_⟩
  refine List.forall_mem_cons.mpr ⟨ok_istore C (show decode cX6_missedBy 3 = .ok (.istore 4, 2) from dk_at dq24_21 (i := 3) rfl) (by decide) rfl, ?_⟩
  refine List.forall_mem_cons.mpr ⟨ok_iload C (show decode cX6_missedBy 5 = .ok (.iload 4, 2) from dk_at dq24_21 (i := 4) rfl) rfl, ?_⟩
  refine List.forall_mem_cons.mpr ⟨ok_aload_n C (show decode cX6_missedBy 7 = .ok (.aload_n 1, 1) from dk_at dq24_21 (i := 5) rfl) rfl rfl, ?_⟩
  refine List.forall_mem_cons.mpr ⟨ok_getf C (wi_X7) rfl (by decide) kw_257 (show decode cX6_missedBy 8 = .ok (.getfield 78, 3) from dk_at dq24_21 (i := 6) rfl) rfl, ?_⟩
  refine List.forall_mem_cons.mpr ⟨ok_icmpge C (show decode cX6_missedBy 11 = .ok (.if_icmp .ge 42, 3) from dk_at dq24_21 (i := 7) rfl) (tg := 53) (by decide) rfl rfl, ?_⟩
  refine List.forall_mem_cons.mpr ⟨ok_aload_n C (show decode cX6_missedBy 14 = .ok (.aload_n 1, 1) from dk_at dq24_21 (i := 8) rfl) rfl rfl, ?_⟩
  refine List.forall_mem_cons.mpr ⟨ok_getf C (wi_X7) rfl (by decide) kw_240 (show decode cX6_missedBy 15 = .ok (.getfield 66, 3) from dk_at dq24_21 (i := 9) rfl) rfl, ?_⟩
  refine List.forall_mem_cons.mpr ⟨ok_iload C (show decode cX6_missedBy 18 = .ok (.iload 4, 2) from dk_at dq24_21 (i := 10) rfl) rfl, ?_⟩
  refine List.forall_mem_cons.mpr ⟨ok_iaload C (show decode cX6_missedBy 20 = .ok (.iaload, 1) from dk_at dq24_21 (i := 11) rfl) rfl, ?_⟩
  refine List.forall_mem_cons.mpr ⟨ok_iload_n C (show decode cX6_missedBy 21 = .ok (.iload_n 2, 1) from dk_at dq24_21 (i := 12) rfl) rfl rfl, ?_⟩
  refine List.forall_mem_cons.mpr ⟨ok_icmpne C (show decode cX6_missedBy 22 = .ok (.if_icmp .ne 25, 3) from dk_at dq24_21 (i := 13) rfl) (tg := 47) (by decide) rfl rfl, ?_⟩
  refine List.forall_mem_cons.mpr ⟨ok_aload_n C (show decode cX6_missedBy 25 = .ok (.aload_n 0, 1) from dk_at dq24_21 (i := 14) rfl) rfl rfl, ?_⟩
  refine List.forall_mem_cons.mpr ⟨ok_aload_n C (show decode cX6_missedBy 26 = .ok (.aload_n 1, 1) from dk_at dq24_21 (i := 15) rfl) rfl rfl, ?_⟩
  refine List.forall_mem_cons.mpr ⟨ok_iload C (show decode cX6_missedBy 27 = .ok (.iload 4, 2) from dk_at dq24_22 (i := 0) rfl) rfl, ?_⟩
  refine List.forall_mem_cons.mpr ⟨ok_callV C h_X6_isFelt ⟨rfl, rfl⟩ rfl kw_672 kw_669 kw_671 kp_19 kw_6 rfl ds_X6_isFelt ⟨by decide, by decide⟩ (show decode cX6_missedBy 29 = .ok (.invokevirtual 81, 3) from dk_at dq24_22 (i := 1) rfl) rfl, ?_⟩
  refine List.forall_mem_cons.mpr ⟨ok_ifeq C (show decode cX6_missedBy 32 = .ok (.ifCond .eq 15, 3) from dk_at dq24_22 (i := 2) rfl) (tg := 47) (by decide) rfl rfl, ?_⟩
  refine List.forall_mem_cons.mpr ⟨ok_iload_n C (show decode cX6_missedBy 35 = .ok (.iload_n 3, 1) from dk_at dq24_22 (i := 3) rfl) rfl rfl, ?_⟩
  refine List.forall_mem_cons.mpr ⟨ok_iconst C (show decode cX6_missedBy 36 = .ok (.iconst 1, 1) from dk_at dq24_22 (i := 4) rfl) (by decide) rfl, ?_⟩
  refine List.forall_mem_cons.mpr ⟨ok_aload_n C (show decode cX6_missedBy 37 = .ok (.aload_n 1, 1) from dk_at dq24_22 (i := 5) rfl) rfl rfl, ?_⟩
  refine List.forall_mem_cons.mpr ⟨ok_getf C (wi_X7) rfl (by decide) kw_242 (show decode cX6_missedBy 38 = .ok (.getfield 69, 3) from dk_at dq24_22 (i := 6) rfl) rfl, ?_⟩
  refine List.forall_mem_cons.mpr ⟨ok_iload C (show decode cX6_missedBy 41 = .ok (.iload 4, 2) from dk_at dq24_22 (i := 7) rfl) rfl, ?_⟩
  refine List.forall_mem_cons.mpr ⟨ok_iaload C (show decode cX6_missedBy 43 = .ok (.iaload, 1) from dk_at dq24_22 (i := 8) rfl) rfl, ?_⟩
  refine List.forall_mem_cons.mpr ⟨ok_ishl C (show decode cX6_missedBy 44 = .ok (.ishl, 1) from dk_at dq24_22 (i := 9) rfl) rfl, ?_⟩
  refine List.forall_mem_cons.mpr ⟨ok_ior C (show decode cX6_missedBy 45 = .ok (.ior, 1) from dk_at dq24_22 (i := 10) rfl) rfl, ?_⟩
  refine List.forall_mem_cons.mpr ⟨ok_istore_n C (show decode cX6_missedBy 46 = .ok (.istore_n 3, 1) from dk_at dq24_22 (i := 11) rfl) rfl (by decide) rfl, ?_⟩
  refine List.forall_mem_cons.mpr ⟨ok_iinc C (show decode cX6_missedBy 47 = .ok (.iinc 4 1, 3) from dk_at dq24_22 (i := 12) rfl) (by decide) (by decide) rfl, ?_⟩
  refine List.forall_mem_cons.mpr ⟨ok_goto C (show decode cX6_missedBy 50 = .ok (.goto (-45), 3) from dk_at dq24_22 (i := 13) rfl) (tg := 5) (by decide) rfl, ?_⟩
  refine List.forall_mem_cons.mpr ⟨ok_iload_n C (show decode cX6_missedBy 53 = .ok (.iload_n 3, 1) from dk_at dq24_22 (i := 14) rfl) rfl rfl, ?_⟩
  refine List.forall_mem_cons.mpr ⟨ok_ret C rfl (show decode cX6_missedBy 54 = .ok (.ireturn, 1) from dk_at dq24_22 (i := 15) rfl), ?_⟩
  exact fun _ h => absurd h List.not_mem_nil
def L_X6_couldBeMissed (f_X6_isAlive : List Value → ab_H → Option ab_O) : List (Nat × ab_A) := [
  (0, ab_nx 1 (ab_lit (.int 0))),
  (1, ab_nx 2 (ab_istore 3)),
  (2, ab_nx 3 (ab_iload 3)),
  (3, ab_nx 4 (ab_aload 1)),
  (4, ab_nx 7 (ab_getf 7 10)),
  (7, ab_icmp 10 41 (fun x y => decide (y ≤ x))),
  (10, ab_nx 11 (ab_aload 1)),
  (11, ab_nx 14 (ab_getf 7 5)),
  (14, ab_nx 15 (ab_iload 3)),
  (15, ab_nx 16 (ab_ald 1)),
  (16, ab_nx 17 (ab_iload 2)),
  (17, ab_icmp 20 35 (fun x y => !decide (x = y))),
  (20, ab_nx 21 (ab_aload 0)),
  (21, ab_nx 22 (ab_aload 1)),
  (22, ab_nx 25 (ab_getf 7 4)),
  (25, ab_nx 26 (ab_iload 3)),
  (26, ab_nx 27 (ab_ald 1)),
  (27, ab_nx 30 (ab_callV 2 6 f_X6_isAlive 0 0 0 0)),
  (30, ab_if 33 35 (fun x => decide (x = 0))),
  (33, ab_nx 34 (ab_lit (.int 1))),
  (34, ab_zret 0 0),
  (35, ab_nx 38 (ab_iinc 3 1)),
  (38, ab_goto 2),
  (41, ab_nx 42 (ab_lit (.int 0))),
  (42, ab_zret 0 0)]
set_option maxRecDepth 100000 in
theorem dq24_23 : ([(0, .iconst 0, 1), (1, .istore_n 3, 1), (2, .iload_n 3, 1), (3, .aload_n 1, 1), (4, .getfield 78, 3), (7, .if_icmp .ge 34, 3), (10, .aload_n 1, 1), (11, .getfield 69, 3), (14, .iload_n 3, 1), (15, .iaload, 1), (16, .iload_n 2, 1), (17, .if_icmp .ne 18, 3), (20, .aload_n 0, 1), (21, .aload_n 1, 1), (22, .getfield 66, 3), (25, .iload_n 3, 1)] : List (Nat × Instr × Nat)).all (fun q => decide (decode cX6_couldBeMissed q.1 = .ok q.2)) = true := by decide +kernel
set_option maxRecDepth 100000 in
theorem dq24_24 : ([(26, .iaload, 1), (27, .invokevirtual 85, 3), (30, .ifCond .eq 5, 3), (33, .iconst 1, 1), (34, .ireturn, 1), (35, .iinc 3 1, 3), (38, .goto (-36), 3), (41, .iconst 0, 1), (42, .ireturn, 1)] : List (Nat × Instr × Nat)).all (fun q => decide (decode cX6_couldBeMissed q.1 = .ok q.2)) = true := by decide +kernel
set_option maxRecDepth 100000 in
set_option maxHeartbeats 4000000 in
theorem M_X6_couldBeMissed {l : Launch} {b : ab_B} {D : va_G} {cA : Nat → ClassId} {f_X6_isAlive : List Value → ab_H → Option ab_O} (h_X6_isAlive : ab_M l b D ab_cl cA (ab_E0 b) yX6_isAlive (Cond.code yX6_isAlive cX6_isAlive 2 (some .boolean) :: ab_G) ({ frames := 1, cells := 0, slots := 0, locals := 100 } : Room) f_X6_isAlive) : ab_M l b D ab_cl cA (ab_E0 b) yX6_couldBeMissed (Cond.code yX6_couldBeMissed cX6_couldBeMissed 4 (some .boolean) :: ab_G) ({ frames := 2, cells := 0, slots := 0, locals := 200 } : Room) (ab_X (ab_T (L_X6_couldBeMissed f_X6_isAlive)) 4) := by
  refine ab_meth (ret := (some .boolean)) (L_X6_couldBeMissed f_X6_isAlive) (by decide) rfl fun p e R s m args below meth c o C => ?_
  unfold L_X6_couldBeMissed
  refine List.forall_mem_cons.mpr ⟨ok_iconst C (show decode cX6_couldBeMissed 0 = .ok (.iconst 0, 1) from dk_at dq24_23 (i := 0) rfl) (by decide) rfl, ?_⟩
  refine List.forall_mem_cons.mpr ⟨ok_istore_n C (show decode cX6_couldBeMissed 1 = .ok (.istore_n 3, 1) from dk_at dq24_23 (i := 1) rfl) rfl (by decide) rfl, ?_⟩
  refine List.forall_mem_cons.mpr ⟨ok_iload_n C (show decode cX6_couldBeMissed 2 = .ok (.iload_n 3, 1) from dk_at dq24_23 (i := 2) rfl) rfl rfl, ?_⟩
  refine List.forall_mem_cons.mpr ⟨ok_aload_n C (show decode cX6_couldBeMissed 3 = .ok (.aload_n 1, 1) from dk_at dq24_23 (i := 3) rfl) rfl rfl, ?_⟩
  refine List.forall_mem_cons.mpr ⟨ok_getf C (wi_X7) rfl (by decide) kw_257 (show decode cX6_couldBeMissed 4 = .ok (.getfield 78, 3) from dk_at dq24_23 (i := 4) rfl) rfl, ?_⟩
  refine List.forall_mem_cons.mpr ⟨ok_icmpge C (show decode cX6_couldBeMissed 7 = .ok (.if_icmp .ge 34, 3) from dk_at dq24_23 (i := 5) rfl) (tg := 41) (by decide) rfl rfl, ?_⟩
  refine List.forall_mem_cons.mpr ⟨ok_aload_n C (show decode cX6_couldBeMissed 10 = .ok (.aload_n 1, 1) from dk_at dq24_23 (i := 6) rfl) rfl rfl, ?_⟩
  refine List.forall_mem_cons.mpr ⟨ok_getf C (wi_X7) rfl (by decide) kw_242 (show decode cX6_couldBeMissed 11 = .ok (.getfield 69, 3) from dk_at dq24_23 (i := 7) rfl) rfl, ?_⟩
  refine List.forall_mem_cons.mpr ⟨ok_iload_n C (show decode cX6_couldBeMissed 14 = .ok (.iload_n 3, 1) from dk_at dq24_23 (i := 8) rfl) rfl rfl, ?_⟩
  refine List.forall_mem_cons.mpr ⟨ok_iaload C (show decode cX6_couldBeMissed 15 = .ok (.iaload, 1) from dk_at dq24_23 (i := 9) rfl) rfl, ?_⟩
  refine List.forall_mem_cons.mpr ⟨ok_iload_n C (show decode cX6_couldBeMissed 16 = .ok (.iload_n 2, 1) from dk_at dq24_23 (i := 10) rfl) rfl rfl, ?_⟩
  refine List.forall_mem_cons.mpr ⟨ok_icmpne C (show decode cX6_couldBeMissed 17 = .ok (.if_icmp .ne 18, 3) from dk_at dq24_23 (i := 11) rfl) (tg := 35) (by decide) rfl rfl, ?_⟩
  refine List.forall_mem_cons.mpr ⟨ok_aload_n C (show decode cX6_couldBeMissed 20 = .ok (.aload_n 0, 1) from dk_at dq24_23 (i := 12) rfl) rfl rfl, ?_⟩
  refine List.forall_mem_cons.mpr ⟨ok_aload_n C (show decode cX6_couldBeMissed 21 = .ok (.aload_n 1, 1) from dk_at dq24_23 (i := 13) rfl) rfl rfl, ?_⟩
  refine List.forall_mem_cons.mpr ⟨ok_getf C (wi_X7) rfl (by decide) kw_240 (show decode cX6_couldBeMissed 22 = .ok (.getfield 66, 3) from dk_at dq24_23 (i := 14) rfl) rfl, ?_⟩
  refine List.forall_mem_cons.mpr ⟨ok_iload_n C (show decode cX6_couldBeMissed 25 = .ok (.iload_n 3, 1) from dk_at dq24_23 (i := 15) rfl) rfl rfl, ?_⟩
  refine List.forall_mem_cons.mpr ⟨ok_iaload C (show decode cX6_couldBeMissed 26 = .ok (.iaload, 1) from dk_at dq24_24 (i := 0) rfl) rfl, ?_⟩
  refine List.forall_mem_cons.mpr ⟨ok_callV C h_X6_isAlive ⟨rfl, rfl⟩ rfl kw_632 kw_688 kw_630 kw_631 kw_6 rfl ds_X6_isAlive ⟨by decide, by decide⟩ (show decode cX6_couldBeMissed 27 = .ok (.invokevirtual 85, 3) from dk_at dq24_24 (i := 1) rfl) rfl, ?_⟩
  refine List.forall_mem_cons.mpr ⟨ok_ifeq C (show decode cX6_couldBeMissed 30 = .ok (.ifCond .eq 5, 3) from dk_at dq24_24 (i := 2) rfl) (tg := 35) (by decide) rfl rfl, ?_⟩
  refine List.forall_mem_cons.mpr ⟨ok_iconst C (show decode cX6_couldBeMissed 33 = .ok (.iconst 1, 1) from dk_at dq24_24 (i := 3) rfl) (by decide) rfl, ?_⟩
  refine List.forall_mem_cons.mpr ⟨ok_zret C rfl (show decode cX6_couldBeMissed 34 = .ok (.ireturn, 1) from dk_at dq24_24 (i := 4) rfl), ?_⟩
  refine List.forall_mem_cons.mpr ⟨ok_iinc C (show decode cX6_couldBeMissed 35 = .ok (.iinc 3 1, 3) from dk_at dq24_24 (i := 5) rfl) (by decide) (by decide) rfl, ?_⟩
  refine List.forall_mem_cons.mpr ⟨ok_goto C (show decode cX6_couldBeMissed 38 = .ok (.goto (-36), 3) from dk_at dq24_24 (i := 6) rfl) (tg := 2) (by decide) rfl, ?_⟩
  refine List.forall_mem_cons.mpr ⟨ok_iconst C (show decode cX6_couldBeMissed 41 = .ok (.iconst 0, 1) from dk_at dq24_24 (i := 7) rfl) (by decide) rfl, ?_⟩
  refine List.forall_mem_cons.mpr ⟨ok_zret C rfl (show decode cX6_couldBeMissed 42 = .ok (.ireturn, 1) from dk_at dq24_24 (i := 8) rfl), ?_⟩
  exact fun _ h => absurd h List.not_mem_nil
def L_X6_whyNot (f_X6_isAlive : List Value → ab_H → Option ab_O) : List (Nat × ab_A) := [
  (0, ab_nx 1 (ab_iload 1)),
  (1, ab_tab 0 [28, 44, 78] 94),
  (28, ab_nx 29 (ab_aload 0)),
  (29, ab_nx 32 (ab_getf 6 0)),
  (32, ab_nx 33 (ab_iload 2)),
  (33, ab_nx 34 (ab_ald 1)),
  (34, ab_nx 35 (ab_iload 3)),
  (35, ab_icmp 38 42 (fun x y => decide (y ≤ x))),
  (38, ab_nx 39 (ab_lit (.int 1))),
  (39, ab_goto 43),
  (42, ab_nx 43 (ab_lit (.int 0))),
  (43, ab_ret 0 0),
  (44, ab_nx 45 (ab_aload 0)),
  (45, ab_nx 48 (ab_getf 6 1)),
  (48, ab_nx 49 (ab_iload 2)),
  (49, ab_nx 50 (ab_ald 1)),
  (50, ab_nx 51 (ab_iload 3)),
  (51, ab_icmp 54 58 (fun x y => decide (y ≤ x))),
  (54, ab_nx 55 (ab_lit (.int 1))),
  (55, ab_goto 77),
  (58, ab_nx 59 (ab_aload 0)),
  (59, ab_nx 62 (ab_getf 6 0)),
  (62, ab_nx 63 (ab_iload 2)),
  (63, ab_nx 64 (ab_ald 1)),
  (64, ab_nx 65 (ab_iload 3)),
  (65, ab_nx 66 (ab_bin (fun x y => x + y))),
  (66, ab_nx 69 (ab_lit (.int 999))),
  (69, ab_icmp 72 76 (fun x y => decide (x ≤ y))),
  (72, ab_nx 73 (ab_lit (.int 2))),
  (73, ab_goto 77),
  (76, ab_nx 77 (ab_lit (.int 0))),
  (77, ab_ret 0 0),
  (78, ab_nx 79 (ab_aload 0)),
  (79, ab_nx 82 (ab_getf 6 0)),
  (82, ab_nx 83 (ab_iload 2)),
  (83, ab_nx 84 (ab_ald 1)),
  (84, ab_nx 85 (ab_iload 3)),
  (85, ab_icmp 88 92 (fun x y => decide (y ≤ x))),
  (88, ab_nx 89 (ab_lit (.int 1))),
  (89, ab_goto 93),
  (92, ab_nx 93 (ab_lit (.int 0))),
  (93, ab_ret 0 0),
  (94, ab_nx 95 (ab_aload 0)),
  (95, ab_nx 96 (ab_iload 2)),
  (96, ab_nx 99 (ab_callV 2 6 f_X6_isAlive 0 0 0 0)),
  (99, ab_if 102 106 (fun x => decide (x = 0))),
  (102, ab_nx 103 (ab_lit (.int 0))),
  (103, ab_goto 107),
  (106, ab_nx 107 (ab_lit (.int 1))),
  (107, ab_ret 0 0)]
set_option maxRecDepth 100000 in
theorem dq24_25 : ([(0, .iload_n 1, 1), (1, .tableswitch 93 0 2 #[27, 43, 77], 27), (28, .aload_n 0, 1), (29, .getfield 9, 3), (32, .iload_n 2, 1), (33, .iaload, 1), (34, .iload_n 3, 1), (35, .if_icmp .ge 7, 3), (38, .iconst 1, 1), (39, .goto 4, 3), (42, .iconst 0, 1), (43, .ireturn, 1), (44, .aload_n 0, 1), (45, .getfield 15, 3), (48, .iload_n 2, 1), (49, .iaload, 1)] : List (Nat × Instr × Nat)).all (fun q => decide (decode cX6_whyNot q.1 = .ok q.2)) = true := by decide +kernel
set_option maxRecDepth 100000 in
theorem dq24_26 : ([(50, .iload_n 3, 1), (51, .if_icmp .ge 7, 3), (54, .iconst 1, 1), (55, .goto 22, 3), (58, .aload_n 0, 1), (59, .getfield 9, 3), (62, .iload_n 2, 1), (63, .iaload, 1), (64, .iload_n 3, 1), (65, .iadd, 1), (66, .sipush 999, 3), (69, .if_icmp .le 7, 3), (72, .iconst 2, 1), (73, .goto 4, 3), (76, .iconst 0, 1), (77, .ireturn, 1)] : List (Nat × Instr × Nat)).all (fun q => decide (decode cX6_whyNot q.1 = .ok q.2)) = true := by decide +kernel
set_option maxRecDepth 100000 in
theorem dq24_27 : ([(78, .aload_n 0, 1), (79, .getfield 9, 3), (82, .iload_n 2, 1), (83, .iaload, 1), (84, .iload_n 3, 1), (85, .if_icmp .ge 7, 3), (88, .iconst 1, 1), (89, .goto 4, 3), (92, .iconst 0, 1), (93, .ireturn, 1), (94, .aload_n 0, 1), (95, .iload_n 2, 1), (96, .invokevirtual 85, 3), (99, .ifCond .eq 7, 3), (102, .iconst 0, 1), (103, .goto 4, 3)] : List (Nat × Instr × Nat)).all (fun q => decide (decode cX6_whyNot q.1 = .ok q.2)) = true := by decide +kernel
set_option maxRecDepth 100000 in
theorem dq24_28 : ([(106, .iconst 1, 1), (107, .ireturn, 1)] : List (Nat × Instr × Nat)).all (fun q => decide (decode cX6_whyNot q.1 = .ok q.2)) = true := by decide +kernel
set_option maxRecDepth 100000 in
set_option maxHeartbeats 4000000 in
theorem M_X6_whyNot {l : Launch} {b : ab_B} {D : va_G} {cA : Nat → ClassId} {f_X6_isAlive : List Value → ab_H → Option ab_O} (h_X6_isAlive : ab_M l b D ab_cl cA (ab_E0 b) yX6_isAlive (Cond.code yX6_isAlive cX6_isAlive 2 (some .boolean) :: ab_G) ({ frames := 1, cells := 0, slots := 0, locals := 100 } : Room) f_X6_isAlive) : ab_M l b D ab_cl cA (ab_E0 b) yX6_whyNot (Cond.code yX6_whyNot cX6_whyNot 4 (some .int) :: ab_G) ({ frames := 2, cells := 0, slots := 0, locals := 200 } : Room) (ab_X (ab_T (L_X6_whyNot f_X6_isAlive)) 4) := by
  refine ab_meth (ret := (some .int)) (L_X6_whyNot f_X6_isAlive) (by decide) rfl fun p e R s m args below meth c o C => ?_
  unfold L_X6_whyNot
  refine List.forall_mem_cons.mpr ⟨ok_iload_n C (show decode cX6_whyNot 0 = .ok (.iload_n 1, 1) from dk_at dq24_25 (i := 0) rfl) rfl rfl, ?_⟩
  refine List.forall_mem_cons.mpr ⟨ok_tab C (show decode cX6_whyNot 1 = .ok (.tableswitch 93 0 2 #[27, 43, 77], 27) from dk_at dq24_25 (i := 1) rfl) (by decide) (by decide) (by decide), ?_⟩
  refine List.forall_mem_cons.mpr ⟨ok_aload_n C (show decode cX6_whyNot 28 = .ok (.aload_n 0, 1) from dk_at dq24_25 (i := 2) rfl) rfl rfl, ?_⟩
  refine List.forall_mem_cons.mpr ⟨ok_getf C (wi_X6) rfl (by decide) kw_142 (show decode cX6_whyNot 29 = .ok (.getfield 9, 3) from dk_at dq24_25 (i := 3) rfl) rfl, ?_⟩
  refine List.forall_mem_cons.mpr ⟨ok_iload_n C (show decode cX6_whyNot 32 = .ok (.iload_n 2, 1) from dk_at dq24_25 (i := 4) rfl) rfl rfl, ?_⟩
  refine List.forall_mem_cons.mpr ⟨ok_iaload C (show decode cX6_whyNot 33 = .ok (.iaload, 1) from dk_at dq24_25 (i := 5) rfl) rfl, ?_⟩
  refine List.forall_mem_cons.mpr ⟨ok_iload_n C (show decode cX6_whyNot 34 = .ok (.iload_n 3, 1) from dk_at dq24_25 (i := 6) rfl) rfl rfl, ?_⟩
  refine List.forall_mem_cons.mpr ⟨ok_icmpge C (show decode cX6_whyNot 35 = .ok (.if_icmp .ge 7, 3) from dk_at dq24_25 (i := 7) rfl) (tg := 42) (by decide) rfl rfl, ?_⟩
  refine List.forall_mem_cons.mpr ⟨ok_iconst C (show decode cX6_whyNot 38 = .ok (.iconst 1, 1) from dk_at dq24_25 (i := 8) rfl) (by decide) rfl, ?_⟩
  refine List.forall_mem_cons.mpr ⟨ok_goto C (show decode cX6_whyNot 39 = .ok (.goto 4, 3) from dk_at dq24_25 (i := 9) rfl) (tg := 43) (by decide) rfl, ?_⟩
  refine List.forall_mem_cons.mpr ⟨ok_iconst C (show decode cX6_whyNot 42 = .ok (.iconst 0, 1) from dk_at dq24_25 (i := 10) rfl) (by decide) rfl, ?_⟩
  refine List.forall_mem_cons.mpr ⟨ok_ret C rfl (show decode cX6_whyNot 43 = .ok (.ireturn, 1) from dk_at dq24_25 (i := 11) rfl), ?_⟩
  refine List.forall_mem_cons.mpr ⟨ok_aload_n C (show decode cX6_whyNot 44 = .ok (.aload_n 0, 1) from dk_at dq24_25 (i := 12) rfl) rfl rfl, ?_⟩
  refine List.forall_mem_cons.mpr ⟨ok_getf C (wi_X6) rfl (by decide) kw_146 (show decode cX6_whyNot 45 = .ok (.getfield 15, 3) from dk_at dq24_25 (i := 13) rfl) rfl, ?_⟩
  refine List.forall_mem_cons.mpr ⟨ok_iload_n C (show decode cX6_whyNot 48 = .ok (.iload_n 2, 1) from dk_at dq24_25 (i := 14) rfl) rfl rfl, ?_⟩
  refine List.forall_mem_cons.mpr ⟨ok_iaload C (show decode cX6_whyNot 49 = .ok (.iaload, 1) from dk_at dq24_25 (i := 15) rfl) rfl, ?_⟩
  refine List.forall_mem_cons.mpr ⟨ok_iload_n C (show decode cX6_whyNot 50 = .ok (.iload_n 3, 1) from dk_at dq24_26 (i := 0) rfl) rfl rfl, ?_⟩
  refine List.forall_mem_cons.mpr ⟨ok_icmpge C (show decode cX6_whyNot 51 = .ok (.if_icmp .ge 7, 3) from dk_at dq24_26 (i := 1) rfl) (tg := 58) (by decide) rfl rfl, ?_⟩
  refine List.forall_mem_cons.mpr ⟨ok_iconst C (show decode cX6_whyNot 54 = .ok (.iconst 1, 1) from dk_at dq24_26 (i := 2) rfl) (by decide) rfl, ?_⟩
  refine List.forall_mem_cons.mpr ⟨ok_goto C (show decode cX6_whyNot 55 = .ok (.goto 22, 3) from dk_at dq24_26 (i := 3) rfl) (tg := 77) (by decide) rfl, ?_⟩
  refine List.forall_mem_cons.mpr ⟨ok_aload_n C (show decode cX6_whyNot 58 = .ok (.aload_n 0, 1) from dk_at dq24_26 (i := 4) rfl) rfl rfl, ?_⟩
  refine List.forall_mem_cons.mpr ⟨ok_getf C (wi_X6) rfl (by decide) kw_142 (show decode cX6_whyNot 59 = .ok (.getfield 9, 3) from dk_at dq24_26 (i := 5) rfl) rfl, ?_⟩
  refine List.forall_mem_cons.mpr ⟨ok_iload_n C (show decode cX6_whyNot 62 = .ok (.iload_n 2, 1) from dk_at dq24_26 (i := 6) rfl) rfl rfl, ?_⟩
  refine List.forall_mem_cons.mpr ⟨ok_iaload C (show decode cX6_whyNot 63 = .ok (.iaload, 1) from dk_at dq24_26 (i := 7) rfl) rfl, ?_⟩
  refine List.forall_mem_cons.mpr ⟨ok_iload_n C (show decode cX6_whyNot 64 = .ok (.iload_n 3, 1) from dk_at dq24_26 (i := 8) rfl) rfl rfl, ?_⟩
  refine List.forall_mem_cons.mpr ⟨ok_iadd C (show decode cX6_whyNot 65 = .ok (.iadd, 1) from dk_at dq24_26 (i := 9) rfl) rfl, ?_⟩
  refine List.forall_mem_cons.mpr ⟨ok_sipush C (show decode cX6_whyNot 66 = .ok (.sipush 999, 3) from dk_at dq24_26 (i := 10) rfl) (by decide) rfl, ?_⟩
  refine List.forall_mem_cons.mpr ⟨ok_icmple C (show decode cX6_whyNot 69 = .ok (.if_icmp .le 7, 3) from dk_at dq24_26 (i := 11) rfl) (tg := 76) (by decide) rfl rfl, ?_⟩
  refine List.forall_mem_cons.mpr ⟨ok_iconst C (show decode cX6_whyNot 72 = .ok (.iconst 2, 1) from dk_at dq24_26 (i := 12) rfl) (by decide) rfl, ?_⟩
  refine List.forall_mem_cons.mpr ⟨ok_goto C (show decode cX6_whyNot 73 = .ok (.goto 4, 3) from dk_at dq24_26 (i := 13) rfl) (tg := 77) (by decide) rfl, ?_⟩
  refine List.forall_mem_cons.mpr ⟨ok_iconst C (show decode cX6_whyNot 76 = .ok (.iconst 0, 1) from dk_at dq24_26 (i := 14) rfl) (by decide) rfl, ?_⟩
  refine List.forall_mem_cons.mpr ⟨ok_ret C rfl (show decode cX6_whyNot 77 = .ok (.ireturn, 1) from dk_at dq24_26 (i := 15) rfl), ?_⟩
  refine List.forall_mem_cons.mpr ⟨ok_aload_n C (show decode cX6_whyNot 78 = .ok (.aload_n 0, 1) from dk_at dq24_27 (i := 0) rfl) rfl rfl, ?_⟩
  refine List.forall_mem_cons.mpr ⟨ok_getf C (wi_X6) rfl (by decide) kw_142 (show decode cX6_whyNot 79 = .ok (.getfield 9, 3) from dk_at dq24_27 (i := 1) rfl) rfl, ?_⟩
  refine List.forall_mem_cons.mpr ⟨ok_iload_n C (show decode cX6_whyNot 82 = .ok (.iload_n 2, 1) from dk_at dq24_27 (i := 2) rfl) rfl rfl, ?_⟩
  refine List.forall_mem_cons.mpr ⟨ok_iaload C (show decode cX6_whyNot 83 = .ok (.iaload, 1) from dk_at dq24_27 (i := 3) rfl) rfl, ?_⟩
  refine List.forall_mem_cons.mpr ⟨ok_iload_n C (show decode cX6_whyNot 84 = .ok (.iload_n 3, 1) from dk_at dq24_27 (i := 4) rfl) rfl rfl, ?_⟩
  refine List.forall_mem_cons.mpr ⟨ok_icmpge C (show decode cX6_whyNot 85 = .ok (.if_icmp .ge 7, 3) from dk_at dq24_27 (i := 5) rfl) (tg := 92) (by decide) rfl rfl, ?_⟩
  refine List.forall_mem_cons.mpr ⟨ok_iconst C (show decode cX6_whyNot 88 = .ok (.iconst 1, 1) from dk_at dq24_27 (i := 6) rfl) (by decide) rfl, ?_⟩
  refine List.forall_mem_cons.mpr ⟨ok_goto C (show decode cX6_whyNot 89 = .ok (.goto 4, 3) from dk_at dq24_27 (i := 7) rfl) (tg := 93) (by decide) rfl, ?_⟩
  refine List.forall_mem_cons.mpr ⟨ok_iconst C (show decode cX6_whyNot 92 = .ok (.iconst 0, 1) from dk_at dq24_27 (i := 8) rfl) (by decide) rfl, ?_⟩
  refine List.forall_mem_cons.mpr ⟨ok_ret C rfl (show decode cX6_whyNot 93 = .ok (.ireturn, 1) from dk_at dq24_27 (i := 9) rfl), ?_⟩
  refine List.forall_mem_cons.mpr ⟨ok_aload_n C (show decode cX6_whyNot 94 = .ok (.aload_n 0, 1) from dk_at dq24_27 (i := 10) rfl) rfl rfl, ?_⟩
  refine List.forall_mem_cons.mpr ⟨ok_iload_n C (show decode cX6_whyNot 95 = .ok (.iload_n 2, 1) from dk_at dq24_27 (i := 11) rfl) rfl rfl, ?_⟩
  refine List.forall_mem_cons.mpr ⟨ok_callV C h_X6_isAlive ⟨rfl, rfl⟩ rfl kw_632 kw_688 kw_630 kw_631 kw_6 rfl ds_X6_isAlive ⟨by decide, by decide⟩ (show decode cX6_whyNot 96 = .ok (.invokevirtual 85, 3) from dk_at dq24_27 (i := 12) rfl) rfl, ?_⟩
  refine List.forall_mem_cons.mpr ⟨ok_ifeq C (show decode cX6_whyNot 99 = .ok (.ifCond .eq 7, 3) from dk_at dq24_27 (i := 13) rfl) (tg := 106) (by decide) rfl rfl, ?_⟩
  refine List.forall_mem_cons.mpr ⟨ok_iconst C (show decode cX6_whyNot 102 = .ok (.iconst 0, 1) from dk_at dq24_27 (i := 14) rfl) (by decide) rfl, ?_⟩
  refine List.forall_mem_cons.mpr ⟨ok_goto C (show decode cX6_whyNot 103 = .ok (.goto 4, 3) from dk_at dq24_27 (i := 15) rfl) (tg := 107) (by decide) rfl, ?_⟩
  refine List.forall_mem_cons.mpr ⟨ok_iconst C (show decode cX6_whyNot 106 = .ok (.iconst 1, 1) from dk_at dq24_28 (i := 0) rfl) (by decide) rfl, ?_⟩
  refine List.forall_mem_cons.mpr ⟨ok_ret C rfl (show decode cX6_whyNot 107 = .ok (.ireturn, 1) from dk_at dq24_28 (i := 1) rfl), ?_⟩
  exact fun _ h => absurd h List.not_mem_nil
def L_X6_perform : List (Nat × ab_A) := [
  (0, ab_nx 1 (ab_iload 1)),
  (1, ab_nx 2 (ab_lit (.int 3))),
  (2, ab_icmp 5 13 (fun x y => !decide (x = y))),
  (5, ab_nx 6 (ab_aload 0)),
  (6, ab_nx 9 (ab_getf 6 4)),
  (9, ab_nx 10 (ab_iload 2)),
  (10, ab_nx 11 (ab_lit (.int (-1)))),
  (11, ab_nx 12 (ab_ast 1)),
  (12, ab_vret 0 0),
  (13, ab_nx 14 (ab_aload 0)),
  (14, ab_nx 17 (ab_getf 6 0)),
  (17, ab_nx 18 (ab_iload 2)),
  (18, ab_nx 19 ab_dup2),
  (19, ab_nx 20 (ab_ald 1)),
  (20, ab_nx 21 (ab_iload 1)),
  (21, ab_nx 22 (ab_lit (.int 1))),
  (22, ab_icmp 25 29 (fun x y => !decide (x = y))),
  (25, ab_nx 26 (ab_iload 3)),
  (26, ab_goto 31),
  (29, ab_nx 30 (ab_iload 3)),
  (30, ab_nx 31 (ab_un (fun x => -x))),
  (31, ab_nx 32 (ab_bin (fun x y => x + y))),
  (32, ab_nx 33 (ab_ast 1)),
  (33, ab_nx 34 (ab_iload 1)),
  (34, ab_if 37 50 (fun x => !decide (x = 0))),
  (37, ab_nx 38 (ab_aload 0)),
  (38, ab_nx 41 (ab_getf 6 1)),
  (41, ab_nx 42 (ab_iload 2)),
  (42, ab_nx 43 ab_dup2),
  (43, ab_nx 44 (ab_ald 1)),
  (44, ab_nx 45 (ab_iload 3)),
  (45, ab_nx 46 (ab_bin (fun x y => x + y))),
  (46, ab_nx 47 (ab_ast 1)),
  (47, ab_goto 65),
  (50, ab_nx 51 (ab_iload 1)),
  (51, ab_nx 52 (ab_lit (.int 1))),
  (52, ab_icmp 55 65 (fun x y => !decide (x = y))),
  (55, ab_nx 56 (ab_aload 0)),
  (56, ab_nx 59 (ab_getf 6 1)),
  (59, ab_nx 60 (ab_iload 2)),
  (60, ab_nx 61 ab_dup2),
  (61, ab_nx 62 (ab_ald 1)),
  (62, ab_nx 63 (ab_iload 3)),
  (63, ab_nx 64 (ab_bin (fun x y => x - y))),
  (64, ab_nx 65 (ab_ast 1)),
  (65, ab_vret 0 0)]
set_option maxRecDepth 100000 in
theorem dq24_29 : ([(0, .iload_n 1, 1), (1, .iconst 3, 1), (2, .if_icmp .ne 11, 3), (5, .aload_n 0, 1), (6, .getfield 24, 3), (9, .iload_n 2, 1), (10, .iconst (-1), 1), (11, .iastore, 1), (12, .return_, 1), (13, .aload_n 0, 1), (14, .getfield 9, 3), (17, .iload_n 2, 1), (18, .dup2, 1), (19, .iaload, 1), (20, .iload_n 1, 1), (21, .iconst 1, 1)] : List (Nat × Instr × Nat)).all (fun q => decide (decode cX6_perform q.1 = .ok q.2)) = true := by decide +kernel
set_option maxRecDepth 100000 in
theorem dq24_30 : ([(22, .if_icmp .ne 7, 3), (25, .iload_n 3, 1), (26, .goto 5, 3), (29, .iload_n 3, 1), (30, .ineg, 1), (31, .iadd, 1), (32, .iastore, 1), (33, .iload_n 1, 1), (34, .ifCond .ne 16, 3), (37, .aload_n 0, 1), (38, .getfield 15, 3), (41, .iload_n 2, 1), (42, .dup2, 1), (43, .iaload, 1), (44, .iload_n 3, 1), (45, .iadd, 1)] : List (Nat × Instr × Nat)).all (fun q => decide (decode cX6_perform q.1 = .ok q.2)) = true := by decide +kernel
set_option maxRecDepth 100000 in
theorem dq24_31 : ([(46, .iastore, 1), (47, .goto 18, 3), (50, .iload_n 1, 1), (51, .iconst 1, 1), (52, .if_icmp .ne 13, 3), (55, .aload_n 0, 1), (56, .getfield 15, 3), (59, .iload_n 2, 1), (60, .dup2, 1), (61, .iaload, 1), (62, .iload_n 3, 1), (63, .isub, 1), (64, .iastore, 1), (65, .return_, 1)] : List (Nat × Instr × Nat)).all (fun q => decide (decode cX6_perform q.1 = .ok q.2)) = true := by decide +kernel
set_option maxRecDepth 100000 in
set_option maxHeartbeats 4000000 in
theorem M_X6_perform {l : Launch} {b : ab_B} {D : va_G} {cA : Nat → ClassId} : ab_M l b D ab_cl cA (ab_E0 b) yX6_perform (Cond.code yX6_perform cX6_perform 4 none :: ab_G) ({ frames := 1, cells := 0, slots := 0, locals := 100 } : Room) (ab_X (ab_T L_X6_perform) 4) := by
  refine ab_meth (ret := none) L_X6_perform (by decide) rfl fun p e R s m args below meth c o C => ?_
  unfold L_X6_perform
  refine List.forall_mem_cons.mpr ⟨ok_iload_n C (show decode cX6_perform 0 = .ok (.iload_n 1, 1) from dk_at dq24_29 (i := 0) rfl) rfl rfl, ?_⟩
  refine List.forall_mem_cons.mpr ⟨ok_iconst C (show decode cX6_perform 1 = .ok (.iconst 3, 1) from dk_at dq24_29 (i := 1) rfl) (by decide) rfl, ?_⟩
  refine List.forall_mem_cons.mpr ⟨ok_icmpne C (show decode cX6_perform 2 = .ok (.if_icmp .ne 11, 3) from dk_at dq24_29 (i := 2) rfl) (tg := 13) (by decide) rfl rfl, ?_⟩
  refine List.forall_mem_cons.mpr ⟨ok_aload_n C (show decode cX6_perform 5 = .ok (.aload_n 0, 1) from dk_at dq24_29 (i := 3) rfl) rfl rfl, ?_⟩
  refine List.forall_mem_cons.mpr ⟨ok_getf C (wi_X6) rfl (by decide) kw_155 (show decode cX6_perform 6 = .ok (.getfield 24, 3) from dk_at dq24_29 (i := 4) rfl) rfl, ?_⟩
  refine List.forall_mem_cons.mpr ⟨ok_iload_n C (show decode cX6_perform 9 = .ok (.iload_n 2, 1) from dk_at dq24_29 (i := 5) rfl) rfl rfl, ?_⟩
  refine List.forall_mem_cons.mpr ⟨ok_iconst C (show decode cX6_perform 10 = .ok (.iconst (-1), 1) from dk_at dq24_29 (i := 6) rfl) (by decide) rfl, ?_⟩
  refine List.forall_mem_cons.mpr ⟨ok_iastore C (show decode cX6_perform 11 = .ok (.iastore, 1) from dk_at dq24_29 (i := 7) rfl) rfl, ?_⟩
  refine List.forall_mem_cons.mpr ⟨ok_vret C rfl (show decode cX6_perform 12 = .ok (.return_, 1) from dk_at dq24_29 (i := 8) rfl), ?_⟩
  refine List.forall_mem_cons.mpr ⟨ok_aload_n C (show decode cX6_perform 13 = .ok (.aload_n 0, 1) from dk_at dq24_29 (i := 9) rfl) rfl rfl, ?_⟩
  refine List.forall_mem_cons.mpr ⟨ok_getf C (wi_X6) rfl (by decide) kw_142 (show decode cX6_perform 14 = .ok (.getfield 9, 3) from dk_at dq24_29 (i := 10) rfl) rfl, ?_⟩
  refine List.forall_mem_cons.mpr ⟨ok_iload_n C (show decode cX6_perform 17 = .ok (.iload_n 2, 1) from dk_at dq24_29 (i := 11) rfl) rfl rfl, ?_⟩
  refine List.forall_mem_cons.mpr ⟨ok_dup2 C (show decode cX6_perform 18 = .ok (.dup2, 1) from dk_at dq24_29 (i := 12) rfl) rfl, ?_⟩
  refine List.forall_mem_cons.mpr ⟨ok_iaload C (show decode cX6_perform 19 = .ok (.iaload, 1) from dk_at dq24_29 (i := 13) rfl) rfl, ?_⟩
  refine List.forall_mem_cons.mpr ⟨ok_iload_n C (show decode cX6_perform 20 = .ok (.iload_n 1, 1) from dk_at dq24_29 (i := 14) rfl) rfl rfl, ?_⟩
  refine List.forall_mem_cons.mpr ⟨ok_iconst C (show decode cX6_perform 21 = .ok (.iconst 1, 1) from dk_at dq24_29 (i := 15) rfl) (by decide) rfl, ?_⟩
  refine List.forall_mem_cons.mpr ⟨ok_icmpne C (show decode cX6_perform 22 = .ok (.if_icmp .ne 7, 3) from dk_at dq24_30 (i := 0) rfl) (tg := 29) (by decide) rfl rfl, ?_⟩
  refine List.forall_mem_cons.mpr ⟨ok_iload_n C (show decode cX6_perform 25 = .ok (.iload_n 3, 1) from dk_at dq24_30 (i := 1) rfl) rfl rfl, ?_⟩
  refine List.forall_mem_cons.mpr ⟨ok_goto C (show decode cX6_perform 26 = .ok (.goto 5, 3) from dk_at dq24_30 (i := 2) rfl) (tg := 31) (by decide) rfl, ?_⟩
  refine List.forall_mem_cons.mpr ⟨ok_iload_n C (show decode cX6_perform 29 = .ok (.iload_n 3, 1) from dk_at dq24_30 (i := 3) rfl) rfl rfl, ?_⟩
  refine List.forall_mem_cons.mpr ⟨ok_ineg C (show decode cX6_perform 30 = .ok (.ineg, 1) from dk_at dq24_30 (i := 4) rfl) rfl, ?_⟩
  refine List.forall_mem_cons.mpr ⟨ok_iadd C (show decode cX6_perform 31 = .ok (.iadd, 1) from dk_at dq24_30 (i := 5) rfl) rfl, ?_⟩
  refine List.forall_mem_cons.mpr ⟨ok_iastore C (show decode cX6_perform 32 = .ok (.iastore, 1) from dk_at dq24_30 (i := 6) rfl) rfl, ?_⟩
  refine List.forall_mem_cons.mpr ⟨ok_iload_n C (show decode cX6_perform 33 = .ok (.iload_n 1, 1) from dk_at dq24_30 (i := 7) rfl) rfl rfl, ?_⟩
  refine List.forall_mem_cons.mpr ⟨ok_ifne C (show decode cX6_perform 34 = .ok (.ifCond .ne 16, 3) from dk_at dq24_30 (i := 8) rfl) (tg := 50) (by decide) rfl rfl, ?_⟩
  refine List.forall_mem_cons.mpr ⟨ok_aload_n C (show decode cX6_perform 37 = .ok (.aload_n 0, 1) from dk_at dq24_30 (i := 9) rfl) rfl rfl, ?_⟩
  refine List.forall_mem_cons.mpr ⟨ok_getf C (wi_X6) rfl (by decide) kw_146 (show decode cX6_perform 38 = .ok (.getfield 15, 3) from dk_at dq24_30 (i := 10) rfl) rfl, ?_⟩
  refine List.forall_mem_cons.mpr ⟨ok_iload_n C (show decode cX6_perform 41 = .ok (.iload_n 2, 1) from dk_at dq24_30 (i := 11) rfl) rfl rfl, ?_⟩
  refine List.forall_mem_cons.mpr ⟨ok_dup2 C (show decode cX6_perform 42 = .ok (.dup2, 1) from dk_at dq24_30 (i := 12) rfl) rfl, ?_⟩
  refine List.forall_mem_cons.mpr ⟨ok_iaload C (show decode cX6_perform 43 = .ok (.iaload, 1) from dk_at dq24_30 (i := 13) rfl) rfl, ?_⟩
  refine List.forall_mem_cons.mpr ⟨ok_iload_n C (show decode cX6_perform 44 = .ok (.iload_n 3, 1) from dk_at dq24_30 (i := 14) rfl) rfl rfl, ?_⟩
  refine List.forall_mem_cons.mpr ⟨ok_iadd C (show decode cX6_perform 45 = .ok (.iadd, 1) from dk_at dq24_30 (i := 15) rfl) rfl, ?_⟩
  refine List.forall_mem_cons.mpr ⟨ok_iastore C (show decode cX6_perform 46 = .ok (.iastore, 1) from dk_at dq24_31 (i := 0) rfl) rfl, ?_⟩
  refine List.forall_mem_cons.mpr ⟨ok_goto C (show decode cX6_perform 47 = .ok (.goto 18, 3) from dk_at dq24_31 (i := 1) rfl) (tg := 65) (by decide) rfl, ?_⟩
  refine List.forall_mem_cons.mpr ⟨ok_iload_n C (show decode cX6_perform 50 = .ok (.iload_n 1, 1) from dk_at dq24_31 (i := 2) rfl) rfl rfl, ?_⟩
  refine List.forall_mem_cons.mpr ⟨ok_iconst C (show decode cX6_perform 51 = .ok (.iconst 1, 1) from dk_at dq24_31 (i := 3) rfl) (by decide) rfl, ?_⟩
  refine List.forall_mem_cons.mpr ⟨ok_icmpne C (show decode cX6_perform 52 = .ok (.if_icmp .ne 13, 3) from dk_at dq24_31 (i := 4) rfl) (tg := 65) (by decide) rfl rfl, ?_⟩
  refine List.forall_mem_cons.mpr ⟨ok_aload_n C (show decode cX6_perform 55 = .ok (.aload_n 0, 1) from dk_at dq24_31 (i := 5) rfl) rfl rfl, ?_⟩
  refine List.forall_mem_cons.mpr ⟨ok_getf C (wi_X6) rfl (by decide) kw_146 (show decode cX6_perform 56 = .ok (.getfield 15, 3) from dk_at dq24_31 (i := 6) rfl) rfl, ?_⟩
  refine List.forall_mem_cons.mpr ⟨ok_iload_n C (show decode cX6_perform 59 = .ok (.iload_n 2, 1) from dk_at dq24_31 (i := 7) rfl) rfl rfl, ?_⟩
  refine List.forall_mem_cons.mpr ⟨ok_dup2 C (show decode cX6_perform 60 = .ok (.dup2, 1) from dk_at dq24_31 (i := 8) rfl) rfl, ?_⟩
  refine List.forall_mem_cons.mpr ⟨ok_iaload C (show decode cX6_perform 61 = .ok (.iaload, 1) from dk_at dq24_31 (i := 9) rfl) rfl, ?_⟩
  refine List.forall_mem_cons.mpr ⟨ok_iload_n C (show decode cX6_perform 62 = .ok (.iload_n 3, 1) from dk_at dq24_31 (i := 10) rfl) rfl rfl, ?_⟩
  refine List.forall_mem_cons.mpr ⟨ok_isub C (show decode cX6_perform 63 = .ok (.isub, 1) from dk_at dq24_31 (i := 11) rfl) rfl, ?_⟩
  refine List.forall_mem_cons.mpr ⟨ok_iastore C (show decode cX6_perform 64 = .ok (.iastore, 1) from dk_at dq24_31 (i := 12) rfl) rfl, ?_⟩
  refine List.forall_mem_cons.mpr ⟨ok_vret C rfl (show decode cX6_perform 65 = .ok (.return_, 1) from dk_at dq24_31 (i := 13) rfl), ?_⟩
  exact fun _ h => absurd h List.not_mem_nil
def L_X6_attempt (f_X6_whyNot : List Value → ab_H → Option ab_O) (f_X6_perform : List Value → ab_H → Option ab_O) : List (Nat × ab_A) := [
  (0, ab_nx 1 (ab_aload 0)),
  (1, ab_nx 2 (ab_iload 1)),
  (2, ab_nx 3 (ab_iload 2)),
  (3, ab_nx 4 (ab_iload 3)),
  (4, ab_nx 7 (ab_callV 4 6 f_X6_whyNot 0 0 0 0)),
  (7, ab_nx 9 (ab_istore 4)),
  (9, ab_nx 11 (ab_iload 4)),
  (11, ab_if 14 21 (fun x => !decide (x = 0))),
  (14, ab_nx 15 (ab_aload 0)),
  (15, ab_nx 16 (ab_iload 1)),
  (16, ab_nx 17 (ab_iload 2)),
  (17, ab_nx 18 (ab_iload 3)),
  (18, ab_nx 21 (ab_callV 4 6 f_X6_perform 0 0 0 0)),
  (21, ab_nx 23 (ab_iload 4)),
  (23, ab_ret 0 0)]
set_option maxRecDepth 100000 in
theorem dq24_32 : ([(0, .aload_n 0, 1), (1, .iload_n 1, 1), (2, .iload_n 2, 1), (3, .iload_n 3, 1), (4, .invokevirtual 89, 3), (7, .istore 4, 2), (9, .iload 4, 2), (11, .ifCond .ne 10, 3), (14, .aload_n 0, 1), (15, .iload_n 1, 1), (16, .iload_n 2, 1), (17, .iload_n 3, 1), (18, .invokevirtual 93, 3), (21, .iload 4, 2), (23, .ireturn, 1)] : List (Nat × Instr × Nat)).all (fun q => decide (decode cX6_attempt q.1 = .ok q.2)) = true := by decide +kernel
set_option maxRecDepth 100000 in
set_option maxHeartbeats 4000000 in
theorem M_X6_attempt {l : Launch} {b : ab_B} {D : va_G} {cA : Nat → ClassId} {f_X6_whyNot : List Value → ab_H → Option ab_O} (h_X6_whyNot : ab_M l b D ab_cl cA (ab_E0 b) yX6_whyNot (Cond.code yX6_whyNot cX6_whyNot 4 (some .int) :: ab_G) ({ frames := 2, cells := 0, slots := 0, locals := 200 } : Room) f_X6_whyNot) {f_X6_perform : List Value → ab_H → Option ab_O} (h_X6_perform : ab_M l b D ab_cl cA (ab_E0 b) yX6_perform (Cond.code yX6_perform cX6_perform 4 none :: ab_G) ({ frames := 1, cells := 0, slots := 0, locals := 100 } : Room) f_X6_perform) : ab_M l b D ab_cl cA (ab_E0 b) yX6_attempt (Cond.code yX6_attempt cX6_attempt 5 (some .int) :: ab_G) ({ frames := 3, cells := 0, slots := 0, locals := 300 } : Room) (ab_X (ab_T (L_X6_attempt f_X6_whyNot f_X6_perform)) 5) := by
  refine ab_meth (ret := (some .int)) (L_X6_attempt f_X6_whyNot f_X6_perform) (by decide) rfl fun p e R s m args below meth c o C => ?_
  unfold L_X6_attempt
  refine List.forall_mem_cons.mpr ⟨ok_aload_n C (show decode cX6_attempt 0 = .ok (.aload_n 0, 1) from dk_at dq24_32 (i := 0) rfl) rfl rfl, ?_⟩
  refine List.forall_mem_cons.mpr ⟨ok_iload_n C (show decode cX6_attempt 1 = .ok (.iload_n 1, 1) from dk_at dq24_32 (i := 1) rfl) rfl rfl, ?_⟩
  refine List.forall_mem_cons.mpr ⟨ok_iload_n C (show decode cX6_attempt 2 = .ok (.iload_n 2, 1) from dk_at dq24_32 (i := 2) rfl) rfl rfl, ?_⟩
  refine List.forall_mem_cons.mpr ⟨ok_iload_n C (show decode cX6_attempt 3 = .ok (.iload_n 3, 1) from dk_at dq24_32 (i := 3) rfl) rfl rfl, ?_⟩
  refine List.forall_mem_cons.mpr ⟨ok_callV C h_X6_whyNot ⟨rfl, rfl⟩ rfl kw_711 kw_896 kw_709 kw_710 kw_6 rfl ds_X6_whyNot ⟨by decide, by decide⟩ (show decode cX6_attempt 4 = .ok (.invokevirtual 89, 3) from dk_at dq24_32 (i := 4) rfl) rfl, ?_⟩
  refine List.forall_mem_cons.mpr ⟨ok_istore C (show decode cX6_attempt 7 = .ok (.istore 4, 2) from dk_at dq24_32 (i := 5) rfl) (by decide) rfl, ?_⟩
  refine List.forall_mem_cons.mpr ⟨ok_iload C (show decode cX6_attempt 9 = .ok (.iload 4, 2) from dk_at dq24_32 (i := 6) rfl) rfl, ?_⟩
  refine List.forall_mem_cons.mpr ⟨ok_ifne C (show decode cX6_attempt 11 = .ok (.ifCond .ne 10, 3) from dk_at dq24_32 (i := 7) rfl) (tg := 21) (by decide) rfl rfl, ?_⟩
  refine List.forall_mem_cons.mpr ⟨ok_aload_n C (show decode cX6_attempt 14 = .ok (.aload_n 0, 1) from dk_at dq24_32 (i := 8) rfl) rfl rfl, ?_⟩
  refine List.forall_mem_cons.mpr ⟨ok_iload_n C (show decode cX6_attempt 15 = .ok (.iload_n 1, 1) from dk_at dq24_32 (i := 9) rfl) rfl rfl, ?_⟩
  refine List.forall_mem_cons.mpr ⟨ok_iload_n C (show decode cX6_attempt 16 = .ok (.iload_n 2, 1) from dk_at dq24_32 (i := 10) rfl) rfl rfl, ?_⟩
  refine List.forall_mem_cons.mpr ⟨ok_iload_n C (show decode cX6_attempt 17 = .ok (.iload_n 3, 1) from dk_at dq24_32 (i := 11) rfl) rfl rfl, ?_⟩
  refine List.forall_mem_cons.mpr ⟨ok_callV C h_X6_perform ⟨rfl, rfl⟩ rfl kw_731 kw_897 kw_729 kw_730 kw_6 rfl ds_X6_perform ⟨by decide, by decide⟩ (show decode cX6_attempt 18 = .ok (.invokevirtual 93, 3) from dk_at dq24_32 (i := 12) rfl) rfl, ?_⟩
  refine List.forall_mem_cons.mpr ⟨ok_iload C (show decode cX6_attempt 21 = .ok (.iload 4, 2) from dk_at dq24_32 (i := 13) rfl) rfl, ?_⟩
  refine List.forall_mem_cons.mpr ⟨ok_ret C rfl (show decode cX6_attempt 23 = .ok (.ireturn, 1) from dk_at dq24_32 (i := 14) rfl), ?_⟩
  exact fun _ h => absurd h List.not_mem_nil
end
