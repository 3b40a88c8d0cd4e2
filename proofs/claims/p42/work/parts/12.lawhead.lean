-- ===== end of PART A; then your names; then what follows =====
/-! THE CLAIM OUT OF ONE WALK OF THE LAW'S BODY. Your part is whole_start (and what it stands on); all else here is the same for every law, but numbers. -/
def R_law : String := "LackFerryLaw"
def lw_P (b : Addr) (xs : List Int32) (args : Array Value) (s : State) : Prop := args = #[.ref b] ∧ s.IntsAt b xs ∧ xs.length ≤ 3072 ∧ (Jvm.Cond.and given_1 narrow_1).before args s = true
def lw_Q (_ : Array Value) (s : State) (o : Outcome) (t : State) : Prop := o = .returned (some (.int 1)) ∧ Framed s o t [] 709736 6966897
def lw_Z (below : List Frame) (a : Array Value) (s : State) : State → Prop := fun t => ∃ o, t.status = .running ∧ Ended t below o ∧ lw_Q a s o t
/-- the law's own end, with 1 on the stack, nothing written that was there before, its room as the claim has it -/
theorem lw_ret {p : Program} {l : Launch} {e : Env} {s : State} {m : MethodId} {below : List Frame} {meth : Method} {c : Code} {b : Nat} (hx : p.tables.exec = Jvm.exec) (hb : c.code = code) (hr : meth.sig.returnType = ret) (hlocks : meth.locks = false) {pc : Nat} {H : Heap} {ls : Array Slot} (hdg : decode code pc = .ok (.ireturn, 1)) : W p l e room_1 s m #[Value.ref b] below meth c H [] 709736 6966897 (lw_Z below #[Value.ref b] s) (F0 m pc ls [.int 1]) := by
  intro T hT X
  obtain ⟨fs, hret, hrun, hended, hW, hframe⟩ := X.leave (v := some (.int 1)) (hlocks := hlocks) (fun h => by rw [hr] at h; cases h)
  have hmeth' : T.vm.method? m = some meth := X.method'
  refine ⟨T.setFrames fs, ?_, .returned (some (.int 1)), hrun, hended, rfl, ⟨_, rfl⟩, hW, hframe⟩
  jvm_step X.here [X.here.top, hx, hb, hdg, hmeth', hr, ret, narrow_b1]
  (try refine ⟨rfl, ?_⟩); (try refine ⟨rfl, ?_⟩)
  first | (intro acts; rw [hret _ acts rfl rfl rfl]) | rw [hret _ _ rfl rfl rfl]
  exact Steps.refl _
/-- what holds at the law's entry: the machine, the code, the tables' words (any of lw_tbl by 'hts w (by decide +kernel)'), the script of L ints xs at the cell b, what the Statement gives of the start (any of its parts by flat_of_before) -/
def lw_At (p : Program) (s : State) (m : MethodId) (meth : Method) (c : Code) (b L : Nat) (xs : Nat → Int32) : Prop :=
  p.tables.exec = Jvm.exec ∧ c.code = code ∧ meth.sig.returnType = ret ∧ c.maxLocals = 7 ∧ s.vm.findClass R_law = some m.cls ∧ (∀ w ∈ lw_tbl, w.before #[Value.ref b] s = true) ∧ va_X b L xs s s.heap ∧ b < s.heap.size ∧ meth.locks = false ∧ (Jvm.Cond.and given_1 narrow_1).before #[Value.ref b] s = true
/-! ===== the law's own steps ===== -/
theorem lw_flags {l : Launch} (h : l.flags = flags0) : l.stackTraces = false := by
  unfold Launch.stackTraces
  rw [h]
  decide +kernel
def ab_slen (n : Nat) : ab_S → Option ab_S := fun s => match s.2.1 with
  | .retAddr 0 :: st => some (s.1, .int (Int32.ofNat n) :: st, s.2.2)
  | _ => none
def ab_sld (xs : Nat → Int32) (n : Nat) : ab_S → Option ab_S := fun s => match s.2.1 with
  | .int i :: .retAddr 0 :: st => cond (ab_in i n) (some (s.1, .int (xs i.toNatClampNeg) :: st, s.2.2)) none
  | _ => none
def ab_lret : ab_A := fun s => match s.2.1 with
  | [.int x] => cond (decide (x = 1) && decide (s.2.2.1.1 ≤ 709736) && decide (s.2.2.1.2 ≤ 6966897)) (some (.inr (some (.int 1), s.2.2.2))) none
  | _ => none
section AB
variable {p : Program} {l : Launch} {e : Env} {R : Room} {s : State} {m : MethodId} {args : Array Value} {below : List Frame} {meth : Method} {c : Code} {Q : State → Prop}
variable {b : ab_B} {D : va_G} {cA : Nat → ClassId} {nL : Nat} {cc : ByteArray} {pc j t : Nat} {o : ab_O} {y : MethodName} {ret' : Option FieldType} {cd : Cond} {rm : Room}
theorem ok_slen {xs : Nat → Int32} {n bb : Nat} (C : ab_cx p l e R s m args below meth c D ab_cl cA (ab_E0 b) y cc nL ret' (cd :: ab_G) rm) (hX : va_X bb n xs s s.heap) (hb0 : b.2 0 = bb) (hb1 : b.1 = s.heap.size ∧ bb < s.heap.size) (hd : decode cc pc = .ok (.arraylength, 1)) (hj : j = pc + 1) : ab_ok p l e R s m args below meth c Q b D ab_cl cA nL o (fun i => i) pc (ab_nx j (ab_slen n)) := by
  refine ab_nx_ok (pc + 1) hj fun σ σ' h k => ?_
  obtain ⟨lo, st, r⟩ := σ
  unfold ab_slen at h
  dsimp only at h
  split at h
  · obtain rfl := Option.some.inj h
    intro H locs ls hP hz hS hl
    have hk := k H locs ls hP hz hS hl
    show W p l e R s m args below meth c H locs r.1.1 r.1.2 Q (F0 m pc ls (.ref (b.2 0) :: _))
    rw [hb0]
    exact va_slen C.1 C.2.1 hX hb1.2 (by rw [hb1.1]; omega) hS hd hk
  · cases h
theorem ok_sld {xs : Nat → Int32} {n bb : Nat} (C : ab_cx p l e R s m args below meth c D ab_cl cA (ab_E0 b) y cc nL ret' (cd :: ab_G) rm) (hX : va_X bb n xs s s.heap) (hb0 : b.2 0 = bb) (hb1 : b.1 = s.heap.size ∧ bb < s.heap.size) (hd : decode cc pc = .ok (.iaload, 1)) (hj : j = pc + 1) : ab_ok p l e R s m args below meth c Q b D ab_cl cA nL o (fun i => i) pc (ab_nx j (ab_sld xs n)) := by
  refine ab_nx_ok (pc + 1) hj fun σ σ' h k => ?_
  obtain ⟨lo, st, r⟩ := σ
  unfold ab_sld at h
  dsimp only at h
  split at h
  · obtain ⟨h1, rfl⟩ := ab_cond h
    intro H locs ls hP hz hS hl
    have hk := k H locs ls hP hz hS hl
    rename_i i st'
    show W p l e R s m args below meth c H locs r.1.1 r.1.2 Q (F0 m pc ls (.int i :: .ref (b.2 0) :: _))
    rw [hb0]
    exact va_sld C.1 C.2.1 hX hb1.2 (by rw [hb1.1]; omega) hS (ab_in_ok h1) hd hk
  · cases h
theorem ok_lret {bb : Nat} (C : ab_cx p l e room_1 s m #[Value.ref bb] below meth c D ab_cl cA (ab_E0 b) y code nL ret (cd :: ab_G) room_1) (hb1 : b.1 = s.heap.size ∧ bb < s.heap.size) (hd : decode code pc = .ok (.ireturn, 1)) : ab_ok p l e room_1 s m #[Value.ref bb] below meth c (lw_Z below #[Value.ref bb] s) b D ab_cl cA nL o (fun i => i) pc ab_lret := by
  intro σ
  obtain ⟨lo, st, u, hp⟩ := σ
  unfold ab_lret
  dsimp only
  refine ⟨fun j' σ' h1 h2 => ?_, fun h1 => ?_⟩
  · split at h1
    · obtain ⟨-, h1⟩ := ab_cond h1
      cases h1
    · cases h1
  · split at h1
    · obtain ⟨h2, h1⟩ := ab_cond h1
      obtain rfl := Sum.inr.inj h1
      simp only [Bool.and_eq_true, decide_eq_true_eq] at h2
      obtain ⟨⟨rfl, h3⟩, h4⟩ := h2
      intro H locs ls hP hz hS hl
      refine va_forget (fun q hq => by rw [← hb1.1]; exact hS.2.2 q hq) ?_
      refine W.widen h3 h4 ?_
      exact lw_ret C.1 C.2.1 C.2.2.2.1 C.2.2.2.2.1 hd
    · cases h1
theorem ok_retx (C : ab_cx p l e R s m args below meth c D ab_cl cA (ab_E0 b) y cc nL ret' (cd :: ab_G) rm) (hr : ret' = some .int) (hd : decode cc pc = .ok (.ireturn, 1)) : ab_ok p l e R s m args below meth c (vx_MQ below (ab_Qy b D ab_cl cA o) (ab_Xc b D ab_cl cA o) args s rm.cells rm.slots (fun q => b.1 ≤ q)) b D ab_cl cA nL o (fun i => i) pc (ab_ret rm.cells rm.slots) := ab_retx_ok C.1 C.2.1 (C.2.2.2.1.trans hr) C.2.2.2.2.1 hd
set_option maxRecDepth 100000 in
theorem at_good : ∀ w ∈ (ab_at "LackFerry" 190).filter goodWord, w ∈ ab_G := by
  have h : ∀ w ∈ (ab_at "LackFerry" 190).filter goodWord, w ∈ lw_tbl := by decide +kernel
  exact fun w hw => List.mem_filter.mpr ⟨h w hw, (List.mem_filter.mp hw).2⟩
set_option maxRecDepth 100000 in
theorem at_bad : ∀ w ∈ (ab_at "LackFerry" 190).filter (fun w => !goodWord w), w ∈ Cond.castable ab_NS ab_NS :: ab_Ed.map Cond.declares := by decide +kernel
set_option maxRecDepth 100000 in
theorem at_ot : ∀ w ∈ Cond.classLink "LackFerry" 186 ab_NS :: Cond.initialized ab_NS :: ab_at "LackFerry" 190, vx_ot w = true := by decide +kernel
set_option maxRecDepth 100000 in
theorem at_186 : Cond.classLink "LackFerry" 186 ab_NS ∈ ab_G := List.mem_filter.mpr ⟨by decide +kernel, rfl⟩
set_option maxRecDepth 100000 in
theorem at_ini : Cond.initialized ab_NS ∈ ab_G := List.mem_filter.mpr ⟨by decide +kernel, rfl⟩
theorem ok_thr (C : ab_cx p l e R s m args below meth c D ab_cl cA (ab_E0 b) yX10_man cc nL ret' (cd :: ab_G) ({ frames := 8, cells := 1, slots := 6, locals := 800 } : Room)) (htr : l.stackTraces = false) (hout : ∀ x ∈ c.exceptionTable.toList, False) {t is : Nat} {text : String} (hstr : vk_R "LackFerry" is text (b.2 t) s)
    (d0 : decode cc pc = .ok (.new 186, 3)) (d3 : decode cc (pc + 3) = .ok (.dup, 1)) (d4 : decode cc (pc + 4) = .ok (.ldc is, 2)) (d6 : decode cc (pc + 6) = .ok (.invokespecial 190, 3)) (d9 : decode cc (pc + 9) = .ok (.athrow, 1)) : ab_ok p l e R s m args below meth c (vx_MQ below (ab_Qy b D ab_cl cA o) (ab_Xc b D ab_cl cA o) args s 1 6 (fun q => b.1 ≤ q)) b D ab_cl cA nL o (fun i => i) pc ab_thr := by
  have hE := cx_E C
  have hG : ∀ w ∈ ab_G, w.before args s = true := fun w h => C.2.2.2.2.2.1 w (gm h)
  refine ab_thr_ok C.1 C.2.1 C.2.2.1 C.2.2.2.2.1 htr C.2.2.2.2.2.2.1 C.2.2.2.2.2.2.2.1 rfl (hG _ at_186) (hG _ at_ini) hstr (vx_hat (fun w h => hG w (at_good w h)) at_bad (vx_c (va_Nw.use rfl hE.2.2.2.1) (fun w hw => by
    obtain ⟨x, hx, rfl⟩ := List.mem_map.mp hw
    exact va_Nw.use rfl (hE.2.2.2.2.2.2.2.2.1 x hx)))) at_ot hE.2.2.2.2.2.2.1 hE.2.2.2.2.2.2.2.1 d0 d3 d4 d6 d9 hout ?_ ⟨Nat.le_refl _, Nat.le_refl _⟩
  rw [cx_R C]
  exact ⟨by decide, by decide, by decide, by decide⟩
theorem ok_callX (C : ab_cx p l e R s m args below meth c D ab_cl cA (ab_E0 b) y cc nL ret' (cd :: ab_G) rm) {Cn : String} {T : u_T} {N ci n i hj nA index maxL : Nat} {X : List Value → ab_H → Option ab_O} {z : MethodName} {bytes : ByteArray} {rz : Option FieldType} {rc : Room} {x : ExceptionTableEntry}
    (hM : ∀ (as : List Value) (hp : ab_H) (o : ab_O), X as hp = some o → vx_Met l z (Cond.code z bytes maxL rz :: ab_G) rc (ab_Px b D ab_cl cA (ab_E0 b) as hp) (ab_Qy b D ab_cl cA o) (ab_Xc b D ab_cl cA o) rc.cells rc.slots (fun q => b.1 ≤ q)) (htab : c.exceptionTable.toList = [x]) (hc : ab_cl[ci]? = some (Cn, T, N)) (hcode : Cond.code z bytes maxL rz ∈ ab_G) (hlink : Cond.methodLink y.cls index z ∈ ab_G) (hinst : Cond.instanceMethod z ∈ ab_G) (hsel : Cond.selects Cn z z ∈ ab_G) (hini : Cond.initialized z.cls ∈ ab_G)
    (hds : z.cls ≠ "java/lang/invoke/MethodHandle" ∧ z.cls ≠ "java/lang/invoke/VarHandle" ∧ (parseMethodDescriptor z.desc).map (fun d => d.parameters.length) = some n) (hrm : rc.frames + 1 ≤ rm.frames ∧ 8 + (maxL + 11) + rc.locals ≤ rm.locals) (hcl : Cond.classLink y.cls x.catchType ab_NS ∈ ab_G) (hd2 : decode cc x.handlerPc = .ok (.astore i, 2)) (hhj : hj = x.handlerPc + 2)
    (hd : decode cc pc = .ok (.invokevirtual index, 3)) (hjj : j = pc + 3) (hn : nA = n + 1 := by rfl) (hcov : covers x pc = true := by rfl) (h0 : x.catchType ≠ 0 := by decide) (hi : i < nL := by decide) : ab_ok p l e R s m args below meth c Q b D ab_cl cA nL o (fun i => i) pc (ab_callX j hj i nA ci X rc.cells rc.slots rm.cells rm.slots) :=
  ab_callX_ok C.1 C.2.1 C.2.2.1 C.2.2.2.2.2.1 C.2.2.2.2.2.2.1 C.2.2.2.2.2.2.2.1 (cx_cells C) (cx_E C) (ab_E0k b) (ab_E0b b) hM ⟨rfl, rfl⟩ hc (ab_good hcode) rfl (gm hlink) (gm hinst) (gm hsel) (gm hini) hn hds (by rw [cx_R C]; exact hrm) htab hcov h0 (C.2.2.2.2.2.1 _ (gm hcl)) (va_Nw.use rfl (cx_E C).2.2.2.1) hi hd2 hhj hd hjj
theorem ok_callSW (C : ab_cx p l e R s m args below meth c D ab_cl cA (ab_E0 b) y cc nL ret' (cd :: ab_G) rm) {nA mc ms maxL index : Nat} {X : List Value → ab_H → Option ab_O} {z : MethodName} {bytes : ByteArray} {rz : Option FieldType} {rc : Room} {hh : List (Nat × Nat × Nat × Nat)} (hM : ab_M l b D ab_cl cA (ab_E0 b) z (Cond.codeWith z bytes maxL rz hh :: ab_G) rc X) (hm : rc.cells = mc ∧ rc.slots = ms) (hcode : Cond.codeWith z bytes maxL rz hh ∈ ab_G) (hlink : Cond.methodLink y.cls index z ∈ ab_G) (hstat : Cond.static z ∈ ab_G) (hini : Cond.initialized z.cls ∈ ab_G)
    (hds : z.cls ≠ "java/lang/invoke/MethodHandle" ∧ z.cls ≠ "java/lang/invoke/VarHandle" ∧ (parseMethodDescriptor z.desc).map (fun d => d.parameters.length) = some nA) (hrm : rc.frames + 1 ≤ rm.frames ∧ 8 + (maxL + 11) + rc.locals ≤ rm.locals) (hd : decode cc pc = .ok (.invokestatic index, 3)) (hj : j = pc + 3) : ab_ok p l e R s m args below meth c Q b D ab_cl cA nL o (fun i => i) pc (ab_nx j (ab_call nA X mc ms rm.cells rm.slots)) := by
  refine ab_call_ok hj fun as hp o2 H locs u ls rest hlen hX h2 h3 h4 hP hz hS hl => ?_
  have hM2 := hM _ hp o2 hX
  rw [hm.1, hm.2] at hM2
  have hR := cx_cells C
  have hG : GoodIn (cd :: ab_G) (va_wsS y.cls index z (Cond.codeWith z bytes maxL rz hh :: ab_G)) := fun w hw => by
    rcases List.mem_append.mp hw with h | h
    · have hw2 : w ∈ ab_G := by
        rcases List.mem_cons.mp h with h | h
        · rw [h]; exact hlink
        · rcases List.mem_cons.mp h with h | h
          · rw [h]; exact hstat
          · rw [List.mem_singleton.mp h]; exact hini
      exact ⟨gm hw2, good_of_word (List.mem_filter.mp hw2).2⟩
    · exact ab_good hcode w h
  exact vx_runSW (As := as.map (ab_v b)) (n := nA) ⟨C.1, C.2.1, C.2.2.1, C.2.2.2.2.2.2.1, C.2.2.2.2.2.1⟩ hM2 (vx_cwSW nA C.2.2.2.2.2.1 hG rfl hm.1 hm.2 hds (by rw [cx_R C]; exact hrm)) ⟨ab_blind (ab_E0b b) _ _, fun U hU hW => ⟨rfl, by rw [hU]; exact hz, by rw [hU]; exact hP, va_K.moved hW.alike C.2.2.2.2.2.2.2.1, ab_E0k b s U hW (fun q h1 h2 => by rw [hU]; exact hS.2.1 q h1 h2) (cx_E C)⟩⟩ rfl (by simpa using hlen) hl.1 rfl (lv_room (by rw [ab_cats_v]; exact h2)) hd (by rw [hR.1, hR.2]; exact ⟨h3, h4⟩)
end AB
