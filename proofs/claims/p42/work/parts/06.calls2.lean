/-! ===== calls, returns, the library's own ===== -/
theorem ab_split {b : ab_B} {nA : Nat} {st as : List Value} (h : (st.take nA).reverse = as) : st.map (ab_v b) = (as.map (ab_v b)).reverse ++ (st.drop nA).map (ab_v b) := by
  subst h
  rw [List.map_reverse, List.reverse_reverse, ← List.map_append, List.take_append_drop]
theorem ab_rcv_ok {ci : Nat} {as : List Value} {hp : ab_H} (h : ab_rcv ci as hp = true) : ∃ (a : Nat) (As : List Value) (fs : List Value), as = .ref a :: As ∧ a < hp.1 ∧ hp.2 a = .inr (ci, fs) := by
  unfold ab_rcv at h
  split at h
  · rename_i a As
    rw [Bool.and_eq_true] at h
    have h2 := h.2
    split at h2
    · rename_i q hq
      have hci : q.1 = ci := by simpa using h2
      exact ⟨a, As, q.2, rfl, of_decide_eq_true h.1, by rw [hq, ← hci]⟩
    · cases h2
  · cases h
section AB
variable {p : Program} {l : Launch} {e : Env} {R : Room} {s : State} {m : MethodId} {args : Array Value} {below : List Frame} {meth : Method} {c : Code} {Q : State → Prop}
variable {b : ab_B} {D : va_G} {cl : List vw_C} {cA : Nat → ClassId} {nL : Nat} {cc : ByteArray} {P : Nat → Nat} {pc j t : Nat} {o : ab_O} {E : State → Prop}
variable {nA mc ms MC MS maxL index : Nat} {X : List Value → ab_H → Option ab_O} {y : MethodName} {bytes : ByteArray} {ret : Option FieldType} {Ts ws ws' : List Cond} {rm : Room} {own : String}
/-- a call, whatever kind of call it is -/
theorem ab_call_ok (hj : P j = pc + 3) (row : ∀ (as : List Value) (hp : ab_H) (o2 : ab_O) (H : Heap) (locs : List Loc) (u : Nat × Nat) (ls : Array Slot) (rest : List Value), as.length = nA → X as hp = some o2 → ab_cats rest ≤ 8 → u.1 + mc ≤ MC → u.2 + ms ≤ MS → va_P D cl (ab_w b cA hp) H → H.size = b.1 + hp.1 → va_S (fun q => b.1 ≤ q) s.heap H locs → lv_has ls nL (ab_lp b 0 ([] : List (Option Value))) →
      va_Run p l e R s m args below meth c H locs u.1 u.2 mc ms (F0 m pc ls ((as.map (ab_v b)).reverse ++ rest.map (ab_v b))) (rest.map (ab_v b)) (ab_Qx b D cl cA o2 (as.map (ab_v b)).toArray) (fun q => b.1 ≤ q)) : ab_ok p l e R s m args below meth c Q b D cl cA nL o P pc (ab_nx j (ab_call nA X mc ms MC MS)) := by
  refine ab_nx_ok (pc + 3) hj fun σ σ' h kk => ?_
  obtain ⟨lo, st, u, hp⟩ := σ
  unfold ab_call at h
  dsimp only at h
  obtain ⟨h1, h⟩ := ab_condN h
  simp only [Bool.and_eq_true, decide_eq_true_eq] at h1
  obtain ⟨⟨⟨h1, h2⟩, h3⟩, h4⟩ := h1
  split at h
  · rename_i o2 hX
    obtain rfl := Option.some.inj h
    intro H locs ls hP hz hS hl
    have hlen : ((st.take nA).reverse).length = nA := by rw [List.length_reverse, List.length_take]; omega
    have hr := row _ hp o2 H locs u ls (st.drop nA) hlen hX h2 h3 h4 hP hz hS ⟨hl.1, hl.2.1, fun q hq => by cases hq⟩
    rw [← ab_split rfl] at hr
    refine ab_callW (hp := hp) hr hS fun H1 locs1 g1 g2 g3 => ?_
    have hk := kk H1 locs1 ls g1 g2 g3 hl
    have e1 : (o2.1.toList ++ st.drop nA).map (ab_v b) = (o2.1.map (ab_v b)).toList ++ (st.drop nA).map (ab_v b) := by
      rw [List.map_append]
      cases o2.1 <;> rfl
    rw [← e1]
    exact hk
  · cases h
theorem ab_callV_ok {C : String} {T : u_T} {N ci n : Nat} (hx : p.tables.exec = Jvm.exec) (hb : c.code = cc) (hml : c.maxLocals = nL) (hts : ∀ w ∈ Ts, w.before args s = true) (hown : s.vm.findClass own = some m.cls) (hK : va_K D cl (ab_tys cA) s) (hR : R.cells = MC ∧ R.slots = MS) (hE : E s) (hEk : ab_Ek b E) (hEb : ab_Eb E)
    (hM : ab_M l b D cl cA E y ws rm X) (hm : rm.cells = mc ∧ rm.slots = ms) (hc : cl[ci]? = some (C, T, N)) (hG : GoodIn Ts ws) (hw : ws = Cond.code y bytes maxL ret :: ws') (hlink : Cond.methodLink own index y ∈ Ts) (hinst : Cond.instanceMethod y ∈ Ts) (hsel : Cond.selects C y y ∈ Ts) (hini : Cond.initialized y.cls ∈ Ts)
    (hn : nA = n + 1) (hds : y.cls ≠ "java/lang/invoke/MethodHandle" ∧ y.cls ≠ "java/lang/invoke/VarHandle" ∧ (parseMethodDescriptor y.desc).map (fun d => d.parameters.length) = some n) (hrm : rm.frames + 1 ≤ R.frames ∧ 8 + (maxL + 11) + rm.locals ≤ R.locals)
    (hd : decode cc pc = .ok (.invokevirtual index, 3)) (hj : P j = pc + 3) : ab_ok p l e R s m args below meth c Q b D cl cA nL o P pc (ab_nx j (ab_callV nA ci X mc ms MC MS)) := by
  have base : ∀ σ σ' : ab_S, ab_callV nA ci X mc ms MC MS σ = some σ' → ab_W p l e R s m args below meth c Q b D cl cA nL (pc + 3) σ' → ab_W p l e R s m args below meth c Q b D cl cA nL pc σ := by
    intro σ σ' h kk
    unfold ab_callV at h
    obtain ⟨hr0, h⟩ := ab_condN h
    obtain ⟨lo, st, u, hp⟩ := σ
    unfold ab_call at h
    dsimp only at h hr0
    obtain ⟨h1, h⟩ := ab_condN h
    simp only [Bool.and_eq_true, decide_eq_true_eq] at h1
    obtain ⟨⟨⟨h1, h2⟩, h3⟩, h4⟩ := h1
    split at h
    · rename_i o2 hX
      obtain rfl := Option.some.inj h
      intro H locs ls hP hz hS hl
      obtain ⟨a, As, fs, has, ha, hq⟩ := ab_rcv_ok hr0
      have hlen : As.length = n := by
        have h9 : ((st.take nA).reverse).length = nA := by rw [List.length_reverse, List.length_take]; omega
        rw [has] at h9
        simp at h9
        omega
      have hst := ab_split (b := b) has
      rw [has] at hX
      have hstk : st.map (ab_v b) = (As.map (ab_v b)).reverse ++ .ref (b.1 + a) :: (st.drop nA).map (ab_v b) := by
        rw [hst]
        simp [ab_v]
      have he : (ab_w b cA hp)[a]? = some (b.1 + a, .inr (ci, fs.map (ab_v b))) := by rw [ab_w_at ha, hq]; rfl
      have hrun : va_Run p l e R s m args below meth c H locs u.1 u.2 mc ms (F0 m pc ls (st.map (ab_v b))) ((st.drop nA).map (ab_v b)) (ab_Qx b D cl cA o2 (Value.ref (b.1 + a) :: As.map (ab_v b)).toArray) (fun q => b.1 ≤ q) := by
        have hM2 := hM _ hp o2 hX
        rw [hm.1, hm.2] at hM2
        refine va_runV (C := C) (b := b.1 + a) (As := As.map (ab_v b)) (n := n) ⟨hx, hb, hml, hown, hts⟩ hM2 ⟨callB_of n hts hG hw hm.1 hm.2 (hts _ hini) (hts _ hlink) hds hrm, hts _ hinst, hts _ hsel⟩ ⟨ab_blind hEb _ _, va_recv hK hP hc he, fun U hU hW => ⟨rfl, by rw [hU]; exact hz, by rw [hU]; exact hP, va_K.moved hW.alike hK, hEk s U hW (fun q h1 h2 => by rw [hU]; exact hS.2.1 q h1 h2) hE⟩⟩ rfl (by simpa using hlen) hl.1 hstk (lv_room (by rw [ab_cats_v]; exact h2)) hd (by rw [hR.1, hR.2]; exact ⟨h3, h4⟩)
      refine ab_callW (hp := hp) hrun hS fun H1 locs1 g1 g2 g3 => ?_
      have hk := kk H1 locs1 ls g1 g2 g3 hl
      have e1 : (o2.1.toList ++ st.drop nA).map (ab_v b) = (o2.1.map (ab_v b)).toList ++ (st.drop nA).map (ab_v b) := by
        rw [List.map_append]
        cases o2.1 <;> rfl
      rw [← e1]
      exact hk
    · cases h
  exact ab_nx_ok (pc + 3) hj base
theorem ab_callS_ok (hx : p.tables.exec = Jvm.exec) (hb : c.code = cc) (hml : c.maxLocals = nL) (hts : ∀ w ∈ Ts, w.before args s = true) (hown : s.vm.findClass own = some m.cls) (hK : va_K D cl (ab_tys cA) s) (hR : R.cells = MC ∧ R.slots = MS) (hE : E s) (hEk : ab_Ek b E) (hEb : ab_Eb E)
    (hM : ab_M l b D cl cA E y ws rm X) (hm : rm.cells = mc ∧ rm.slots = ms) (hG : GoodIn Ts ws) (hw : ws = Cond.code y bytes maxL ret :: ws') (hlink : Cond.methodLink own index y ∈ Ts) (hstat : Cond.static y ∈ Ts) (hini : Cond.initialized y.cls ∈ Ts)
    (hds : y.cls ≠ "java/lang/invoke/MethodHandle" ∧ y.cls ≠ "java/lang/invoke/VarHandle" ∧ (parseMethodDescriptor y.desc).map (fun d => d.parameters.length) = some nA) (hrm : rm.frames + 1 ≤ R.frames ∧ 8 + (maxL + 11) + rm.locals ≤ R.locals)
    (hd : decode cc pc = .ok (.invokestatic index, 3)) (hj : P j = pc + 3) : ab_ok p l e R s m args below meth c Q b D cl cA nL o P pc (ab_nx j (ab_call nA X mc ms MC MS)) := by
  refine ab_call_ok hj fun as hp o2 H locs u ls rest hlen hX h2 h3 h4 hP hz hS hl => ?_
  have hM2 := hM _ hp o2 hX
  rw [hm.1, hm.2] at hM2
  exact va_runS (As := as.map (ab_v b)) (n := nA) ⟨hx, hb, hml, hown, hts⟩ hM2 ⟨callB_of nA hts hG hw hm.1 hm.2 (hts _ hini) (hts _ hlink) hds hrm, hts _ hstat⟩ ⟨ab_blind hEb _ _, fun U hU hW => ⟨rfl, by rw [hU]; exact hz, by rw [hU]; exact hP, va_K.moved hW.alike hK, hEk s U hW (fun q h1 h2 => by rw [hU]; exact hS.2.1 q h1 h2) hE⟩⟩ rfl (by simpa using hlen) hl.1 rfl (lv_room (by rw [ab_cats_v]; exact h2)) hd (by rw [hR.1, hR.2]; exact ⟨h3, h4⟩)
theorem ab_callSN_ok {host : String} (hx : p.tables.exec = Jvm.exec) (hb : c.code = cc) (hml : c.maxLocals = nL) (hts : ∀ w ∈ Ts, w.before args s = true) (hown : s.vm.findClass own = some m.cls) (hK : va_K D cl (ab_tys cA) s) (hR : R.cells = MC ∧ R.slots = MS) (hE : E s) (hEk : ab_Ek b E) (hEb : ab_Eb E)
    (hM : ab_M l b D cl cA E y ws rm X) (hm : rm.cells = mc ∧ rm.slots = ms) (hG : GoodIn Ts ws) (hw : ws = Cond.code y bytes maxL ret :: ws') (hlink : va_Nw (.methodLinkNest own index y host) s) (hstat : Cond.static y ∈ Ts) (hini : Cond.initialized y.cls ∈ Ts)
    (hds : y.cls ≠ "java/lang/invoke/MethodHandle" ∧ y.cls ≠ "java/lang/invoke/VarHandle" ∧ (parseMethodDescriptor y.desc).map (fun d => d.parameters.length) = some nA) (hrm : rm.frames + 1 ≤ R.frames ∧ 8 + (maxL + 11) + rm.locals ≤ R.locals)
    (hd : decode cc pc = .ok (.invokestatic index, 3)) (hj : P j = pc + 3) : ab_ok p l e R s m args below meth c Q b D cl cA nL o P pc (ab_nx j (ab_call nA X mc ms MC MS)) := by
  refine ab_call_ok hj fun as hp o2 H locs u ls rest hlen hX h2 h3 h4 hP hz hS hl => ?_
  have hM2 := hM _ hp o2 hX
  rw [hm.1, hm.2] at hM2
  exact va_runSN (host := host) (As := as.map (ab_v b)) (n := nA) ⟨hx, hb, hml, hown, hts⟩ hM2 ⟨va_cnB nA hts hG hw hm.1 hm.2 hlink (hts _ hini) hds hrm, hts _ hstat, trivial⟩ ⟨ab_blind hEb _ _, fun U hU hW => ⟨rfl, by rw [hU]; exact hz, by rw [hU]; exact hP, va_K.moved hW.alike hK, hEk s U hW (fun q h1 h2 => by rw [hU]; exact hS.2.1 q h1 h2) hE⟩⟩ rfl (by simpa using hlen) hl.1 rfl (lv_room (by rw [ab_cats_v]; exact h2)) hd (by rw [hR.1, hR.2]; exact ⟨h3, h4⟩)
/-- constructors without parameters: X is only asked at one reference -/
theorem ab_callI_ok (hx : p.tables.exec = Jvm.exec) (hb : c.code = cc) (hml : c.maxLocals = nL) (hts : ∀ w ∈ Ts, w.before args s = true) (hown : s.vm.findClass own = some m.cls) (hK : va_K D cl (ab_tys cA) s) (hR : R.cells = MC ∧ R.slots = MS) (hE : E s) (hEk : ab_Ek b E) (hEb : ab_Eb E)
    (hM : ab_M l b D cl cA E y ws rm X) (hX1 : ∀ v hp o2, X [v] hp = some o2 → ∃ a, v = .ref a) (hm : rm.cells = mc ∧ rm.slots = ms) (hG : GoodIn Ts ws) (hw : ws = Cond.code y bytes maxL none :: ws') (hlink : Cond.methodLink own index y ∈ Ts) (hinst : Cond.instanceMethod y ∈ Ts) (hini : Cond.initialized y.cls ∈ Ts) (hy1 : y.name = "<init>")
    (hds : y.cls ≠ "java/lang/invoke/MethodHandle" ∧ y.cls ≠ "java/lang/invoke/VarHandle" ∧ (parseMethodDescriptor y.desc).map (fun d => d.parameters.length) = some 0) (hrm : rm.frames + 1 ≤ R.frames ∧ 8 + (maxL + 11) + rm.locals ≤ R.locals)
    (hd : decode cc pc = .ok (.invokespecial index, 3)) (hj : P j = pc + 3) : ab_ok p l e R s m args below meth c Q b D cl cA nL o P pc (ab_nx j (ab_call 1 X mc ms MC MS)) := by
  refine ab_call_ok hj fun as hp o2 H locs u ls rest hlen hX h2 h3 h4 hP hz hS hl => ?_
  obtain ⟨v, rfl⟩ := List.length_eq_one_iff.mp hlen
  have hM2 := hM _ hp o2 hX
  obtain ⟨a, rfl⟩ := hX1 v hp o2 hX
  rw [hm.1, hm.2] at hM2
  exact va_runI (b := b.1 + a) (As := []) (n := 0) ⟨hx, hb, hml, hown, hts⟩ hM2 ⟨callB_of 0 hts hG hw hm.1 hm.2 (hts _ hini) (hts _ hlink) hds hrm, hy1, hts _ hinst⟩ ⟨ab_blind hEb _ _, fun U hU hW => ⟨rfl, by rw [hU]; exact hz, by rw [hU]; exact hP, va_K.moved hW.alike hK, hEk s U hW (fun q h1 h2 => by rw [hU]; exact hS.2.1 q h1 h2) hE⟩⟩ rfl rfl hl.1 rfl (lv_room (by rw [ab_cats_v]; exact h2)) hd (by rw [hR.1, hR.2]; exact ⟨h3, h4⟩)
theorem ab_callIN_ok {host : String} (hx : p.tables.exec = Jvm.exec) (hb : c.code = cc) (hml : c.maxLocals = nL) (hts : ∀ w ∈ Ts, w.before args s = true) (hown : s.vm.findClass own = some m.cls) (hK : va_K D cl (ab_tys cA) s) (hR : R.cells = MC ∧ R.slots = MS) (hE : E s) (hEk : ab_Ek b E) (hEb : ab_Eb E)
    (hM : ab_M l b D cl cA E y ws rm X) (hX1 : ∀ v hp o2, X [v] hp = some o2 → ∃ a, v = .ref a) (hm : rm.cells = mc ∧ rm.slots = ms) (hG : GoodIn Ts ws) (hw : ws = Cond.code y bytes maxL none :: ws') (hlink : va_Nw (.methodLinkNest own index y host) s) (hinst : Cond.instanceMethod y ∈ Ts) (hini : Cond.initialized y.cls ∈ Ts) (hy1 : y.name = "<init>")
    (hds : y.cls ≠ "java/lang/invoke/MethodHandle" ∧ y.cls ≠ "java/lang/invoke/VarHandle" ∧ (parseMethodDescriptor y.desc).map (fun d => d.parameters.length) = some 0) (hrm : rm.frames + 1 ≤ R.frames ∧ 8 + (maxL + 11) + rm.locals ≤ R.locals)
    (hd : decode cc pc = .ok (.invokespecial index, 3)) (hj : P j = pc + 3) : ab_ok p l e R s m args below meth c Q b D cl cA nL o P pc (ab_nx j (ab_call 1 X mc ms MC MS)) := by
  refine ab_call_ok hj fun as hp o2 H locs u ls rest hlen hX h2 h3 h4 hP hz hS hl => ?_
  obtain ⟨v, rfl⟩ := List.length_eq_one_iff.mp hlen
  have hM2 := hM _ hp o2 hX
  obtain ⟨a, rfl⟩ := hX1 v hp o2 hX
  rw [hm.1, hm.2] at hM2
  exact va_runIN (host := host) (b := b.1 + a) (As := []) (n := 0) ⟨hx, hb, hml, hown, hts⟩ hM2 ⟨va_cnB 0 hts hG hw hm.1 hm.2 hlink (hts _ hini) hds hrm, hy1, hts _ hinst⟩ ⟨ab_blind hEb _ _, fun U hU hW => ⟨rfl, by rw [hU]; exact hz, by rw [hU]; exact hP, va_K.moved hW.alike hK, hEk s U hW (fun q h1 h2 => by rw [hU]; exact hS.2.1 q h1 h2) hE⟩⟩ rfl rfl hl.1 rfl (lv_room (by rw [ab_cats_v]; exact h2)) hd (by rw [hR.1, hR.2]; exact ⟨h3, h4⟩)
theorem ab_ret_ok (hx : p.tables.exec = Jvm.exec) (hb : c.code = cc) (hr : meth.sig.returnType = some .int) (hlocks : meth.locks = false) (hd : decode cc pc = .ok (.ireturn, 1)) : ab_ok p l e R s m args below meth c (MQ below (ab_Qx b D cl cA o) args s MC MS (fun q => b.1 ≤ q)) b D cl cA nL o P pc (ab_ret MC MS) := by
  intro σ
  obtain ⟨lo, st, u, hp⟩ := σ
  unfold ab_ret
  dsimp only
  refine ⟨fun j' σ' h1 h2 => ?_, fun h1 => ?_⟩
  · split at h1
    · obtain ⟨-, h1⟩ := ab_cond h1
      cases h1
    · cases h1
  · split at h1
    · rename_i x
      obtain ⟨h2, h1⟩ := ab_cond h1
      obtain rfl := Sum.inr.inj h1
      simp only [Bool.and_eq_true, decide_eq_true_eq] at h2
      intro H locs ls hP hz hS hl
      refine W.widen h2.1 h2.2 ?_
      exact W.iret (v := x) hx hb hr (fun t ht hW => ⟨⟨rfl, by rw [ht]; exact hz, by rw [ht]; exact hP⟩, hS.F ht⟩) hS.2.2 hd hlocks
    · cases h1
theorem ab_zret_ok (hx : p.tables.exec = Jvm.exec) (hb : c.code = cc) (hr : meth.sig.returnType = some .boolean) (hlocks : meth.locks = false) (hd : decode cc pc = .ok (.ireturn, 1)) : ab_ok p l e R s m args below meth c (MQ below (ab_Qx b D cl cA o) args s MC MS (fun q => b.1 ≤ q)) b D cl cA nL o P pc (ab_zret MC MS) := by
  intro σ
  obtain ⟨lo, st, u, hp⟩ := σ
  unfold ab_zret
  dsimp only
  refine ⟨fun j' σ' h1 h2 => ?_, fun h1 => ?_⟩
  · split at h1
    · obtain ⟨-, h1⟩ := ab_cond h1
      cases h1
    · cases h1
  · split at h1
    · rename_i x
      obtain ⟨h2, h1⟩ := ab_cond h1
      obtain rfl := Sum.inr.inj h1
      simp only [Bool.and_eq_true, Bool.or_eq_true, decide_eq_true_eq] at h2
      intro H locs ls hP hz hS hl
      refine W.widen h2.1.1 h2.1.2 ?_
      exact W.zret (v := x) hx hb hr (by rcases h2.2 with rfl | rfl <;> decide) (fun t ht hW => ⟨⟨rfl, by rw [ht]; exact hz, by rw [ht]; exact hP⟩, hS.F ht⟩) hS.2.2 hd hlocks
    · cases h1
theorem ab_vret_ok (hx : p.tables.exec = Jvm.exec) (hb : c.code = cc) (hr : meth.sig.returnType = none) (hlocks : meth.locks = false) (hd : decode cc pc = .ok (.return_, 1)) : ab_ok p l e R s m args below meth c (MQ below (ab_Qx b D cl cA o) args s MC MS (fun q => b.1 ≤ q)) b D cl cA nL o P pc (ab_vret MC MS) := by
  intro σ
  obtain ⟨lo, st, u, hp⟩ := σ
  unfold ab_vret
  dsimp only
  refine ⟨fun j' σ' h1 h2 => ?_, fun h1 => ?_⟩
  · split at h1
    · obtain ⟨-, h1⟩ := ab_cond h1
      cases h1
    · cases h1
  · split at h1
    · obtain ⟨h2, h1⟩ := ab_cond h1
      obtain rfl := Sum.inr.inj h1
      simp only [Bool.and_eq_true, decide_eq_true_eq] at h2
      intro H locs ls hP hz hS hl
      refine W.widen h2.1 h2.2 ?_
      exact W.vret hx hb hr (fun t ht hW => ⟨⟨rfl, by rw [ht]; exact hz, by rw [ht]; exact hP⟩, hS.F ht⟩) hS.2.2 hd hlocks
    · cases h1
theorem ab_mm_ok {g : Int32 → Int32 → Int32} (hj : P j = pc + 3) (row : ∀ (H : Heap) (locs : List Loc) (u : Nat × Nat) (ls : Array Slot) (rest : List Value) (x z : Int32), ls.size = nL → (rest.map fun v => v.category).sum ≤ 8 → u.1 ≤ MC → u.2 ≤ MS → W p l e R s m args below meth c H locs u.1 u.2 Q (F0 m (pc + 3) ls (.int (g x z) :: rest)) → W p l e R s m args below meth c H locs u.1 u.2 Q (F0 m pc ls (.int z :: .int x :: rest))) : ab_ok p l e R s m args below meth c Q b D cl cA nL o P pc (ab_nx j (ab_mm g MC MS)) := by
  refine ab_nx_ok (pc + 3) hj fun σ σ' h kk => ?_
  obtain ⟨lo, st, u, hp⟩ := σ
  unfold ab_mm at h
  dsimp only at h
  split at h
  · rename_i z x st'
    obtain ⟨h1, rfl⟩ := ab_cond h
    simp only [Bool.and_eq_true, decide_eq_true_eq] at h1
    intro H locs ls hP hz hS hl
    exact row H locs u ls _ x z hl.1 (by rw [ab_cats_v]; exact h1.1.1) h1.1.2 h1.2 (kk H locs ls hP hz hS hl)
  · cases h
theorem ab_copy_ok (hx : p.tables.exec = Jvm.exec) (hb : c.code = cc) (hml : c.maxLocals = nL) (hts : ∀ w ∈ Ts, w.before args s = true) (hown : s.vm.findClass own = some m.cls) (hK : va_K D cl (ab_tys cA) s) (hlink : Cond.methodLink own index arraycopyName ∈ Ts) (hnat : Cond.native arraycopyName ∈ Ts) (hstat : Cond.static arraycopyName ∈ Ts) (hini : Cond.initialized "java/lang/System" ∈ Ts)
    (hR : 1 ≤ R.frames ∧ 8 + (nativeFrameWords "java/lang/System" "arraycopy" 5 + 11) ≤ R.locals) (hd : decode cc pc = .ok (.invokestatic index, 3)) (hj : P j = pc + 3) : ab_ok p l e R s m args below meth c Q b D cl cA nL o P pc (ab_nx j ab_copy) := by
  refine ab_nx_ok (pc + 3) hj fun σ σ' h kk => ?_
  obtain ⟨lo, st, u, hp⟩ := σ
  unfold ab_copy at h
  dsimp only at h
  split at h
  · rename_i n dp a sp a0 st'
    obtain ⟨h1, h⟩ := ab_condN h
    simp only [Bool.and_eq_true, Bool.not_eq_true', decide_eq_false_iff_not, decide_eq_true_eq] at h1
    obtain ⟨⟨⟨⟨⟨⟨ha, ha0⟩, hst⟩, h2⟩, h3⟩, h4⟩, h5⟩ := h1
    have fin : ∀ (x : ab_E) (y : va_E), ab_e b cA x = y → ab_W p l e R s m args below meth c Q b D cl cA nL (pc + 3) (lo, st', u, ab_up hp a x) → ∀ (H : Heap) (locs : List Loc) (ls : Array Slot), va_S (fun q => b.1 ≤ q) s.heap H locs → H.size = b.1 + hp.1 → lv_has ls nL (ab_lp b 0 lo) → ∀ (T : State), T.heap = H → Stand p l e R s m args below meth c T locs u.1 u.2 →
        ∀ (H1 : Heap) (locs1 : List Loc), va_P D cl ((ab_w b cA hp).set a (b.1 + a, y)) H1 → va_D (fun q => b.1 ≤ q) ((ab_w b cA hp).set a (b.1 + a, y)) → va_S (fun q => b.1 ≤ q) s.heap H1 locs1 → W p l e R s m args below meth c H1 locs1 u.1 u.2 Q (F0 m (pc + 3) ls (st'.map (ab_v b))) := by
      intro x y hy kk H locs ls hS hz hl T hT XT H1 locs1 hP1 _ hS1 T1 hT1 X1
      have z0 := XT.heapSize
      have z1 := X1.heapSize
      rw [hT, h5] at z0
      rw [hT1, h5] at z1
      have hz1 : H1.size = b.1 + hp.1 := by
        have := hS.1
        have := hS1.1
        omega
      rw [ab_w_up hy] at hP1
      exact kk H1 locs1 ls hP1 hz1 hS1 hl T1 hT1 X1
    have hsum : ((st'.map (ab_v b)).map fun v => v.category).sum ≤ 8 := by rw [ab_cats_v]; exact hst
    split at h
    · rename_i n0 f n1 g hq0 hq1
      obtain ⟨h6, rfl⟩ := ab_cond h
      simp only [Bool.and_eq_true, decide_eq_true_eq] at h6
      intro H locs ls hP hz hS hl T hT XT
      have he0 : (ab_w b cA hp)[a0]? = some (b.1 + a0, .inl (cA 1, n0, .inl f)) := by rw [ab_w_at ha0, hq0]; rfl
      have he1 : (ab_w b cA hp)[a]? = some (b.1 + a, .inl (cA 1, n1, .inl g)) := by rw [ab_w_at ha, hq1]; rfl
      exact va_copyi hx hb (by rw [hml]; exact hl.1.symm) hown (hts _ hlink) (hts _ hnat) (hts _ hstat) (hts _ hini) hK hP ab_w_D hS a0 a 1 1 he0 he1 rfl rfl rfl h2 h3 h4 h6.1 h6.2 (fun i _ => rfl) hR.1 (by omega) hd (fin (.inl (1, n1, .inl (va_cpy f g sp.toNatClampNeg dp.toNatClampNeg n.toNatClampNeg))) _ rfl kk H locs ls hS hz hl T hT XT) T hT XT
    · rename_i n0 f n1 g hq0 hq1
      obtain ⟨h6, rfl⟩ := ab_cond h
      simp only [Bool.and_eq_true, decide_eq_true_eq] at h6
      intro H locs ls hP hz hS hl T hT XT
      have he0 : (ab_w b cA hp)[a0]? = some (b.1 + a0, .inl (cA 2, n0, .inr (.inl f))) := by rw [ab_w_at ha0, hq0]; rfl
      have he1 : (ab_w b cA hp)[a]? = some (b.1 + a, .inl (cA 2, n1, .inr (.inl g))) := by rw [ab_w_at ha, hq1]; rfl
      exact va_copyl hx hb (by rw [hml]; exact hl.1.symm) hown (hts _ hlink) (hts _ hnat) (hts _ hstat) (hts _ hini) hK hP ab_w_D hS a0 a 2 2 he0 he1 rfl rfl rfl h2 h3 h4 h6.1 h6.2 (fun i _ => rfl) hR.1 (by omega) hd (fin (.inl (2, n1, .inr (.inl (va_cpy f g sp.toNatClampNeg dp.toNatClampNeg n.toNatClampNeg)))) _ rfl kk H locs ls hS hz hl T hT XT) T hT XT
    · cases h
  · cases h
theorem ab_tab_ok {dflt lo hi : Int} {offs : Array Int} {len : Nat} {ts : List Nat} {dj : Nat} (hx : p.tables.exec = Jvm.exec) (hb : c.code = cc) (hd : decode cc pc = .ok (.tableswitch dflt lo hi offs, len)) (hdf : (pc : Int) + dflt = (P dj : Int)) (hts : offs.toList.map (fun z => (pc : Int) + z) = ts.map (fun z => (P z : Int))) (hhi : hi = lo + (ts.length : Int) - 1) : ab_ok p l e R s m args below meth c Q b D cl cA nL o P pc (ab_tab lo ts dj) := by
  intro σ
  obtain ⟨lv, st, u, hp⟩ := σ
  unfold ab_tab
  dsimp only
  refine ⟨fun j' σ' h1 h2 => ?_, fun h1 => ?_⟩
  · split at h1
    · rename_i x st'
      simp only [Option.some.injEq, Sum.inl.injEq, Prod.mk.injEq] at h1
      obtain ⟨rfl, rfl⟩ := h1
      intro H locs ls hP hz hS hl
      by_cases hlo : x.toInt < lo
      · rw [decide_eq_true hlo] at h2
        exact lv_tableOut hx hb hd (Or.inl hlo) hdf (h2 H locs ls hP hz hS hl)
      · rw [decide_eq_false hlo] at h2
        have hlen : offs.toList.length = ts.length := by
          have := congrArg List.length hts
          simpa using this
        by_cases hh : hi < x.toInt
        · have hn : ts[(x.toInt - lo).toNat]? = none := by
            rw [List.getElem?_eq_none_iff]
            omega
          simp only [cond_false, hn, Option.getD_none] at h2
          exact lv_tableOut hx hb hd (Or.inr hh) hdf (h2 H locs ls hP hz hS hl)
        · have hk : (x.toInt - lo).toNat < ts.length := by omega
          have h3 : ts[(x.toInt - lo).toNat]? = some ts[(x.toInt - lo).toNat] := List.getElem?_eq_getElem hk
          have hk2 : (x.toInt - lo).toNat < offs.toList.length := by rw [hlen]; exact hk
          have h4 : offs.toList[(x.toInt - lo).toNat]? = some offs.toList[(x.toInt - lo).toNat] := List.getElem?_eq_getElem hk2
          have h5 : (offs.toList.map (fun z => (pc : Int) + z))[(x.toInt - lo).toNat]? = (ts.map (fun z => (P z : Int)))[(x.toInt - lo).toNat]? := by rw [hts]
          rw [List.getElem?_map, List.getElem?_map, h3, h4] at h5
          simp only [Option.map_some, Option.some.injEq] at h5
          simp only [cond_false, h3, Option.getD_some] at h2
          exact lv_tableIn hx hb hd hlo hh (by rw [← Array.getElem?_toList]; exact h4) h5 (h2 H locs ls hP hz hS hl)
    · cases h1
  · split at h1 <;> cases h1
end AB
