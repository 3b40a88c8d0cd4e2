/-! ===== things that were there before the law: a String constant, its bytes, static fields ===== -/
def ab_sgf (i : Nat) (v : Value) : ab_S → Option ab_S := fun s => match s.2.1 with
  | .retAddr k :: st => cond (k == i) (some (s.1, v :: st, s.2.2)) none
  | _ => none
def ab_sbl (i n : Nat) (f : Nat → Int32) : ab_S → Option ab_S := fun s => match s.2.1 with
  | .int x :: .retAddr k :: st => cond (k == i && ab_in x n) (some (s.1, .int (f x.toNatClampNeg) :: st, s.2.2)) none
  | _ => none
def ab_rcR (i : Nat) (as : List Value) : Bool := match as with
  | .retAddr k :: _ => k == i
  | _ => false
def ab_callR (nA i : Nat) (X : List Value → ab_H → Option ab_O) (mc ms MC MS : Nat) : ab_S → Option ab_S := fun s =>
  cond (ab_rcR i (s.2.1.take nA).reverse) (ab_call nA X mc ms MC MS s) none
def ab_cret (MC MS : Nat) : ab_A := fun s => match s.2.1 with
  | [.int x] => cond (decide (s.2.2.1.1 ≤ MC) && decide (s.2.2.1.2 ≤ MS) && decide ((x.toUInt32 % 65536).toInt32 = x)) (some (.inr (some (.int x), s.2.2.2))) none
  | _ => none
/-- a check of an index that is right: a static field's thing, a call, a pop -/
def ab_chk (MC MS : Nat) : ab_S → Option ab_S := fun s => match s.2.1 with
  | .int n :: .int i :: st => cond (!(decide (i < 0)) && decide (i < n) && decide (ab_cats st ≤ 8) && decide (s.2.2.1.1 ≤ MC) && decide (s.2.2.1.2 ≤ MS)) (some (s.1, st, s.2.2)) none
  | _ => none
section AB
variable {p : Program} {l : Launch} {e : Env} {R : Room} {s : State} {m : MethodId} {args : Array Value} {below : List Frame} {meth : Method} {c : Code} {Q : State → Prop}
variable {b : ab_B} {D : va_G} {cl : List vw_C} {cA : Nat → ClassId} {nL : Nat} {cc : ByteArray} {P : Nat → Nat} {pc j t : Nat} {o : ab_O} {E : State → Prop}
theorem ab_sgf_ok {i d : Nat} {v : Value} (hj : P j = pc + d) (row : ∀ (H : Heap) (locs : List Loc) (cells slots : Nat) (ls : Array Slot) (rest : List Value), va_S (fun q => b.1 ≤ q) s.heap H locs → W p l e R s m args below meth c H locs cells slots Q (F0 m (pc + d) ls (ab_v b v :: rest)) → W p l e R s m args below meth c H locs cells slots Q (F0 m pc ls (.ref (b.2 i) :: rest))) : ab_ok p l e R s m args below meth c Q b D cl cA nL o P pc (ab_nx j (ab_sgf i v)) := by
  refine ab_nx_ok (pc + d) hj fun σ σ' h k => ?_
  obtain ⟨lo, st, r⟩ := σ
  unfold ab_sgf at h
  dsimp only at h
  split at h
  · rename_i q st'
    obtain ⟨h1, rfl⟩ := ab_cond h
    have hq : q = i := by simpa using h1
    subst hq
    intro H locs ls hP hz hS hl
    exact row _ _ _ _ _ _ hS (k H locs ls hP hz hS hl)
  · cases h
theorem ab_lits_ok {v : Value} {d : Nat} (hj : P j = pc + d) (row : ∀ (H : Heap) (locs : List Loc) (cells slots : Nat) (ls : Array Slot) (rest : List Value), va_S (fun q => b.1 ≤ q) s.heap H locs → W p l e R s m args below meth c H locs cells slots Q (F0 m (pc + d) ls (ab_v b v :: rest)) → W p l e R s m args below meth c H locs cells slots Q (F0 m pc ls rest)) : ab_ok p l e R s m args below meth c Q b D cl cA nL o P pc (ab_nx j (ab_lit v)) := by
  refine ab_nx_ok (pc + d) hj fun σ σ' h k => ?_
  obtain rfl := Option.some.inj h
  intro H locs ls hP hz hS hl
  exact row _ _ _ _ _ _ hS (k H locs ls hP hz hS hl)
theorem ab_sbl_ok {i n : Nat} {f : Nat → Int32} (hj : P j = pc + 1) (row : ∀ (H : Heap) (locs : List Loc) (cells slots : Nat) (ls : Array Slot) (rest : List Value) (x : Int32), vp_in x n → va_S (fun q => b.1 ≤ q) s.heap H locs → W p l e R s m args below meth c H locs cells slots Q (F0 m (pc + 1) ls (.int (f x.toNatClampNeg) :: rest)) → W p l e R s m args below meth c H locs cells slots Q (F0 m pc ls (.int x :: .ref (b.2 i) :: rest))) : ab_ok p l e R s m args below meth c Q b D cl cA nL o P pc (ab_nx j (ab_sbl i n f)) := by
  refine ab_nx_ok (pc + 1) hj fun σ σ' h k => ?_
  obtain ⟨lo, st, r⟩ := σ
  unfold ab_sbl at h
  dsimp only at h
  split at h
  · rename_i x q st'
    obtain ⟨h1, rfl⟩ := ab_cond h
    rw [Bool.and_eq_true] at h1
    have hq : q = i := by simpa using h1.1
    subst hq
    intro H locs ls hP hz hS hl
    exact row _ _ _ _ _ _ x (ab_in_ok h1.2) hS (k H locs ls hP hz hS hl)
  · cases h
theorem ab_rcR_ok {i : Nat} {as : List Value} (h : ab_rcR i as = true) : ∃ As : List Value, as = .retAddr i :: As := by
  unfold ab_rcR at h
  split at h
  · rename_i k As
    have hk : k = i := by simpa using h
    exact ⟨As, by rw [hk]⟩
  · cases h
theorem ab_zretT_ok {ty : FieldType} {MC MS : Nat} (hx : p.tables.exec = Jvm.exec) (hb : c.code = cc) (hr : meth.sig.returnType = some ty) (h0 : narrow ty (.int 0) = .int 0) (h1' : narrow ty (.int 1) = .int 1) (hlocks : meth.locks = false) (hd : decode cc pc = .ok (.ireturn, 1)) : ab_ok p l e R s m args below meth c (MQ below (ab_Qx b D cl cA o) args s MC MS (fun q => b.1 ≤ q)) b D cl cA nL o P pc (ab_zret MC MS) := by
  intro σ
  obtain ⟨lo, st, u, hp⟩ := σ
  unfold ab_zret
  dsimp only
  refine ⟨fun j' σ' h1 h2 => ?_, fun h1 => ?_⟩
  · split at h1
    · obtain ⟨-, h1⟩ := ab_cond h1
      cases h1
    · cases h1
  · split at h1
    · rename_i x
      obtain ⟨h2, h1⟩ := ab_cond h1
      obtain rfl := Sum.inr.inj h1
      simp only [Bool.and_eq_true, Bool.or_eq_true, decide_eq_true_eq] at h2
      intro H locs ls hP hz hS hl
      refine W.widen h2.1.1 h2.1.2 ?_
      exact W.zret (v := x) hx hb hr (by rcases h2.2 with rfl | rfl; exact h0; exact h1') (fun t ht hW => ⟨⟨rfl, by rw [ht]; exact hz, by rw [ht]; exact hP⟩, hS.F ht⟩) hS.2.2 hd hlocks
    · cases h1
theorem ab_cret_ok {MC MS : Nat} (hx : p.tables.exec = Jvm.exec) (hb : c.code = cc) (hr : meth.sig.returnType = some .char) (hlocks : meth.locks = false) (hd : decode cc pc = .ok (.ireturn, 1)) : ab_ok p l e R s m args below meth c (MQ below (ab_Qx b D cl cA o) args s MC MS (fun q => b.1 ≤ q)) b D cl cA nL o P pc (ab_cret MC MS) := by
  intro σ
  obtain ⟨lo, st, u, hp⟩ := σ
  unfold ab_cret
  dsimp only
  refine ⟨fun j' σ' h1 h2 => ?_, fun h1 => ?_⟩
  · split at h1
    · obtain ⟨-, h1⟩ := ab_cond h1
      cases h1
    · cases h1
  · split at h1
    · rename_i x
      obtain ⟨h2, h1⟩ := ab_cond h1
      obtain rfl := Sum.inr.inj h1
      simp only [Bool.and_eq_true, decide_eq_true_eq] at h2
      intro H locs ls hP hz hS hl
      refine W.widen h2.1.1 h2.1.2 ?_
      exact W.zret (v := x) hx hb hr (by show Value.int (x.toUInt32 % 65536).toInt32 = .int x; rw [h2.2]) (fun t ht hW => ⟨⟨rfl, by rw [ht]; exact hz, by rw [ht]; exact hP⟩, hS.F ht⟩) hS.2.2 hd hlocks
    · cases h1
variable {nA mc ms MC MS maxL index : Nat} {X : List Value → ab_H → Option ab_O} {y : MethodName} {bytes : ByteArray} {ret : Option FieldType} {Ts ws ws' : List Cond} {rm : Room} {own : String}
theorem ab_callR_ok {C : String} {i n : Nat} (hx : p.tables.exec = Jvm.exec) (hb : c.code = cc) (hml : c.maxLocals = nL) (hts : ∀ w ∈ Ts, w.before args s = true) (hown : s.vm.findClass own = some m.cls) (hK : va_K D cl (ab_tys cA) s) (hR : R.cells = MC ∧ R.slots = MS) (hE : E s) (hEk : ab_Ek b E) (hEb : ab_Eb E)
    (hM : ab_M l b D cl cA E y ws rm X) (hm : rm.cells = mc ∧ rm.slots = ms) (hrc : ∀ (H : Heap) (locs : List Loc), va_S (fun q => b.1 ≤ q) s.heap H locs → ∃ cell : Cell, H[b.2 i]? = some cell ∧ cell.vm.isStatics = false ∧ s.vm.findClass C = some cell.cls) (hG : GoodIn Ts ws) (hw : ws = Cond.code y bytes maxL ret :: ws') (hlink : Cond.methodLink own index y ∈ Ts) (hinst : Cond.instanceMethod y ∈ Ts) (hsel : Cond.selects C y y ∈ Ts) (hini : Cond.initialized y.cls ∈ Ts)
    (hn : nA = n + 1) (hds : y.cls ≠ "java/lang/invoke/MethodHandle" ∧ y.cls ≠ "java/lang/invoke/VarHandle" ∧ (parseMethodDescriptor y.desc).map (fun d => d.parameters.length) = some n) (hrm : rm.frames + 1 ≤ R.frames ∧ 8 + (maxL + 11) + rm.locals ≤ R.locals)
    (hd : decode cc pc = .ok (.invokevirtual index, 3)) (hj : P j = pc + 3) : ab_ok p l e R s m args below meth c Q b D cl cA nL o P pc (ab_nx j (ab_callR nA i X mc ms MC MS)) := by
  have base : ∀ σ σ' : ab_S, ab_callR nA i X mc ms MC MS σ = some σ' → ab_W p l e R s m args below meth c Q b D cl cA nL (pc + 3) σ' → ab_W p l e R s m args below meth c Q b D cl cA nL pc σ := by
    intro σ σ' h kk
    unfold ab_callR at h
    obtain ⟨hr0, h⟩ := ab_condN h
    obtain ⟨lo, st, u, hp⟩ := σ
    unfold ab_call at h
    dsimp only at h hr0
    obtain ⟨h1, h⟩ := ab_condN h
    simp only [Bool.and_eq_true, decide_eq_true_eq] at h1
    obtain ⟨⟨⟨h1, h2⟩, h3⟩, h4⟩ := h1
    split at h
    · rename_i o2 hX
      obtain rfl := Option.some.inj h
      intro H locs ls hP hz hS hl
      obtain ⟨As, has⟩ := ab_rcR_ok hr0
      have hlen : As.length = n := by
        have h9 : ((st.take nA).reverse).length = nA := by rw [List.length_reverse, List.length_take]; omega
        rw [has] at h9
        simp at h9
        omega
      have hst := ab_split (b := b) has
      rw [has] at hX
      have hstk : st.map (ab_v b) = (As.map (ab_v b)).reverse ++ .ref (b.2 i) :: (st.drop nA).map (ab_v b) := by
        rw [hst]
        simp [ab_v]
      have hrun : va_Run p l e R s m args below meth c H locs u.1 u.2 mc ms (F0 m pc ls (st.map (ab_v b))) ((st.drop nA).map (ab_v b)) (ab_Qx b D cl cA o2 (Value.ref (b.2 i) :: As.map (ab_v b)).toArray) (fun q => b.1 ≤ q) := by
        have hM2 := hM _ hp o2 hX
        rw [hm.1, hm.2] at hM2
        refine va_runV (C := C) (b := b.2 i) (As := As.map (ab_v b)) (n := n) ⟨hx, hb, hml, hown, hts⟩ hM2 ⟨callB_of n hts hG hw hm.1 hm.2 (hts _ hini) (hts _ hlink) hds hrm, hts _ hinst, hts _ hsel⟩ ⟨ab_blind hEb _ _, hrc H locs hS, fun U hU hW => ⟨rfl, by rw [hU]; exact hz, by rw [hU]; exact hP, va_K.moved hW.alike hK, hEk s U hW (fun q h1 h2 => by rw [hU]; exact hS.2.1 q h1 h2) hE⟩⟩ rfl (by simpa using hlen) hl.1 hstk (lv_room (by rw [ab_cats_v]; exact h2)) hd (by rw [hR.1, hR.2]; exact ⟨h3, h4⟩)
      refine ab_callW (hp := hp) hrun hS fun H1 locs1 g1 g2 g3 => ?_
      have hk := kk H1 locs1 ls g1 g2 g3 hl
      have e1 : (o2.1.toList ++ st.drop nA).map (ab_v b) = (o2.1.map (ab_v b)).toList ++ (st.drop nA).map (ab_v b) := by
        rw [List.map_append]
        cases o2.1 <;> rfl
      rw [← e1]
      exact hk
    · cases h
  exact ab_nx_ok (pc + 3) hj base
theorem ab_chk_ok {i6 ig : Nat} {C n0 d0 : String} (hx : p.tables.exec = Jvm.exec) (hb : c.code = cc) (hml : c.maxLocals = nL) (hts : ∀ w ∈ Ts, w.before args s = true) (hown : s.vm.findClass own = some m.cls) (hK : va_K D cl (ab_tys cA) s) (hR : R.cells = MC ∧ R.slots = MS) (hE : E s) (hEk : ab_Ek b E) (hEb : ab_Eb E)
    (hM : ab_M l b D cl cA E y ws rm X) (hm : rm.cells = 0 ∧ rm.slots = 0) (hX : ∀ (i n : Int32) (w : Value) (hp : ab_H), (w = .null ∨ w = .retAddr i6) → ¬ i < 0 → i < n → X [.int i, .int n, w] hp = some (some (.int i), hp))
    (hZ : va_Z C n0 d0 .null (fun q => b.1 ≤ q) s s.heap ∨ va_Z C n0 d0 (.ref (b.2 i6)) (fun q => b.1 ≤ q) s s.heap) (hfl : Cond.fieldLink own ig C n0 d0 ∈ Ts)
    (hG : GoodIn Ts ws) (hw : ws = Cond.code y bytes maxL ret :: ws') (hlink : Cond.methodLink own index y ∈ Ts) (hstat : Cond.static y ∈ Ts) (hini : Cond.initialized y.cls ∈ Ts)
    (hds : y.cls ≠ "java/lang/invoke/MethodHandle" ∧ y.cls ≠ "java/lang/invoke/VarHandle" ∧ (parseMethodDescriptor y.desc).map (fun d => d.parameters.length) = some 3) (hrm : rm.frames + 1 ≤ R.frames ∧ 8 + (maxL + 11) + rm.locals ≤ R.locals)
    (hd1 : decode cc pc = .ok (.getstatic ig, 3)) (hd2 : decode cc (pc + 3) = .ok (.invokestatic index, 3)) (hd3 : decode cc (pc + 3 + 3) = .ok (.pop, 1)) (hj : P j = pc + 3 + 3 + 1) : ab_ok p l e R s m args below meth c Q b D cl cA nL o P pc (ab_nx j (ab_chk MC MS)) := by
  refine ab_nx_ok (pc + 3 + 3 + 1) hj fun σ σ' h kk => ?_
  obtain ⟨lo, st, u, hp⟩ := σ
  unfold ab_chk at h
  dsimp only at h
  split at h
  · rename_i n i st'
    obtain ⟨h1, rfl⟩ := ab_cond h
    simp only [Bool.and_eq_true, Bool.not_eq_true', decide_eq_false_iff_not, decide_eq_true_eq] at h1
    obtain ⟨⟨⟨⟨g1, g2⟩, g3⟩, g4⟩, g5⟩ := h1
    intro H locs ls hP hz hS hl
    have core : ∀ w : Value, (w = .null ∨ w = .retAddr i6) → W p l e R s m args below meth c H locs u.1 u.2 Q (F0 m (pc + 3) ls (ab_v b w :: .int n :: .int i :: st'.map (ab_v b))) := by
      intro w hw'
      have hM2 := hM _ hp _ (hX i n w hp hw' g1 g2)
      rw [hm.1, hm.2] at hM2
      have hr : va_Run p l e R s m args below meth c H locs u.1 u.2 0 0 (F0 m (pc + 3) ls (ab_v b w :: .int n :: .int i :: st'.map (ab_v b))) (st'.map (ab_v b)) (ab_Qx b D cl cA (some (.int i), hp) (([.int i, .int n, w] : List Value).map (ab_v b)).toArray) (fun q => b.1 ≤ q) :=
        va_runS (As := ([.int i, .int n, w] : List Value).map (ab_v b)) (n := 3) ⟨hx, hb, hml, hown, hts⟩ hM2 ⟨callB_of 3 hts hG hw hm.1 hm.2 (hts _ hini) (hts _ hlink) hds hrm, hts _ hstat⟩ ⟨ab_blind hEb _ _, fun U hU hW => ⟨rfl, by rw [hU]; exact hz, by rw [hU]; exact hP, va_K.moved hW.alike hK, hEk s U hW (fun q h1 h2 => by rw [hU]; exact hS.2.1 q h1 h2) hE⟩⟩ rfl rfl hl.1 rfl (lv_room (by rw [ab_cats_v]; exact g3)) hd2 (by rw [hR.1, hR.2]; exact ⟨g4, g5⟩)
      refine ab_callW (hp := hp) hr hS fun H1 locs1 k1 k2 k3 => ?_
      exact lv_pop hx hb hd3 rfl (kk H1 locs1 ls k1 k2 k3 hl)
    rcases hZ with hZ | hZ
    · exact va_gets hx hb hZ hS hown (hts _ hfl) (fun _ h => h) hd1 (core .null (Or.inl rfl))
    · exact va_gets hx hb hZ hS hown (hts _ hfl) (fun _ h => h) hd1 (core (.retAddr i6) (Or.inr rfl))
  · cases h
end AB
