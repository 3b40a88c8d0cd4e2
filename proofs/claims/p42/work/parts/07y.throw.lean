/-! ===== a method that may throw, and one that catches ===== -/

/-- where the steps answer '.retAddr 99' the method has thrown; one cell more is there then -/
def ab_Qy (b : ab_B) (D : va_G) (cl : List vw_C) (cA : Nat → ClassId) (o : ab_O) : Array Value → State → Outcome → State → Prop := fun a st oc t => ab_Qx b D cl cA o a st oc t ∧ o.1 ≠ some (.retAddr 99)
def ab_Xc (b : ab_B) (D : va_G) (cl : List vw_C) (cA : Nat → ClassId) (o : ab_O) : String → State → State → Prop := fun E st t => E = ab_NS ∧ o.1 = some (.retAddr 99) ∧ t.heap.size = b.1 + (o.2.1 + 1) ∧ va_P D cl (ab_w b cA (ab_push o.2 (.inr (12, [])))) t.heap ∧ va_F (fun q => b.1 ≤ q) st t
def ab_thr : ab_A := fun s => match s.2.1 with
  | [] => cond (decide (s.2.2.1.1 = 0) && decide (s.2.2.1.2 = 0)) (some (.inr (some (.retAddr 99), s.2.2.2))) none
  | _ => none
/-- a call that may throw; thrown, it is caught at once and put into the local i, of which nothing is known then -/
def ab_callX (j hj i nA ci : Nat) (X : List Value → ab_H → Option ab_O) (mc ms MC MS : Nat) : ab_A := fun s =>
  cond (ab_rcv ci (s.2.1.take nA).reverse s.2.2.2 && decide (nA ≤ s.2.1.length) && decide (ab_cats (s.2.1.drop nA) ≤ 8) && decide (s.2.2.1.1 + mc ≤ MC) && decide (s.2.2.1.2 + ms ≤ MS) && ab_fr s.1 i)
    (match X (s.2.1.take nA).reverse s.2.2.2 with
    | none => none
    | some o => cond (decide (o.1 = some (.retAddr 99))) (some (.inl (hj, s.1.set i none, [], (s.2.2.1.1 + mc, s.2.2.1.2 + ms), ab_push o.2 (.inr (12, [])))))
        (some (.inl (j, s.1, o.1.toList ++ s.2.1.drop nA, (s.2.2.1.1 + mc, s.2.2.1.2 + ms), o.2)))) none
theorem ab_st0 {b : ab_B} {ls : Array Slot} {nL : Nat} {lo : List (Option Value)} {i : Nat} {w : Value} (hf : ab_fr lo i = true)
    (h : lv_has ls nL ((i, w) :: (ab_lp b 0 lo).filter (fun q => !(q.1 == i) && !(q.1 + 1 == i && q.2.category == 2)))) : lv_has ls nL (ab_lp b 0 (lo.set i none)) := by
  refine ⟨h.1, h.2.1, fun q hq => h.2.2 q ?_⟩
  obtain ⟨k, v, h1, rfl⟩ := (ab_lp_mem _ 0 q).mp hq
  rw [List.getElem?_set] at h1
  by_cases hk : i = k
  · subst hk
    rw [if_pos rfl] at h1
    split at h1 <;> cases h1
  · rw [if_neg hk] at h1
    refine List.mem_cons_of_mem _ (List.mem_filter.mpr ⟨(ab_lp_mem lo 0 _).mpr ⟨k, v, h1, rfl⟩, ?_⟩)
    have e1 : (0 + k == i) = false := by simp; omega
    have e2 : ((0 + k + 1 == i) && ((ab_v b v).category == 2)) = false := by
      rw [ab_vcat]
      by_cases hc : v.category = 2
      · have : ¬ (0 + k + 1 = i) := by
          intro he
          subst he
          rw [show 0 + k + 1 = k + 1 by omega] at hf
          simp only [ab_fr, h1] at hf
          rcases ab_cat2 hc with ⟨x, rfl⟩ | ⟨x, rfl⟩ <;> simp at hf
        have e3 : (0 + k + 1 == i) = false := by simpa using this
        rw [e3]; rfl
      · have e3 : (v.category == 2) = false := by simpa using hc
        rw [e3, Bool.and_false]
    show ((!(0 + k == i)) && !((0 + k + 1 == i) && ((ab_v b v).category == 2))) = true
    rw [e1, e2]; rfl
section AB
variable {p : Program} {l : Launch} {e : Env} {R : Room} {s : State} {m : MethodId} {args : Array Value} {below : List Frame} {meth : Method} {c : Code} {Q : State → Prop}
variable {b : ab_B} {D : va_G} {cl : List vw_C} {cA : Nat → ClassId} {nL : Nat} {cc : ByteArray} {P : Nat → Nat} {pc j t : Nat} {o : ab_O} {E : State → Prop}
variable {nA mc ms MC MS maxL index : Nat} {X : List Value → ab_H → Option ab_O} {y : MethodName} {bytes : ByteArray} {ret : Option FieldType} {Ts ws ws' : List Cond} {rm : Room} {own : String}
theorem ab_retx_ok (hx : p.tables.exec = Jvm.exec) (hb : c.code = cc) (hr : meth.sig.returnType = some .int) (hlocks : meth.locks = false) (hd : decode cc pc = .ok (.ireturn, 1)) : ab_ok p l e R s m args below meth c (vx_MQ below (ab_Qy b D cl cA o) (ab_Xc b D cl cA o) args s MC MS (fun q => b.1 ≤ q)) b D cl cA nL o P pc (ab_ret MC MS) := by
  intro σ
  obtain ⟨lo, st, u, hp⟩ := σ
  unfold ab_ret
  dsimp only
  refine ⟨fun j' σ' h1 h2 => ?_, fun h1 => ?_⟩
  · split at h1
    · obtain ⟨-, h1⟩ := ab_cond h1
      cases h1
    · cases h1
  · split at h1
    · rename_i x
      obtain ⟨h2, h1⟩ := ab_cond h1
      obtain rfl := Sum.inr.inj h1
      simp only [Bool.and_eq_true, decide_eq_true_eq] at h2
      intro H locs ls hP hz hS hl
      refine W.widen h2.1 h2.2 (vx_ret ?_)
      exact W.iret (v := x) hx hb hr (fun t ht hW => ⟨⟨⟨rfl, by rw [ht]; exact hz, by rw [ht]; exact hP⟩, hS.F ht⟩, fun h => by cases h⟩) hS.2.2 hd hlocks
    · cases h1
theorem ab_thr_ok {T : u_T} {text : String} {ik is ic : Nat} (hx : p.tables.exec = Jvm.exec) (hb : c.code = cc) (hml : c.maxLocals = nL) (hlocks : meth.locks = false) (htr : l.stackTraces = false) (hown : s.vm.findClass own = some m.cls) (hK : va_K D cl (ab_tys cA) s) (hc12 : cl[12]? = some (ab_NS, T, 0))
    (hk : (Cond.classLink own ik ab_NS).before args s = true) (hini : (Cond.initialized ab_NS).before args s = true) (hstr : vk_R own is text (b.2 t) s) (hat : ∀ w ∈ ab_at own ic, w.before args s = true)
    (hgood : ∀ w ∈ Cond.classLink own ik ab_NS :: Cond.initialized ab_NS :: ab_at own ic, vx_ot w = true)
    (hU : vx_Zq Bundle.tN "UNASSIGNED_STACK" Bundle.steD (fun q => b.1 ≤ q) s s.heap) (hN : vx_Zq Bundle.tN "SUPPRESSED_SENTINEL" Bundle.listD (fun q => b.1 ≤ q) s s.heap)
    (d0 : decode cc pc = .ok (.new ik, 3)) (d3 : decode cc (pc + 3) = .ok (.dup, 1)) (d4 : decode cc (pc + 4) = .ok (.ldc is, 2)) (d6 : decode cc (pc + 6) = .ok (.invokespecial ic, 3)) (d9 : decode cc (pc + 9) = .ok (.athrow, 1))
    (hout : ∀ x ∈ c.exceptionTable.toList, False) (hR : 5 < R.frames ∧ 82 ≤ R.locals ∧ 1 ≤ R.cells ∧ 6 ≤ R.slots) (hM : 1 ≤ MC ∧ 6 ≤ MS) : ab_ok p l e R s m args below meth c (vx_MQ below (ab_Qy b D cl cA o) (ab_Xc b D cl cA o) args s MC MS (fun q => b.1 ≤ q)) b D cl cA nL o P pc ab_thr := by
  intro σ
  obtain ⟨lo, st, u, hp⟩ := σ
  unfold ab_thr
  dsimp only
  refine ⟨fun j' σ' h1 h2 => ?_, fun h1 => ?_⟩
  · split at h1
    · obtain ⟨-, h1⟩ := ab_cond h1
      cases h1
    · cases h1
  · split at h1
    · obtain ⟨h2, h1⟩ := ab_cond h1
      obtain rfl := Sum.inr.inj h1
      simp only [Bool.and_eq_true, decide_eq_true_eq] at h2
      obtain ⟨u1, u2⟩ := u
      obtain ⟨rfl, rfl⟩ := h2
      intro H locs ls hP hz hS hl
      have hKn := (hK.1 12 _ hc12).2
      refine ab_throwS hx hb htr hown hk hini hstr hat hgood hU hN hS (by rw [hml]; exact hl.1) d0 d3 d4 d6 d9 (fun x hx => (hout x hx).elim) hR.1 (by show 0 + _ ≤ _; have := hR.2.1; omega) (by have := hR.2.2.1; omega) (by have := hR.2.2.2; omega) hlocks ?_ hS.2.2 (by have := hM.1; omega) (by have := hM.2; omega)
      intro t ce _ hsz hold hce hcv hcl
      have hcls : ce.cls = D.1 12 := Option.some.inj (hcl.symm.trans hKn.1)
      obtain ⟨a1, a2, a3⟩ := ab_pushed (s := s) (x := .inr (12, [])) (H1 := t.heap) hP hz hS rfl ⟨_, hc12, ⟨ce, by show t.heap[b.1 + hp.1]? = _; rw [← hz]; exact hce, hcls, hcv, fun k hk => by cases hk⟩⟩ hsz hold
      exact ⟨rfl, rfl, a2, a1, ⟨a3.1, a3.2.1⟩⟩
    · cases h1
theorem ab_callX_ok {C : String} {T : u_T} {N ci n i hj : Nat} {x : ExceptionTableEntry} (hx : p.tables.exec = Jvm.exec) (hb : c.code = cc) (hml : c.maxLocals = nL) (hts : ∀ w ∈ Ts, w.before args s = true) (hown : s.vm.findClass own = some m.cls) (hK : va_K D cl (ab_tys cA) s) (hR : R.cells = MC ∧ R.slots = MS) (hE : E s) (hEk : ab_Ek b E) (hEb : ab_Eb E)
    (hM : ∀ (as : List Value) (hp : ab_H) (o : ab_O), X as hp = some o → vx_Met l y ws rm (ab_Px b D cl cA E as hp) (ab_Qy b D cl cA o) (ab_Xc b D cl cA o) rm.cells rm.slots (fun q => b.1 ≤ q)) (hm : rm.cells = mc ∧ rm.slots = ms) (hc : cl[ci]? = some (C, T, N)) (hG : GoodIn Ts ws) (hw : ws = Cond.code y bytes maxL ret :: ws') (hlink : Cond.methodLink own index y ∈ Ts) (hinst : Cond.instanceMethod y ∈ Ts) (hsel : Cond.selects C y y ∈ Ts) (hini : Cond.initialized y.cls ∈ Ts)
    (hn : nA = n + 1) (hds : y.cls ≠ "java/lang/invoke/MethodHandle" ∧ y.cls ≠ "java/lang/invoke/VarHandle" ∧ (parseMethodDescriptor y.desc).map (fun d => d.parameters.length) = some n) (hrm : rm.frames + 1 ≤ R.frames ∧ 8 + (maxL + 11) + rm.locals ≤ R.locals)
    (htab : c.exceptionTable.toList = [x]) (hcov : covers x pc = true) (h0 : x.catchType ≠ 0) (hcl : (Cond.classLink own x.catchType ab_NS).before args s = true) (hcast : (Cond.castable ab_NS ab_NS).before args s = true) (hi : i < nL) (hd2 : decode cc x.handlerPc = .ok (.astore i, 2)) (hhj : P hj = x.handlerPc + 2)
    (hd : decode cc pc = .ok (.invokevirtual index, 3)) (hjj : P j = pc + 3) : ab_ok p l e R s m args below meth c Q b D cl cA nL o P pc (ab_callX j hj i nA ci X mc ms MC MS) := by
  intro σ
  obtain ⟨lo, st, u, hp⟩ := σ
  unfold ab_callX
  dsimp only
  refine ⟨fun j' σ' h kk => ?_, fun h => ?_⟩
  · obtain ⟨h1, h⟩ := ab_condN h
    simp only [Bool.and_eq_true, decide_eq_true_eq] at h1
    obtain ⟨⟨⟨⟨⟨hr0, h1⟩, h2⟩, h3⟩, h4⟩, hfr⟩ := h1
    split at h
    · cases h
    · rename_i o2 hX
      intro H locs ls hP hz hS hl
      obtain ⟨a, As, fs, has, ha, hq⟩ := ab_rcv_ok hr0
      have hlen : As.length = n := by
        have h9 : ((st.take nA).reverse).length = nA := by rw [List.length_reverse, List.length_take]; omega
        rw [has] at h9
        simp at h9
        omega
      have hst := ab_split (b := b) has
      rw [has] at hX
      have hstk : st.map (ab_v b) = (As.map (ab_v b)).reverse ++ .ref (b.1 + a) :: (st.drop nA).map (ab_v b) := by
        rw [hst]
        simp [ab_v]
      have he : (ab_w b cA hp)[a]? = some (b.1 + a, .inr (ci, fs.map (ab_v b))) := by rw [ab_w_at ha, hq]; rfl
      have hrun : vx_Run p l e R s m args below meth c H locs u.1 u.2 mc ms (F0 m pc ls (st.map (ab_v b))) ((st.drop nA).map (ab_v b)) (ab_Qy b D cl cA o2 (Value.ref (b.1 + a) :: As.map (ab_v b)).toArray) (ab_Xc b D cl cA o2) (fun q => b.1 ≤ q) := by
        have hM2 := hM _ hp o2 hX
        rw [hm.1, hm.2] at hM2
        exact vx_runV (C := C) (b := b.1 + a) (As := As.map (ab_v b)) (n := n) ⟨hx, hb, hml, hown, hts⟩ hM2 ⟨callB_of n hts hG hw hm.1 hm.2 (hts _ hini) (hts _ hlink) hds hrm, hts _ hinst, hts _ hsel⟩ ⟨ab_blind hEb _ _, va_recv hK hP hc he, fun U hU hW => ⟨rfl, by rw [hU]; exact hz, by rw [hU]; exact hP, va_K.moved hW.alike hK, hEk s U hW (fun q h1 h2 => by rw [hU]; exact hS.2.1 q h1 h2) hE⟩⟩ rfl (by simpa using hlen) hl.1 hstk (lv_room (by rw [ab_cats_v]; exact h2)) hd (by rw [hR.1, hR.2]; exact ⟨h3, h4⟩)
      intro TT hT XX
      rcases hrun TT hT XX with ⟨v, st₀, t', T', L, g0, X', hL, e1, e2, ⟨⟨⟨hv, hz1, hP1⟩, hF⟩, hne⟩, stp⟩ | ⟨q, st₀, t', T', L, E', ce, g0, X', hL, e1, e2, ⟨rfl, hth, hz1, hP1, hF⟩, hce, hcv, hcl2, stp⟩
      · rw [decide_eq_false hne] at h
        have h' := Option.some.inj h
        simp only [cond_false, Sum.inl.injEq, Prod.mk.injEq] at h'
        obtain ⟨rfl, rfl⟩ := h'
        cases hv
        rw [hjj] at kk
        have hk := kk T'.heap (locs ++ L) ls (by rw [e1]; exact hP1) (by rw [e1]; exact hz1) ⟨Nat.le_trans hS.1 (by rw [e1]; have := hF.1; rw [g0] at this; exact this), fun q h1 h2 => by
            have := hF.2 q (by rw [g0]; exact Nat.lt_of_lt_of_le h1 hS.1) h2
            rw [e1, this, g0]; exact hS.2.1 q h1 h2, fun q hq => by
            rcases List.mem_append.mp hq with h | h
            · exact hS.2.2 q h
            · exact hL q h⟩ hl
        have e3 : (o2.1.toList ++ st.drop nA).map (ab_v b) = (o2.1.map (ab_v b)).toList ++ (st.drop nA).map (ab_v b) := by
          rw [List.map_append]
          cases o2.1 <;> rfl
        simp only [e3] at hk
        obtain ⟨t2, a1, b1⟩ := hk T' rfl X'
        exact ⟨t2, stp t2 a1, b1⟩
      · rw [decide_eq_true hth] at h
        have h' := Option.some.inj h
        simp only [cond_true, Sum.inl.injEq, Prod.mk.injEq] at h'
        obtain ⟨rfl, rfl⟩ := h'
        rw [hhj] at kk
        have hW : vx_W p l e R s m args below meth c T'.heap (locs ++ L) (u.1 + mc) (u.2 + ms) Q (F0 m pc ls ((st.drop nA).map (ab_v b))) q := by
          refine ab_caught hown htab hcov h0 hcl hcast (by rw [e1]; exact hce) hcv hcl2 ?_
          refine lv_astore hx hb hd2 hl hi rfl fun ls' hl' => ?_
          exact kk T'.heap (locs ++ L) ls' (by rw [e1]; exact hP1) (by rw [e1]; exact hz1) ⟨Nat.le_trans hS.1 (by rw [e1]; have := hF.1; rw [g0] at this; exact this), fun q h1 h2 => by
            have := hF.2 q (by rw [g0]; exact Nat.lt_of_lt_of_le h1 hS.1) h2
            rw [e1, this, g0]; exact hS.2.1 q h1 h2, fun q hq => by
            rcases List.mem_append.mp hq with h | h
            · exact hS.2.2 q h
            · exact hL q h⟩ (ab_st0 hfr hl')
        obtain ⟨t2, a1, b1⟩ := hW T' rfl X'
        exact ⟨t2, stp.trans a1, b1⟩
  · obtain ⟨-, h⟩ := ab_condN h
    split at h
    · cases h
    · rename_i o2 hX
      cases hd9 : decide (o2.1 = some (.retAddr 99)) <;> rw [hd9] at h <;> cases h
end AB
theorem ab_methx {l : Launch} {b : ab_B} {D : va_G} {cl : List vw_C} {cA : Nat → ClassId} {E : State → Prop} {y : MethodName} {ws ws' : List Cond} {rm : Room} {cc : ByteArray} {nL : Nat} {ret : Option FieldType} (L : List (Nat × ab_A)) (hy : plainName y.cls = true) (hw : ws = Cond.code y cc nL ret :: ws')
    (hT : ∀ (p : Program) (e : Env) (R : Room) (s : State) (m : MethodId) (args : Array Value) (below : List Frame) (meth : Method) (c : Code) (o : ab_O), ab_cx p l e R s m args below meth c D cl cA E y cc nL ret ws rm → (∀ x ∈ c.exceptionTable.toList, False) → ∀ q ∈ L, ab_ok p l e R s m args below meth c (vx_MQ below (ab_Qy b D cl cA o) (ab_Xc b D cl cA o) args s rm.cells rm.slots (fun q => b.1 ≤ q)) b D cl cA nL o (fun i => i) q.1 q.2) :
    ∀ (as : List Value) (hp : ab_H) (o : ab_O), ab_X (ab_T L) nL as hp = some o → vx_Met l y ws rm (ab_Px b D cl cA E as hp) (ab_Qy b D cl cA o) (ab_Xc b D cl cA o) rm.cells rm.slots (fun q => b.1 ≤ q) := by
  intro as hp o hX
  obtain ⟨hlen, f, hrun⟩ := ab_X_run hX
  refine vx_ofW (cc := cc) (maxL := nL) (ret := ret) hy hw ?_
  intro p e s m args below meth c s₁ B hml htab hv
  obtain ⟨rfl, hz, hPw, hK, hE⟩ := hv
  have C : ab_cx p l e (headSpec ws rm).room s m (as.map (ab_v b)).toArray below meth c D cl cA E y cc nL ret ws rm := ⟨B.exec, B.bytes, hml, B.returns, B.notSynchronized, atoms_spec (ws := ws) B.pre, findClass_of_methodNamed B.named, hK, hE, (name_of_methodNamed B.named B.method).1, rfl⟩
  have hl := lv_entry (as.map (ab_v b)) (n := nL) (by rw [ab_ent_len]; exact hlen)
  rw [lg_entry_eq]
  generalize (lg_sl (as.map (ab_v b)) ++ List.replicate (nL - (lg_sl (as.map (ab_v b))).length) Slot.unset).toArray = ls at hl ⊢
  have hW := ab_run_ok (p := p) (l := l) (e := e) (R := (headSpec ws rm).room) (s := s) (m := m) (args := (as.map (ab_v b)).toArray) (below := below) (meth := meth) (c := c) (Q := vx_MQ below (ab_Qy b D cl cA o) (ab_Xc b D cl cA o) (as.map (ab_v b)).toArray s rm.cells rm.slots (fun q => b.1 ≤ q)) (b := b) (D := D) (cl := cl) (cA := cA) (nL := nL) (P := fun i => i) (o := o) (T := ab_T L) (fun i a ha => hT p e _ s m _ below meth c o C htab (i, a) (ab_T_mem L i a ha)) f 0 _ hrun
  exact hW s.heap [] ls hPw hz va_S.rf (ab_en_has hl)
theorem ab_methW {l : Launch} {b : ab_B} {D : va_G} {cl : List vw_C} {cA : Nat → ClassId} {E : State → Prop} {y : MethodName} {ws ws' : List Cond} {rm : Room} {cc : ByteArray} {nL : Nat} {ret : Option FieldType} {hh : List (Nat × Nat × Nat × Nat)} (L : List (Nat × ab_A)) (hy : plainName y.cls = true) (hw : ws = Cond.codeWith y cc nL ret hh :: ws')
    (hT : ∀ (p : Program) (e : Env) (R : Room) (s : State) (m : MethodId) (args : Array Value) (below : List Frame) (meth : Method) (c : Code) (o : ab_O), ab_cx p l e R s m args below meth c D cl cA E y cc nL ret ws rm → c.exceptionTable.toList = tableOf hh → ∀ q ∈ L, ab_ok p l e R s m args below meth c (MQ below (ab_Qx b D cl cA o) args s rm.cells rm.slots (fun q => b.1 ≤ q)) b D cl cA nL o (fun i => i) q.1 q.2) :
    ab_M l b D cl cA E y ws rm (ab_X (ab_T L) nL) := by
  intro as hp o hX
  obtain ⟨hlen, f, hrun⟩ := ab_X_run hX
  refine va_MetW (cc := cc) (maxL := nL) (ret := ret) hy hw ?_
  intro p e s m args below meth c s₁ B hml hv
  obtain ⟨rfl, hz, hPw, hK, hE⟩ := hv
  have hts := atoms_spec (ws := ws) B.pre
  have htab : c.exceptionTable.toList = tableOf hh := vx_table (l := l) (x := y) B (hts _ (by rw [hw]; exact List.mem_cons_self))
  have C : ab_cx p l e (headSpec ws rm).room s m (as.map (ab_v b)).toArray below meth c D cl cA E y cc nL ret ws rm := ⟨B.exec, B.bytes, hml, B.returns, B.notSynchronized, hts, findClass_of_methodNamed B.named, hK, hE, (name_of_methodNamed B.named B.method).1, rfl⟩
  have hl := lv_entry (as.map (ab_v b)) (n := nL) (by rw [ab_ent_len]; exact hlen)
  rw [lg_entry_eq]
  generalize (lg_sl (as.map (ab_v b)) ++ List.replicate (nL - (lg_sl (as.map (ab_v b))).length) Slot.unset).toArray = ls at hl ⊢
  have hW := ab_run_ok (p := p) (l := l) (e := e) (R := (headSpec ws rm).room) (s := s) (m := m) (args := (as.map (ab_v b)).toArray) (below := below) (meth := meth) (c := c) (Q := MQ below (ab_Qx b D cl cA o) (as.map (ab_v b)).toArray s rm.cells rm.slots (fun q => b.1 ≤ q)) (b := b) (D := D) (cl := cl) (cA := cA) (nL := nL) (P := fun i => i) (o := o) (T := ab_T L) (fun i a ha => hT p e _ s m _ below meth c o C htab (i, a) (ab_T_mem L i a ha)) f 0 _ hrun
  exact hW s.heap [] ls hPw hz va_S.rf (ab_en_has hl)
