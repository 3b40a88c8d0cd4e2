/-! ===== arrays of references, new cells, calls, returns ===== -/
section AB
variable {p : Program} {l : Launch} {e : Env} {R : Room} {s : State} {m : MethodId} {args : Array Value} {below : List Frame} {meth : Method} {c : Code} {Q : State → Prop}
variable {b : ab_B} {D : va_G} {cl : List vw_C} {cA : Nat → ClassId} {nL : Nat} {cc : ByteArray} {P : Nat → Nat} {pc j t : Nat} {o : ab_O}
theorem ab_aast_ok {t0 ci : Nat} {r : vw_C} (hx : p.tables.exec = Jvm.exec) (hb : c.code = cc) (hK : va_K D cl (ab_tys cA) s) (ht : (ab_tys cA)[t0]? = some (cA t0, .object r.1)) (hc : cl[ci]? = some r) (hd : decode cc pc = .ok (.aastore, 1)) (hj : P j = pc + 1) : ab_ok p l e R s m args below meth c Q b D cl cA nL o P pc (ab_nx j (ab_aast t0 ci)) := by
  refine ab_nx_ok (pc + 1) hj fun σ σ' h kk => ?_
  obtain ⟨lo, st, u, hp⟩ := σ
  unfold ab_aast at h
  dsimp only at h
  split at h
  · rename_i v i a st'
    obtain ⟨h1, h⟩ := ab_condN h
    rw [Bool.and_eq_true] at h1
    have ha := of_decide_eq_true h1.1
    have hv := of_decide_eq_true h1.2
    split at h
    · rename_i t2 n f hq
      obtain ⟨h2, rfl⟩ := ab_cond h
      rw [Bool.and_eq_true, Bool.and_eq_true] at h2
      obtain ⟨⟨h2, hi2⟩, h3⟩ := h2
      have ht2 : t2 = t0 := by simpa using h2
      subst ht2
      have hin := ab_in_ok hi2
      split at h3
      · rename_i q hqv
        have hci : q.1 = ci := by simpa using h3
        intro H locs ls hP hz hS hl
        have he : (ab_w b cA hp)[a]? = some (b.1 + a, .inl (cA t2, n, .inr (.inr (.inr (.inr (fun j => (f j).map (fun k => b.1 + k))))))) := by rw [ab_w_at ha, hq]; rfl
        have hev : (ab_w b cA hp)[v]? = some (b.1 + v, .inr (ci, q.2.map (ab_v b))) := by rw [ab_w_at hv, hqv, ← hci]; rfl
        have hlt : i.toNatClampNeg < n := Nat.not_le.mp fun q => hin (Or.inr q)
        have h0 : ¬ i < 0 := fun q => hin (Or.inl q)
        obtain ⟨r', hr', cellV, g1, g2, g3, -⟩ := hP v _ hev
        have hcls := (hK.1 ci r hc).2
        obtain ⟨kA, comp, k1, k2, k3, -⟩ := (hK.2 t2 _ ht).2
        have hcomp : comp = D.1 ci := Option.some.inj (k3.symm.trans hcls.1)
        subst hcomp
        obtain ⟨kC, hkC, -⟩ := hcls.2
        refine W.aast hx hb (hP a _ he) (fun q h => by cases h) (fun h => by cases h) k1 k2 rfl hkC ⟨h0, by show _ < (arrV _ _ _).slots.size; rw [arrV_size]; exact hlt⟩ g1 (fun q h => by rw [g3] at h; cases h) (by rw [g2]; exact hkC) (by rw [g2]; exact va_assign hcls) rfl rfl hd fun H1 e z oq => ?_
        have y1 : va_at D cl (b.1 + a, .inl (cA t2, n, .inr (.inr (.inr (.inr (fun j => (va_up f i.toNatClampNeg (some v) j).map (fun k => b.1 + k))))))) H1 := by
          show H1[b.1 + a]? = some (vp_cell _ _)
          rw [e, vp_cell_q, vp_cell_q, arrV_store]
          congr 2
          funext q
          by_cases hq : q = i.toNatClampNeg
          · subst hq
            simp [updV, va_up, va_rf]
          · simp [updV, va_up, hq]
        obtain ⟨a1, a2, a3⟩ := ab_set (s := s) (x := .inl (t2, n, .inr (.inr (.inr (.inr (va_up f i.toNatClampNeg (some v))))))) (i := i.toNatClampNeg) hP hz hS ha rfl y1 z oq
        exact kk H1 _ ls a1 a2 a3 hl
      · cases h3
    · cases h
  · rename_i i a st'
    obtain ⟨h1, h⟩ := ab_condN h
    have ha := of_decide_eq_true h1
    split at h
    · rename_i t2 n f hq
      obtain ⟨h2, rfl⟩ := ab_cond h
      rw [Bool.and_eq_true] at h2
      have ht2 : t2 = t0 := by simpa using h2.1
      subst ht2
      have hin := ab_in_ok h2.2
      intro H locs ls hP hz hS hl
      have he : (ab_w b cA hp)[a]? = some (b.1 + a, .inl (cA t2, n, .inr (.inr (.inr (.inr (fun j => (f j).map (fun k => b.1 + k))))))) := by rw [ab_w_at ha, hq]; rfl
      refine va_WaastN (C := r.1) hx hb (hP a _ he) ((hK.2 t2 _ ht).1 n (fun j => va_rf ((f j).map (fun k => b.1 + k)))) (fun h => by cases h) (by show ¬ (i < 0 ∨ (arrV _ _ _).slots.size ≤ _); rw [arrV_size]; exact hin) rfl rfl hd fun H1 e z oq => ?_
      have y1 : va_at D cl (b.1 + a, .inl (cA t2, n, .inr (.inr (.inr (.inr (fun j => (va_up f i.toNatClampNeg none j).map (fun k => b.1 + k))))))) H1 := by
        show H1[b.1 + a]? = some (vp_cell _ _)
        rw [e, vp_cell_q, vp_cell_q, arrV_store]
        congr 2
        funext q
        by_cases hq : q = i.toNatClampNeg
        · subst hq
          simp [updV, va_up, va_rf]
        · simp [updV, va_up, hq]
      obtain ⟨a1, a2, a3⟩ := ab_set (s := s) (x := .inl (t2, n, .inr (.inr (.inr (.inr (va_up f i.toNatClampNeg none)))))) (i := i.toNatClampNeg) hP hz hS ha rfl y1 z oq
      exact kk H1 _ ls a1 a2 a3 hl
    · cases h
  · cases h
theorem ab_alen_ok (hx : p.tables.exec = Jvm.exec) (hb : c.code = cc) (hK : va_K D cl (ab_tys cA) s) (hd : decode cc pc = .ok (.arraylength, 1)) (hj : P j = pc + 1) : ab_ok p l e R s m args below meth c Q b D cl cA nL o P pc (ab_nx j ab_alen) := by
  refine ab_nx_ok (pc + 1) hj fun σ σ' h kk => ?_
  obtain ⟨lo, st, u, hp⟩ := σ
  unfold ab_alen at h
  dsimp only at h
  split at h
  · rename_i a st'
    obtain ⟨h1, h⟩ := ab_condN h
    have ha := of_decide_eq_true h1
    split at h
    · rename_i x hq
      obtain ⟨h2, rfl⟩ := ab_cond h
      have ht := of_decide_eq_true h2
      intro H locs ls hP hz hS hl
      have he : (ab_w b cA hp)[a]? = some (b.1 + a, .inl (cA x.1, ab_a b x.2)) := by rw [ab_w_at ha, hq]; rfl
      have hty : ∃ ty, (ab_tys cA)[x.1]? = some (cA x.1, ty) := by
        rcases (show x.1 = 0 ∨ x.1 = 1 ∨ x.1 = 2 ∨ x.1 = 3 ∨ x.1 = 4 ∨ x.1 = 5 by omega) with h | h | h | h | h | h <;> rw [h] <;> exact ⟨_, rfl⟩
      obtain ⟨ty, hty⟩ := hty
      have hn : Int32.ofNat (ab_a b x.2).1 = Int32.ofNat x.2.1 := by
        unfold ab_a
        split <;> rfl
      exact va_alen hx hb hK hP a x.1 he hty hn hd (kk H locs ls hP hz hS hl)
    · cases h
  · cases h
theorem ab_pushed {hp : ab_H} {x : ab_E} {y : va_E} {H H1 : Heap} {locs : List Loc} (hP : va_P D cl (ab_w b cA hp) H) (hz : H.size = b.1 + hp.1) (hS : va_S (fun q => b.1 ≤ q) s.heap H locs) (hy : ab_e b cA x = y)
    (he : va_at D cl (b.1 + hp.1, y) H1) (z : H1.size = H.size + 1) (oq : ∀ q : Nat, q < H.size → H1[q]? = H[q]?) : va_P D cl (ab_w b cA (ab_push hp x)) H1 ∧ H1.size = b.1 + (ab_push hp x).1 ∧ va_S (fun q => b.1 ≤ q) s.heap H1 locs := by
  refine ⟨?_, by rw [z, hz]; rfl, ⟨Nat.le_trans hS.1 (by omega), fun q h1 h2 => (oq q (Nat.lt_of_lt_of_le h1 hS.1)).trans (hS.2.1 q h1 h2), hS.2.2⟩⟩
  rw [← ab_w_push hy]
  refine (hP.kept fun k q hq => oq q.1 (hP k q hq).lt).app fun k q hq => ?_
  have hk : k < 1 := (List.getElem?_eq_some_iff.mp hq).1
  rw [show k = 0 by omega] at hq
  cases hq
  exact he
theorem ab_newa_ok {t0 MC MS : Nat} {a0 : Nat → vp_A} {atype : ArrayType} {ty : FieldType} {Ts : List Cond} (hx : p.tables.exec = Jvm.exec) (hb : c.code = cc) (hts : ∀ w ∈ Ts, w.before args s = true) (hK : va_K D cl (ab_tys cA) s) (hR : R.cells = MC ∧ R.slots = MS)
    (hty : newarray.typeOf atype = ty) (ht : (ab_tys cA)[t0]? = some (cA t0, ty)) (hRA : ∀ k, va_RA s k ty → s.vm.findClass ("[" ++ ty.toString) = some k) (harr : Cond.arrayClass ty ∈ Ts) (hby : componentBytes ty ≤ 8)
    (ha : ∀ (k : ClassId) (n : Nat), vp_cell k (ab_a b (a0 n)) = arrV k n (fun _ => defaultValue ty)) (hd : decode cc pc = .ok (.newarray atype, 2)) (hj : P j = pc + 2) : ab_ok p l e R s m args below meth c Q b D cl cA nL o P pc (ab_nx j (ab_newa t0 a0 MC MS)) := by
  subst hty
  refine ab_nx_ok (pc + 2) hj fun σ σ' h kk => ?_
  obtain ⟨lo, st, u, hp⟩ := σ
  unfold ab_newa at h
  dsimp only at h
  split at h
  · rename_i n st'
    obtain ⟨h1, rfl⟩ := ab_cond h
    simp only [Bool.and_eq_true, Bool.not_eq_true', decide_eq_false_iff_not, decide_eq_true_eq] at h1
    obtain ⟨⟨⟨h1, h2⟩, h3⟩, h4⟩ := h1
    intro H locs ls hP hz hS hl
    refine va_newaK hx hb (hts _ harr) rfl hd rfl h1 rfl (Nat.le_trans (Nat.mul_le_mul h2 hby) (by decide)) (by rw [hR.1]; exact h3) (by rw [hR.2]; exact h4) hz fun H1 k e1 z1 o1 hAr hNm => ?_
    have hk : k = cA t0 := Option.some.inj (hNm.symm.trans (hRA _ (hK.2 t0 _ ht).2))
    subst hk
    have g1 : va_at D cl (b.1 + hp.1, .inl (cA t0, ab_a b (a0 n.toNatClampNeg))) H1 := by
      show H1[b.1 + hp.1]? = some (vp_cell _ _)
      rw [ha, e1]
    obtain ⟨a1, a2, a3⟩ := ab_pushed (s := s) (x := .inl (t0, a0 n.toNatClampNeg)) hP hz hS rfl g1 (by rw [z1, hz]) (fun q hq => o1 q (by rw [← hz]; exact hq))
    exact kk H1 locs ls a1 a2 a3 hl
  · cases h
theorem ab_newq_ok {t0 MC MS index : Nat} {own C : String} {Ts : List Cond} (hx : p.tables.exec = Jvm.exec) (hb : c.code = cc) (hts : ∀ w ∈ Ts, w.before args s = true) (hown : s.vm.findClass own = some m.cls) (hK : va_K D cl (ab_tys cA) s) (hR : R.cells = MC ∧ R.slots = MS)
    (ht : (ab_tys cA)[t0]? = some (cA t0, .object C)) (hover : va_AO C s) (hclink : Cond.classLink own index C ∈ Ts) (hd : decode cc pc = .ok (.anewarray index, 3)) (hj : P j = pc + 3) : ab_ok p l e R s m args below meth c Q b D cl cA nL o P pc (ab_nx j (ab_newa t0 (fun n => (n, .inr (.inr (.inr (.inr (fun _ => none)))))) MC MS)) := by
  refine ab_nx_ok (pc + 3) hj fun σ σ' h kk => ?_
  obtain ⟨lo, st, u, hp⟩ := σ
  unfold ab_newa at h
  dsimp only at h
  split at h
  · rename_i n st'
    obtain ⟨h1, rfl⟩ := ab_cond h
    simp only [Bool.and_eq_true, Bool.not_eq_true', decide_eq_false_iff_not, decide_eq_true_eq] at h1
    obtain ⟨⟨⟨h1, h2⟩, h3⟩, h4⟩ := h1
    intro H locs ls hP hz hS hl
    refine W.anew hx hb hown (hts _ hclink) (va_AO.use hover) rfl hd rfl h1 (by omega) (by rw [hR.1]; exact h3) (by rw [hR.2]; exact h4) fun k kA comp f1 f2 f3 f4 => ?_
    have hk : k = cA t0 := by
      obtain ⟨_, _, -, -, -, w4⟩ := (hK.2 t0 _ ht).2
      exact Option.some.inj (f1.symm.trans w4)
    subst hk
    generalize hH1 : H.push ({ cls := cA t0, slots := Array.replicate n.toNatClampNeg .null, vm := .none } : Cell) = H1
    have z1 : H1.size = H.size + 1 := by rw [← hH1, Array.size_push]
    have e1 : H1[H.size]? = some (arrV (cA t0) n.toNatClampNeg (fun _ => .null)) := by rw [← hH1, Array.getElem?_push_size, ← arrV_new]
    have o1 : ∀ q : Nat, q < H.size → H1[q]? = H[q]? := fun q hq => by rw [← hH1, Array.getElem?_push, if_neg (Nat.ne_of_lt hq)]
    obtain ⟨a1, a2, a3⟩ := ab_pushed (s := s) (x := .inl (t0, n.toNatClampNeg, .inr (.inr (.inr (.inr (fun _ => none)))))) (y := .inl (cA t0, n.toNatClampNeg, .inr (.inr (.inr (.inr (fun _ => none)))))) hP hz hS rfl (by show H1[b.1 + hp.1]? = _; rw [← hz, e1]; rfl) z1 o1
    have hk2 := kk H1 locs ls a1 a2 a3 hl
    rw [hz]
    exact hk2
  · cases h
theorem ab_new_ok {own C : String} {T : u_T} {N ci index MC MS : Nat} {Ts : List Cond} {tys : List (ClassId × FieldType)} {fs : List Value} (hx : p.tables.exec = Jvm.exec) (hb : c.code = cc) (hts : ∀ w ∈ Ts, w.before args s = true) (hown : s.vm.findClass own = some m.cls) (hK : va_K D cl tys s) (hR : R.cells = MC ∧ R.slots = MS)
    (hin : ∀ w ∈ u_ws C T N, w ∈ Ts) (ty : Nat → FieldType) (hty : ∀ k, k < N → parseFieldDescriptor (T k).2.2.1 = some (ty k)) (hc : cl[ci]? = some (C, T, N)) (hcl : Cond.classLink own index C ∈ Ts) (hinst : Cond.instantiable C N ∈ Ts) (hini : Cond.initialized C ∈ Ts)
    (hfs : ∀ i, i < N → defaultValue (ty i) = vp_V (fs.map (ab_v b)) i) (hd : decode cc pc = .ok (.new index, 3)) (hj : P j = pc + 3) : ab_ok p l e R s m args below meth c Q b D cl cA nL o P pc (ab_nx j (ab_new ci N fs MC MS)) := by
  refine ab_nx_ok (pc + 3) hj fun σ σ' h kk => ?_
  obtain ⟨lo, st, u, hp⟩ := σ
  unfold ab_new at h
  dsimp only at h
  obtain ⟨h1, rfl⟩ := ab_cond h
  simp only [Bool.and_eq_true, decide_eq_true_eq] at h1
  obtain ⟨h3, h4⟩ := h1
  intro H locs ls hP hz hS hl
  have hKn := hK.1 ci _ hc
  refine W.newcK hx hb hown (hts _ hcl) (hts _ hinst) (hts _ hini) rfl hd (by rw [hR.1]; exact h3) (by rw [hR.2]; exact h4) hKn.2.1 hz fun H1 kC hkC e1 z1 o1 => ?_
  obtain ⟨a1, a2, a3⟩ := ab_pushed (s := s) (x := .inr (ci, fs)) hP hz hS rfl ⟨_, hc, (u_born ty hts hin hKn hkC e1 hty).to hfs⟩ (by rw [z1, hz]) (fun q hq => o1 q (by rw [← hz]; exact hq))
  exact kk H1 locs ls a1 a2 a3 hl
theorem ab_cats_v (st : List Value) : ((st.map (ab_v b)).map fun v => v.category).sum = ab_cats st := by
  unfold ab_cats
  rw [List.map_map]
  congr 1
  apply List.map_congr_left
  intro v _
  exact ab_vcat b v
theorem ab_obj_ok {own : String} {index : Nat} {Ts : List Cond} (hx : p.tables.exec = Jvm.exec) (hb : c.code = cc) (hml : c.maxLocals = nL) (hts : ∀ w ∈ Ts, w.before args s = true) (hown : s.vm.findClass own = some m.cls) (hlink : Cond.methodLink own index Lib.objectInit ∈ Ts) (hinst : Cond.instanceMethod Lib.objectInit ∈ Ts) (hcode : Cond.code Lib.objectInit ⟨#[0xb1]⟩ 1 none ∈ Ts)
    (hR : 1 ≤ R.frames ∧ 20 ≤ R.locals) (hd : decode cc pc = .ok (.invokespecial index, 3)) (hj : P j = pc + 3) : ab_ok p l e R s m args below meth c Q b D cl cA nL o P pc (ab_nx j ab_obj) := by
  refine ab_nx_ok (pc + 3) hj fun σ σ' h kk => ?_
  obtain ⟨lo, st, u, hp⟩ := σ
  unfold ab_obj at h
  dsimp only at h
  split at h
  · rename_i a st'
    obtain ⟨h1, rfl⟩ := ab_cond h
    have hst := of_decide_eq_true h1
    intro H locs ls hP hz hS hl
    refine W.objInit hx hb hown (hts _ hlink) (hts _ hinst) (hts _ hcode) rfl (by rw [hml]; exact hl.1) (rest := st'.map (ab_v b)) rfl hd hR.1 ?_ (kk H locs ls hP hz hS hl)
    have := ab_cats_v (b := b) st'
    show 2 * 0 + _ + 12 ≤ _
    omega
  · cases h
/-- a method: whatever the steps X answer, the machine answers -/
def ab_Qx (b : ab_B) (D : va_G) (cl : List vw_C) (cA : Nat → ClassId) (o : ab_O) : Array Value → State → Outcome → State → Prop := fun _ st oc t => (oc = .returned (o.1.map (ab_v b)) ∧ t.heap.size = b.1 + o.2.1 ∧ va_P D cl (ab_w b cA o.2) t.heap) ∧ va_F (fun q => b.1 ≤ q) st t
def ab_Px (b : ab_B) (D : va_G) (cl : List vw_C) (cA : Nat → ClassId) (E : State → Prop) (as : List Value) (hp : ab_H) : Array Value → State → Prop := va_Pc (as.map (ab_v b)) (fun U => U.heap.size = b.1 + hp.1 ∧ va_P D cl (ab_w b cA hp) U.heap ∧ va_K D cl (ab_tys cA) U ∧ E U)
def ab_M (l : Launch) (b : ab_B) (D : va_G) (cl : List vw_C) (cA : Nat → ClassId) (E : State → Prop) (y : MethodName) (ws : List Cond) (rm : Room) (X : List Value → ab_H → Option ab_O) : Prop :=
  ∀ (as : List Value) (hp : ab_H) (o : ab_O), X as hp = some o → Met l y ws rm (ab_Px b D cl cA E as hp) (ab_Qx b D cl cA o) rm.cells rm.slots (fun q => b.1 ≤ q)
/-- what is so at a start stays so as the tables warm -/
def ab_Ek (b : ab_B) (E : State → Prop) : Prop := ∀ s U : State, s.WarmedH U.vm → (∀ q : Nat, q < s.heap.size → ¬ b.1 ≤ q → U.heap[q]? = s.heap[q]?) → E s → E U
def ab_Eb (E : State → Prop) : Prop := ∀ s U : State, s.vm = U.vm → s.heap = U.heap → E s → E U
theorem ab_blind {E : State → Prop} (hE : ab_Eb E) (as : List Value) (hp : ab_H) : FrameBlind (ab_Px b D cl cA E as hp) := by
  intro a U g mk q
  obtain ⟨q0, q1, qP, qK, qE⟩ := q
  exact ⟨q0, q1, qP, va_K.moved (u := U) (U := U.calling g mk a) (Vm.Alike.refl U.vm) qK, hE U _ rfl rfl qE⟩
theorem ab_callW {hp : ab_H} {o2 : ab_O} {H : Heap} {locs : List Loc} {cells slots mc ms : Nat} {ls : Array Slot} {st0 rest : List Value} {a : Array Value} (hr : va_Run p l e R s m args below meth c H locs cells slots mc ms (F0 m pc ls st0) rest (ab_Qx b D cl cA o2 a) (fun q => b.1 ≤ q)) (hS : va_S (fun q => b.1 ≤ q) s.heap H locs)
    (kk : ∀ (H1 : Heap) (locs1 : List Loc), va_P D cl (ab_w b cA o2.2) H1 → H1.size = b.1 + o2.2.1 → va_S (fun q => b.1 ≤ q) s.heap H1 locs1 → W p l e R s m args below meth c H1 locs1 (cells + mc) (slots + ms) Q (F0 m (pc + 3) ls ((o2.1.map (ab_v b)).toList ++ rest))) : W p l e R s m args below meth c H locs cells slots Q (F0 m pc ls st0) := by
  intro T hT X
  obtain ⟨v, st₀, t, T', L, h0, X', hL, e1, e2, ⟨⟨hv, hz, hP⟩, hz1, hk⟩, st⟩ := hr T hT X
  cases hv
  rw [h0] at hz1 hk
  obtain ⟨t2, a1, b1⟩ := kk T'.heap (locs ++ L) (by rw [e1]; exact hP) (by rw [e1]; exact hz) ⟨Nat.le_trans hS.1 (by rw [e1]; exact hz1), fun q h1 h2 => by rw [e1, hk q (Nat.lt_of_lt_of_le h1 hS.1) h2]; exact hS.2.1 q h1 h2, fun q hq => by
      rcases List.mem_append.mp hq with h | h
      · exact hS.2.2 q h
      · exact hL q h⟩ T' rfl X'
  exact ⟨t2, st t2 a1, b1⟩
end AB
