/-! ===== the machine does what the steps do ===== -/
def ab_W (p : Program) (l : Launch) (e : Env) (R : Room) (s : State) (m : MethodId) (args : Array Value) (below : List Frame) (meth : Method) (c : Code) (Q : State → Prop) (b : ab_B) (D : va_G) (cl : List vw_C) (cA : Nat → ClassId) (nL pc : Nat) (σ : ab_S) : Prop :=
  ∀ (H : Heap) (locs : List Loc) (ls : Array Slot), va_P D cl (ab_w b cA σ.2.2.2) H → H.size = b.1 + σ.2.2.2.1 → va_S (fun q => b.1 ≤ q) s.heap H locs → lv_has ls nL (ab_lp b 0 σ.1) → W p l e R s m args below meth c H locs σ.2.2.1.1 σ.2.2.1.2 Q (F0 m pc ls (σ.2.1.map (ab_v b)))
def ab_ok (p : Program) (l : Launch) (e : Env) (R : Room) (s : State) (m : MethodId) (args : Array Value) (below : List Frame) (meth : Method) (c : Code) (Q : State → Prop) (b : ab_B) (D : va_G) (cl : List vw_C) (cA : Nat → ClassId) (nL : Nat) (o : ab_O) (P : Nat → Nat) (pc : Nat) (a : ab_A) : Prop :=
  ∀ σ : ab_S, (∀ (j : Nat) (σ' : ab_S), a σ = some (.inl (j, σ')) → ab_W p l e R s m args below meth c Q b D cl cA nL (P j) σ' → ab_W p l e R s m args below meth c Q b D cl cA nL pc σ) ∧ (a σ = some (.inr o) → ab_W p l e R s m args below meth c Q b D cl cA nL pc σ)
section AB
variable {p : Program} {l : Launch} {e : Env} {R : Room} {s : State} {m : MethodId} {args : Array Value} {below : List Frame} {meth : Method} {c : Code} {Q : State → Prop}
variable {b : ab_B} {D : va_G} {cl : List vw_C} {cA : Nat → ClassId} {nL : Nat} {cc : ByteArray} {P : Nat → Nat} {pc j t : Nat} {o : ab_O}
theorem ab_run_ok {T : Nat → Option ab_A} (hT : ∀ (i : Nat) (a : ab_A), T i = some a → ab_ok p l e R s m args below meth c Q b D cl cA nL o P (P i) a) : ∀ (f i : Nat) (σ : ab_S), ab_run T f i σ = some o → ab_W p l e R s m args below meth c Q b D cl cA nL (P i) σ
  | 0, i, σ, h => by cases h
  | f + 1, i, σ, h => by
    rw [ab_run] at h
    split at h
    · cases h
    · rename_i a ha
      split at h
      · cases h
      · rename_i q hq
        exact (hT i a ha σ).1 q.1 q.2 hq (ab_run_ok hT f q.1 q.2 h)
      · rename_i o' ho
        obtain rfl := Option.some.inj h
        exact (hT i a ha σ).2 ho
theorem ab_nx_ok {f : ab_S → Option ab_S} (pc' : Nat) (hj : P j = pc') (h : ∀ σ σ' : ab_S, f σ = some σ' → ab_W p l e R s m args below meth c Q b D cl cA nL pc' σ' → ab_W p l e R s m args below meth c Q b D cl cA nL pc σ) : ab_ok p l e R s m args below meth c Q b D cl cA nL o P pc (ab_nx j f) := by
  intro σ
  refine ⟨fun j' σ' h1 h2 => ?_, fun h1 => ?_⟩
  · unfold ab_nx at h1
    split at h1
    · rename_i t ht
      simp only [Option.some.injEq, Sum.inl.injEq, Prod.mk.injEq] at h1
      obtain ⟨rfl, rfl⟩ := h1
      rw [hj] at h2
      exact h σ _ ht h2
    · cases h1
  · unfold ab_nx at h1
    split at h1 <;> cases h1
theorem ab_lit_ok {v : Value} {d : Nat} (hj : P j = pc + d) (row : ∀ (H : Heap) (locs : List Loc) (cells slots : Nat) (ls : Array Slot) (rest : List Value), W p l e R s m args below meth c H locs cells slots Q (F0 m (pc + d) ls (ab_v b v :: rest)) → W p l e R s m args below meth c H locs cells slots Q (F0 m pc ls rest)) : ab_ok p l e R s m args below meth c Q b D cl cA nL o P pc (ab_nx j (ab_lit v)) := by
  refine ab_nx_ok (pc + d) hj fun σ σ' h k => ?_
  obtain rfl := Option.some.inj h
  intro H locs ls hP hz hS hl
  exact row _ _ _ _ _ _ (k H locs ls hP hz hS hl)
theorem ab_iload_ok {i d : Nat} (hj : P j = pc + d) (row : ∀ (H : Heap) (locs : List Loc) (cells slots : Nat) (ls : Array Slot) (rest : List Value) (x : Int32), ls[i]? = some (.val (.int x)) → W p l e R s m args below meth c H locs cells slots Q (F0 m (pc + d) ls (.int x :: rest)) → W p l e R s m args below meth c H locs cells slots Q (F0 m pc ls rest)) : ab_ok p l e R s m args below meth c Q b D cl cA nL o P pc (ab_nx j (ab_iload i)) := by
  refine ab_nx_ok (pc + d) hj fun σ σ' h k => ?_
  unfold ab_iload at h
  split at h
  · rename_i x hx
    obtain rfl := Option.some.inj h
    intro H locs ls hP hz hS hl
    exact row _ _ _ _ _ _ x (ab_ld hl hx) (k H locs ls hP hz hS hl)
  · cases h
theorem ab_lload_ok {i d : Nat} (hj : P j = pc + d) (row : ∀ (H : Heap) (locs : List Loc) (cells slots : Nat) (ls : Array Slot) (rest : List Value) (x : Int64), ls[i]? = some (.val (.long x)) → W p l e R s m args below meth c H locs cells slots Q (F0 m (pc + d) ls (.long x :: rest)) → W p l e R s m args below meth c H locs cells slots Q (F0 m pc ls rest)) : ab_ok p l e R s m args below meth c Q b D cl cA nL o P pc (ab_nx j (ab_lload i)) := by
  refine ab_nx_ok (pc + d) hj fun σ σ' h k => ?_
  unfold ab_lload at h
  split at h
  · rename_i x hx
    obtain rfl := Option.some.inj h
    intro H locs ls hP hz hS hl
    exact row _ _ _ _ _ _ x (ab_ld hl hx) (k H locs ls hP hz hS hl)
  · cases h
theorem ab_aload_ok {i d : Nat} (hj : P j = pc + d) (row : ∀ (H : Heap) (locs : List Loc) (cells slots : Nat) (ls : Array Slot) (rest : List Value) (x : Nat), ls[i]? = some (.val (.ref x)) → W p l e R s m args below meth c H locs cells slots Q (F0 m (pc + d) ls (.ref x :: rest)) → W p l e R s m args below meth c H locs cells slots Q (F0 m pc ls rest))
    (rowN : ∀ (H : Heap) (locs : List Loc) (cells slots : Nat) (ls : Array Slot) (rest : List Value), ls[i]? = some (.val .null) → W p l e R s m args below meth c H locs cells slots Q (F0 m (pc + d) ls (.null :: rest)) → W p l e R s m args below meth c H locs cells slots Q (F0 m pc ls rest)) : ab_ok p l e R s m args below meth c Q b D cl cA nL o P pc (ab_nx j (ab_aload i)) := by
  refine ab_nx_ok (pc + d) hj fun σ σ' h k => ?_
  unfold ab_aload at h
  split at h
  · rename_i x hx
    obtain rfl := Option.some.inj h
    intro H locs ls hP hz hS hl
    exact row _ _ _ _ _ _ _ (ab_ld hl hx) (k H locs ls hP hz hS hl)
  · rename_i x hx
    obtain rfl := Option.some.inj h
    intro H locs ls hP hz hS hl
    exact row _ _ _ _ _ _ _ (ab_ld hl hx) (k H locs ls hP hz hS hl)
  · rename_i hx
    obtain rfl := Option.some.inj h
    intro H locs ls hP hz hS hl
    exact rowN _ _ _ _ _ _ (ab_ld hl hx) (k H locs ls hP hz hS hl)
  · cases h
theorem ab_istore_ok {i d : Nat} (hj : P j = pc + d) (row : ∀ (H : Heap) (locs : List Loc) (cells slots : Nat) (ls : Array Slot) (rest : List Value) (x : Int32) (lv : List (Nat × Value)), lv_has ls nL lv → (∀ ls' : Array Slot, lv_has ls' nL ((i, Value.int x) :: lv.filter (fun q => !(q.1 == i) && !(q.1 + 1 == i && q.2.category == 2))) → W p l e R s m args below meth c H locs cells slots Q (F0 m (pc + d) ls' rest)) → W p l e R s m args below meth c H locs cells slots Q (F0 m pc ls (.int x :: rest))) : ab_ok p l e R s m args below meth c Q b D cl cA nL o P pc (ab_nx j (ab_istore i)) := by
  refine ab_nx_ok (pc + d) hj fun σ σ' h k => ?_
  obtain ⟨lo, st, r⟩ := σ
  unfold ab_istore at h
  dsimp only at h
  split at h
  · rename_i x st'
    cases hf : ab_fr lo i with
    | false => rw [hf] at h; cases h
    | true =>
      rw [hf] at h
      obtain rfl := Option.some.inj h
      intro H locs ls hP hz hS hl
      exact row _ _ _ _ _ _ x _ hl fun ls' h' => k H locs ls' hP hz hS (ab_st1 hf h')
  · cases h
theorem ab_lstore_ok {i d : Nat} (hj : P j = pc + d) (row : ∀ (H : Heap) (locs : List Loc) (cells slots : Nat) (ls : Array Slot) (rest : List Value) (x : Int64) (lv : List (Nat × Value)), lv_has ls nL lv → (∀ ls' : Array Slot, lv_has ls' nL ((i, Value.long x) :: lv.filter (fun q => !(q.1 == i) && (!(q.1 == i + 1) && !(q.1 + 1 == i && q.2.category == 2)))) → W p l e R s m args below meth c H locs cells slots Q (F0 m (pc + d) ls' rest)) → W p l e R s m args below meth c H locs cells slots Q (F0 m pc ls (.long x :: rest))) : ab_ok p l e R s m args below meth c Q b D cl cA nL o P pc (ab_nx j (ab_lstore i)) := by
  refine ab_nx_ok (pc + d) hj fun σ σ' h k => ?_
  obtain ⟨lo, st, r⟩ := σ
  unfold ab_lstore at h
  dsimp only at h
  split at h
  · rename_i x st'
    cases hf : ab_fr lo i with
    | false => rw [hf] at h; cases h
    | true =>
      rw [hf] at h
      obtain rfl := Option.some.inj h
      intro H locs ls hP hz hS hl
      exact row _ _ _ _ _ _ x _ hl fun ls' h' => k H locs ls' hP hz hS (ab_st2 hf h')
  · cases h
theorem ab_astore_ok {i d : Nat} (hj : P j = pc + d) (row : ∀ (H : Heap) (locs : List Loc) (cells slots : Nat) (ls : Array Slot) (rest : List Value) (x : Nat) (lv : List (Nat × Value)), lv_has ls nL lv → (∀ ls' : Array Slot, lv_has ls' nL ((i, Value.ref x) :: lv.filter (fun q => !(q.1 == i) && !(q.1 + 1 == i && q.2.category == 2))) → W p l e R s m args below meth c H locs cells slots Q (F0 m (pc + d) ls' rest)) → W p l e R s m args below meth c H locs cells slots Q (F0 m pc ls (.ref x :: rest)))
    (rowN : ∀ (H : Heap) (locs : List Loc) (cells slots : Nat) (ls : Array Slot) (rest : List Value) (lv : List (Nat × Value)), lv_has ls nL lv → (∀ ls' : Array Slot, lv_has ls' nL ((i, Value.null) :: lv.filter (fun q => !(q.1 == i) && !(q.1 + 1 == i && q.2.category == 2))) → W p l e R s m args below meth c H locs cells slots Q (F0 m (pc + d) ls' rest)) → W p l e R s m args below meth c H locs cells slots Q (F0 m pc ls (.null :: rest))) : ab_ok p l e R s m args below meth c Q b D cl cA nL o P pc (ab_nx j (ab_astore i)) := by
  refine ab_nx_ok (pc + d) hj fun σ σ' h k => ?_
  obtain ⟨lo, st, r⟩ := σ
  unfold ab_astore at h
  dsimp only at h
  split at h
  · rename_i x st'
    cases hf : ab_fr lo i with
    | false => rw [hf] at h; cases h
    | true =>
      rw [hf] at h
      obtain rfl := Option.some.inj h
      intro H locs ls hP hz hS hl
      exact row _ _ _ _ _ _ _ _ hl fun ls' h' => k H locs ls' hP hz hS (ab_st1 (v := .ref x) hf h')
  · rename_i st'
    cases hf : ab_fr lo i with
    | false => rw [hf] at h; cases h
    | true =>
      rw [hf] at h
      obtain rfl := Option.some.inj h
      intro H locs ls hP hz hS hl
      exact rowN _ _ _ _ _ _ _ hl fun ls' h' => k H locs ls' hP hz hS (ab_st1 (v := .null) hf h')
  · cases h
theorem ab_iinc_ok {i : Nat} {n : Int} {v : Int32} (hx : p.tables.exec = Jvm.exec) (hb : c.code = cc) (hd : decode cc pc = .ok (.iinc i n, 3)) (hv : Int32.ofInt n = v) (hi : i < nL) (hj : P j = pc + 3) : ab_ok p l e R s m args below meth c Q b D cl cA nL o P pc (ab_nx j (ab_iinc i v)) := by
  subst hv
  refine ab_nx_ok (pc + 3) hj fun σ σ' h k => ?_
  obtain ⟨lo, st, r⟩ := σ
  unfold ab_iinc at h
  dsimp only at h
  split at h
  · rename_i x hlo
    cases hf : ab_fr lo i with
    | false => rw [hf] at h; cases h
    | true =>
      rw [hf] at h
      obtain rfl := Option.some.inj h
      intro H locs ls hP hz hS hl
      obtain ⟨q, hq⟩ := List.getElem?_of_mem ((ab_lp_mem (b := b) lo 0 (i, .int x)).mpr ⟨i, .int x, hlo, by simp [ab_v]⟩)
      exact lv_iinc hx hb hd hl hq rfl hi rfl fun ls' h' => k H locs ls' hP hz hS (ab_st1 (v := .int (x + Int32.ofInt n)) hf h')
  · cases h
theorem ab_bin_ok {g : Int32 → Int32 → Int32} (hj : P j = pc + 1) (row : ∀ (H : Heap) (locs : List Loc) (cells slots : Nat) (ls : Array Slot) (rest : List Value) (x y : Int32), W p l e R s m args below meth c H locs cells slots Q (F0 m (pc + 1) ls (.int (g x y) :: rest)) → W p l e R s m args below meth c H locs cells slots Q (F0 m pc ls (.int y :: .int x :: rest))) : ab_ok p l e R s m args below meth c Q b D cl cA nL o P pc (ab_nx j (ab_bin g)) := by
  refine ab_nx_ok (pc + 1) hj fun σ σ' h k => ?_
  obtain ⟨lo, st, r⟩ := σ
  unfold ab_bin at h
  dsimp only at h
  split at h
  · obtain rfl := Option.some.inj h
    intro H locs ls hP hz hS hl
    exact row _ _ _ _ _ _ _ _ (k H locs ls hP hz hS hl)
  · cases h
theorem ab_irem_ok (hx : p.tables.exec = Jvm.exec) (hb : c.code = cc) (hd : decode cc pc = .ok (.irem, 1)) (hj : P j = pc + 1) : ab_ok p l e R s m args below meth c Q b D cl cA nL o P pc (ab_nx j ab_irem) := by
  refine ab_nx_ok (pc + 1) hj fun σ σ' h k => ?_
  obtain ⟨lo, st, r⟩ := σ
  unfold ab_irem at h
  dsimp only at h
  split at h
  · rename_i y x st'
    by_cases hy : y = 0
    · rw [decide_eq_true hy] at h; cases h
    · rw [decide_eq_false hy] at h
      obtain rfl := Option.some.inj h
      intro H locs ls hP hz hS hl
      exact lv_irem hx hb hd hy (k H locs ls hP hz hS hl)
  · cases h
theorem ab_un_ok {g : Int32 → Int32} (hj : P j = pc + 1) (row : ∀ (H : Heap) (locs : List Loc) (cells slots : Nat) (ls : Array Slot) (rest : List Value) (x : Int32), W p l e R s m args below meth c H locs cells slots Q (F0 m (pc + 1) ls (.int (g x) :: rest)) → W p l e R s m args below meth c H locs cells slots Q (F0 m pc ls (.int x :: rest))) : ab_ok p l e R s m args below meth c Q b D cl cA nL o P pc (ab_nx j (ab_un g)) := by
  refine ab_nx_ok (pc + 1) hj fun σ σ' h k => ?_
  obtain ⟨lo, st, r⟩ := σ
  unfold ab_un at h
  dsimp only at h
  split at h
  · obtain rfl := Option.some.inj h
    intro H locs ls hP hz hS hl
    exact row _ _ _ _ _ _ _ (k H locs ls hP hz hS hl)
  · cases h
theorem ab_lbin_ok {g : Int64 → Int64 → Int64} (hj : P j = pc + 1) (row : ∀ (H : Heap) (locs : List Loc) (cells slots : Nat) (ls : Array Slot) (rest : List Value) (x y : Int64), W p l e R s m args below meth c H locs cells slots Q (F0 m (pc + 1) ls (.long (g x y) :: rest)) → W p l e R s m args below meth c H locs cells slots Q (F0 m pc ls (.long y :: .long x :: rest))) : ab_ok p l e R s m args below meth c Q b D cl cA nL o P pc (ab_nx j (ab_lbin g)) := by
  refine ab_nx_ok (pc + 1) hj fun σ σ' h k => ?_
  obtain ⟨lo, st, r⟩ := σ
  unfold ab_lbin at h
  dsimp only at h
  split at h
  · obtain rfl := Option.some.inj h
    intro H locs ls hP hz hS hl
    exact row _ _ _ _ _ _ _ _ (k H locs ls hP hz hS hl)
  · cases h
theorem ab_lsh_ok {g : Int64 → Int32 → Int64} (hj : P j = pc + 1) (row : ∀ (H : Heap) (locs : List Loc) (cells slots : Nat) (ls : Array Slot) (rest : List Value) (x : Int64) (y : Int32), W p l e R s m args below meth c H locs cells slots Q (F0 m (pc + 1) ls (.long (g x y) :: rest)) → W p l e R s m args below meth c H locs cells slots Q (F0 m pc ls (.int y :: .long x :: rest))) : ab_ok p l e R s m args below meth c Q b D cl cA nL o P pc (ab_nx j (ab_lsh g)) := by
  refine ab_nx_ok (pc + 1) hj fun σ σ' h k => ?_
  obtain ⟨lo, st, r⟩ := σ
  unfold ab_lsh at h
  dsimp only at h
  split at h
  · obtain rfl := Option.some.inj h
    intro H locs ls hP hz hS hl
    exact row _ _ _ _ _ _ _ _ (k H locs ls hP hz hS hl)
  · cases h
theorem ab_lcmp_ok (hx : p.tables.exec = Jvm.exec) (hb : c.code = cc) (hd : decode cc pc = .ok (.lcmp, 1)) (hj : P j = pc + 1) : ab_ok p l e R s m args below meth c Q b D cl cA nL o P pc (ab_nx j ab_lcmp) := by
  refine ab_nx_ok (pc + 1) hj fun σ σ' h k => ?_
  obtain ⟨lo, st, r⟩ := σ
  unfold ab_lcmp at h
  dsimp only at h
  split at h
  · obtain rfl := Option.some.inj h
    intro H locs ls hP hz hS hl
    exact W.lcmp hx hb hd (k H locs ls hP hz hS hl)
  · cases h
theorem ab_i2l_ok (hx : p.tables.exec = Jvm.exec) (hb : c.code = cc) (hd : decode cc pc = .ok (.i2l, 1)) (hj : P j = pc + 1) : ab_ok p l e R s m args below meth c Q b D cl cA nL o P pc (ab_nx j ab_i2l) := by
  refine ab_nx_ok (pc + 1) hj fun σ σ' h k => ?_
  obtain ⟨lo, st, r⟩ := σ
  unfold ab_i2l at h
  dsimp only at h
  split at h
  · obtain rfl := Option.some.inj h
    intro H locs ls hP hz hS hl
    exact lv_i2l hx hb hd rfl (k H locs ls hP hz hS hl)
  · cases h
theorem ab_l2i_ok (hx : p.tables.exec = Jvm.exec) (hb : c.code = cc) (hd : decode cc pc = .ok (.l2i, 1)) (hj : P j = pc + 1) : ab_ok p l e R s m args below meth c Q b D cl cA nL o P pc (ab_nx j ab_l2i) := by
  refine ab_nx_ok (pc + 1) hj fun σ σ' h k => ?_
  obtain ⟨lo, st, r⟩ := σ
  unfold ab_l2i at h
  dsimp only at h
  split at h
  · obtain rfl := Option.some.inj h
    intro H locs ls hP hz hS hl
    exact lv_l2i hx hb hd rfl (k H locs ls hP hz hS hl)
  · cases h
theorem ab_c1_ok {v : Value} (h : ab_c1 v = true) : (ab_v b v).category = 1 := by cases v <;> first | rfl | cases h
theorem ab_dup_ok (hx : p.tables.exec = Jvm.exec) (hb : c.code = cc) (hd : decode cc pc = .ok (.dup, 1)) (hj : P j = pc + 1) : ab_ok p l e R s m args below meth c Q b D cl cA nL o P pc (ab_nx j ab_dup) := by
  refine ab_nx_ok (pc + 1) hj fun σ σ' h k => ?_
  obtain ⟨lo, st, r⟩ := σ
  unfold ab_dup at h
  dsimp only at h
  split at h
  · rename_i v st'
    cases hf : ab_c1 v with
    | false => rw [hf] at h; cases h
    | true =>
      rw [hf] at h
      obtain rfl := Option.some.inj h
      intro H locs ls hP hz hS hl
      exact lv_dup hx hb hd (ab_c1_ok hf) (k H locs ls hP hz hS hl)
  · cases h
theorem ab_dup2_ok (hx : p.tables.exec = Jvm.exec) (hb : c.code = cc) (hd : decode cc pc = .ok (.dup2, 1)) (hj : P j = pc + 1) : ab_ok p l e R s m args below meth c Q b D cl cA nL o P pc (ab_nx j ab_dup2) := by
  refine ab_nx_ok (pc + 1) hj fun σ σ' h k => ?_
  obtain ⟨lo, st, r⟩ := σ
  unfold ab_dup2 at h
  dsimp only at h
  split at h
  · rename_i v w st'
    cases hf : (ab_c1 v && ab_c1 w) with
    | false => rw [hf] at h; cases h
    | true =>
      rw [hf] at h
      obtain rfl := Option.some.inj h
      rw [Bool.and_eq_true] at hf
      intro H locs ls hP hz hS hl
      exact lv_dup2_11 hx hb hd (ab_c1_ok hf.1) (ab_c1_ok hf.2) (k H locs ls hP hz hS hl)
  · cases h
theorem ab_pop_ok (hx : p.tables.exec = Jvm.exec) (hb : c.code = cc) (hd : decode cc pc = .ok (.pop, 1)) (hj : P j = pc + 1) : ab_ok p l e R s m args below meth c Q b D cl cA nL o P pc (ab_nx j ab_pop) := by
  refine ab_nx_ok (pc + 1) hj fun σ σ' h k => ?_
  obtain ⟨lo, st, r⟩ := σ
  unfold ab_pop at h
  dsimp only at h
  split at h
  · rename_i v st'
    cases hf : ab_c1 v with
    | false => rw [hf] at h; cases h
    | true =>
      rw [hf] at h
      obtain rfl := Option.some.inj h
      intro H locs ls hP hz hS hl
      exact lv_pop hx hb hd (ab_c1_ok hf) (k H locs ls hP hz hS hl)
  · cases h
theorem ab_if_ok {g : Int32 → Bool} {tg : Nat} (hj : P j = pc + 3) (ht : P t = tg) (row : ∀ (H : Heap) (locs : List Loc) (cells slots : Nat) (ls : Array Slot) (rest : List Value) (x : Int32), (g x = true → W p l e R s m args below meth c H locs cells slots Q (F0 m tg ls rest)) → (g x = false → W p l e R s m args below meth c H locs cells slots Q (F0 m (pc + 3) ls rest)) → W p l e R s m args below meth c H locs cells slots Q (F0 m pc ls (.int x :: rest))) : ab_ok p l e R s m args below meth c Q b D cl cA nL o P pc (ab_if j t g) := by
  subst ht
  intro σ
  obtain ⟨lo, st, r⟩ := σ
  unfold ab_if
  dsimp only
  refine ⟨fun j' σ' h1 h2 => ?_, fun h1 => ?_⟩
  · split at h1
    · rename_i x st'
      simp only [Option.some.injEq, Sum.inl.injEq, Prod.mk.injEq] at h1
      obtain ⟨rfl, rfl⟩ := h1
      intro H locs ls hP hz hS hl
      refine row _ _ _ _ _ _ x (fun hg => ?_) (fun hg => ?_)
      · rw [hg] at h2
        exact h2 H locs ls hP hz hS hl
      · rw [hg] at h2
        rw [← hj]
        exact h2 H locs ls hP hz hS hl
    · cases h1
  · split at h1 <;> cases h1
theorem ab_icmp_ok {g : Int32 → Int32 → Bool} {tg : Nat} (hj : P j = pc + 3) (ht : P t = tg) (row : ∀ (H : Heap) (locs : List Loc) (cells slots : Nat) (ls : Array Slot) (rest : List Value) (x y : Int32), (g x y = true → W p l e R s m args below meth c H locs cells slots Q (F0 m tg ls rest)) → (g x y = false → W p l e R s m args below meth c H locs cells slots Q (F0 m (pc + 3) ls rest)) → W p l e R s m args below meth c H locs cells slots Q (F0 m pc ls (.int y :: .int x :: rest))) : ab_ok p l e R s m args below meth c Q b D cl cA nL o P pc (ab_icmp j t g) := by
  subst ht
  intro σ
  obtain ⟨lo, st, r⟩ := σ
  unfold ab_icmp
  dsimp only
  refine ⟨fun j' σ' h1 h2 => ?_, fun h1 => ?_⟩
  · split at h1
    · rename_i y x st'
      simp only [Option.some.injEq, Sum.inl.injEq, Prod.mk.injEq] at h1
      obtain ⟨rfl, rfl⟩ := h1
      intro H locs ls hP hz hS hl
      refine row _ _ _ _ _ _ x y (fun hg => ?_) (fun hg => ?_)
      · rw [hg] at h2
        exact h2 H locs ls hP hz hS hl
      · rw [hg] at h2
        rw [← hj]
        exact h2 H locs ls hP hz hS hl
    · cases h1
  · split at h1 <;> cases h1
theorem ab_nonnull_ok {off : Int} {tg : Nat} (hx : p.tables.exec = Jvm.exec) (hb : c.code = cc) (hd : decode cc pc = .ok (.ifnonnull off, 3)) (ho : (pc : Int) + off = (tg : Int)) (hj : P j = pc + 3) (ht : P t = tg) : ab_ok p l e R s m args below meth c Q b D cl cA nL o P pc (ab_nonnull j t) := by
  subst ht
  intro σ
  obtain ⟨lo, st, r⟩ := σ
  unfold ab_nonnull
  dsimp only
  refine ⟨fun j' σ' h1 h2 => ?_, fun h1 => ?_⟩
  · split at h1
    · simp only [Option.some.injEq, Sum.inl.injEq, Prod.mk.injEq] at h1
      obtain ⟨rfl, rfl⟩ := h1
      intro H locs ls hP hz hS hl
      exact lv_ifnonnull hx hb hd ho (h2 H locs ls hP hz hS hl)
    · simp only [Option.some.injEq, Sum.inl.injEq, Prod.mk.injEq] at h1
      obtain ⟨rfl, rfl⟩ := h1
      rw [hj] at h2
      intro H locs ls hP hz hS hl
      exact lv_ifnonnullN hx hb hd (h2 H locs ls hP hz hS hl)
    · cases h1
  · split at h1 <;> cases h1
theorem ab_goto_ok {off : Int} {tg : Nat} (hx : p.tables.exec = Jvm.exec) (hb : c.code = cc) (hd : decode cc pc = .ok (.goto off, 3)) (ho : (pc : Int) + off = (tg : Int)) (ht : P t = tg) : ab_ok p l e R s m args below meth c Q b D cl cA nL o P pc (ab_goto t) := by
  subst ht
  intro σ
  refine ⟨fun j' σ' h1 h2 => ?_, fun h1 => by cases h1⟩
  simp only [ab_goto, Option.some.injEq, Sum.inl.injEq, Prod.mk.injEq] at h1
  obtain ⟨rfl, rfl⟩ := h1
  intro H locs ls hP hz hS hl
  exact lv_goto hx hb hd ho (h2 H locs ls hP hz hS hl)
end AB
