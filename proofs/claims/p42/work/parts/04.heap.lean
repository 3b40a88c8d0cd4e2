/-! ===== steps at the heap ===== -/
def ab_tys (cA : Nat → ClassId) : List (ClassId × FieldType) := [(cA 0, .byte), (cA 1, .int), (cA 2, .long), (cA 3, .boolean), (cA 4, .object "LackFerry$Image"), (cA 5, .object "LackFerry$Shores")]
theorem ab_in_ok {i : Int32} {n : Nat} (h : ab_in i n = true) : vp_in i n := by
  simp only [ab_in, Bool.and_eq_true, Bool.not_eq_true', decide_eq_false_iff_not, decide_eq_true_eq] at h
  exact fun q => q.elim h.1 (fun q => Nat.not_le.mpr h.2 q)
theorem ab_cond {α : Type} {x : Bool} {a : α} {y : α} (h : cond x (some a) none = some y) : x = true ∧ a = y := by
  cases x with
  | false => cases h
  | true => exact ⟨rfl, Option.some.inj h⟩
theorem ab_condN {α : Type} {x : Bool} {a : Option α} {y : α} (h : cond x a none = some y) : x = true ∧ a = some y := by
  cases x with
  | false => cases h
  | true => exact ⟨rfl, h⟩
section AB
variable {p : Program} {l : Launch} {e : Env} {R : Room} {s : State} {m : MethodId} {args : Array Value} {below : List Frame} {meth : Method} {c : Code} {Q : State → Prop}
variable {b : ab_B} {D : va_G} {cl : List vw_C} {cA : Nat → ClassId} {nL : Nat} {cc : ByteArray} {P : Nat → Nat} {pc j t : Nat} {o : ab_O}
theorem ab_set {hp : ab_H} {k i : Nat} {x : ab_E} {y : va_E} {H H1 : Heap} {locs : List Loc} (hP : va_P D cl (ab_w b cA hp) H) (hz : H.size = b.1 + hp.1) (hS : va_S (fun q => b.1 ≤ q) s.heap H locs) (hk : k < hp.1) (hy : ab_e b cA x = y)
    (he : va_at D cl (b.1 + k, y) H1) (z : H1.size = H.size) (oq : ∀ q : Nat, q ≠ b.1 + k → H1[q]? = H[q]?) : va_P D cl (ab_w b cA (ab_up hp k x)) H1 ∧ H1.size = b.1 + hp.1 ∧ va_S (fun q => b.1 ≤ q) s.heap H1 (locs ++ [⟨b.1 + k, i⟩]) := by
  refine ⟨?_, z.trans hz, hS.put z oq (Nat.le_add_right _ _)⟩
  rw [← ab_w_up hy]
  exact hP.set (A := fun q => b.1 ≤ q) ab_w_D (ab_w_at hk) he oq
theorem ab_getf_ok {own C : String} {T : u_T} {N ci index k : Nat} {Ts : List Cond} {tys : List (ClassId × FieldType)} (hx : p.tables.exec = Jvm.exec) (hb : c.code = cc) (hts : ∀ w ∈ Ts, w.before args s = true) (hown : s.vm.findClass own = some m.cls) (hK : va_K D cl tys s)
    (hin : ∀ w ∈ u_ws C T N, w ∈ Ts) (hc : cl[ci]? = some (C, T, N)) (hk : k < N) (hlink : Cond.fieldLink own index (T k).1 (T k).2.1 (T k).2.2.1 ∈ Ts) (hd : decode cc pc = .ok (.getfield index, 3)) (hj : P j = pc + 3) : ab_ok p l e R s m args below meth c Q b D cl cA nL o P pc (ab_nx j (ab_getf ci k)) := by
  refine ab_nx_ok (pc + 3) hj fun σ σ' h kk => ?_
  obtain ⟨lo, st, u, hp⟩ := σ
  unfold ab_getf at h
  dsimp only at h
  split at h
  · rename_i a st'
    obtain ⟨h1, h⟩ := ab_condN h
    have ha := of_decide_eq_true h1
    split at h
    · rename_i q hq
      obtain ⟨h2, h⟩ := ab_condN h
      have hci : q.1 = ci := by simpa using h2
      split at h
      · rename_i v hv
        obtain rfl := Option.some.inj h
        intro H locs ls hP hz hS hl
        have he : (ab_w b cA hp)[a]? = some (b.1 + a, .inr (ci, q.2.map (ab_v b))) := by rw [ab_w_at ha, hq, ← hci]; rfl
        exact va_get (v := ab_v b v) hx hb hts hin hown hK hP a he hc k hk (hts _ hlink) (fun _ h9 => h9) (by rw [List.getElem?_map, hv]; rfl) hd (kk H locs ls hP hz hS hl)
      · cases h
    · cases h
  · cases h
theorem ab_fit_ok {kd : Nat} {v : Value} {ty : FieldType} (h : ab_fit kd v = true) (hk : (kd = 0 ∧ ty = .int) ∨ (kd = 1 ∧ ty = .long) ∨ (kd = 2 ∧ ((∃ C, ty = .object C) ∨ ∃ u, ty = .array u)) ∨ (kd = 3 ∧ ty = .boolean)) : narrow ty (ab_v b v) = ab_v b v ∧ fits ty (ab_v b v) = true := by
  rcases hk with ⟨rfl, rfl⟩ | ⟨rfl, rfl⟩ | ⟨rfl, hk⟩ | ⟨rfl, rfl⟩
  · cases v <;> first | exact ⟨rfl, rfl⟩ | cases h
  · cases v <;> first | exact ⟨rfl, rfl⟩ | cases h
  · rcases hk with ⟨C, rfl⟩ | ⟨u, rfl⟩ <;> cases v <;> first | exact ⟨rfl, rfl⟩ | cases h
  · cases v with
    | int x =>
      have h' : (decide (x = 0) || decide (x = 1)) = true := h
      rw [Bool.or_eq_true, decide_eq_true_eq, decide_eq_true_eq] at h'
      rcases h' with rfl | rfl
      · exact ⟨(by decide : narrow .boolean (.int 0) = .int 0), (by decide : fits .boolean (.int 0) = true)⟩
      · exact ⟨(by decide : narrow .boolean (.int 1) = .int 1), (by decide : fits .boolean (.int 1) = true)⟩
    | _ => cases h
theorem ab_putf_ok {own C : String} {T : u_T} {N ci index k kd : Nat} {Ts : List Cond} {tys : List (ClassId × FieldType)} {ty : FieldType} (hx : p.tables.exec = Jvm.exec) (hb : c.code = cc) (hts : ∀ w ∈ Ts, w.before args s = true) (hown : s.vm.findClass own = some m.cls) (hK : va_K D cl tys s)
    (hin : ∀ w ∈ u_ws C T N, w ∈ Ts) (ty0 : Nat → FieldType) (hty : ∀ k, k < N → parseFieldDescriptor (T k).2.2.1 = some (ty0 k)) (hnm : ∀ a, a < N → ∀ b, b < N → a ≠ b → (T a).2.1 ≠ (T b).2.1) (hc : cl[ci]? = some (C, T, N)) (hk : k < N) (hlink : Cond.fieldLink own index (T k).1 (T k).2.1 (T k).2.2.1 ∈ Ts)
    (hfin : (T k).2.2.2 = false ∨ ((T k).2.2.2 = true ∧ meth.name = "<init>" ∧ (T k).1 = own)) (hd0 : ty0 k = ty) (hkd : (kd = 0 ∧ ty = .int) ∨ (kd = 1 ∧ ty = .long) ∨ (kd = 2 ∧ ((∃ C, ty = .object C) ∨ ∃ u, ty = .array u)) ∨ (kd = 3 ∧ ty = .boolean))
    (hd : decode cc pc = .ok (.putfield index, 3)) (hj : P j = pc + 3) : ab_ok p l e R s m args below meth c Q b D cl cA nL o P pc (ab_nx j (ab_putf ci k kd)) := by
  refine ab_nx_ok (pc + 3) hj fun σ σ' h kk => ?_
  obtain ⟨lo, st, u, hp⟩ := σ
  unfold ab_putf at h
  dsimp only at h
  split at h
  · rename_i v a st'
    obtain ⟨h1, h⟩ := ab_condN h
    rw [Bool.and_eq_true] at h1
    have ha := of_decide_eq_true h1.1
    split at h
    · rename_i q hq
      obtain ⟨h2, rfl⟩ := ab_cond h
      rw [Bool.and_eq_true] at h2
      have hci : q.1 = ci := by simpa using h2.1
      have hkl := of_decide_eq_true h2.2
      intro H locs ls hP hz hS hl
      have he : (ab_w b cA hp)[a]? = some (b.1 + a, .inr (ci, q.2.map (ab_v b))) := by rw [ab_w_at ha, hq, ← hci]; rfl
      obtain ⟨hn, hfit⟩ := ab_fit_ok (b := b) h1.2 hkd
      have hdt : parseFieldDescriptor (T k).2.2.1 = some ty := by rw [hty k hk, hd0]
      have hap := va_apart (own := own) hts hin ty0 hty hnm hK hc
      obtain ⟨r, g1, cell, q1, q2, q3, q4⟩ := hP a _ he
      have hr : r = (C, T, N) := Option.some.inj (g1.symm.trans hc)
      subst hr
      obtain ⟨hSl, hfc, kC, hkC, hkind⟩ := hK.1 ci _ hc
      obtain ⟨cf, kf, fi, f, hi, hsl⟩ := hSl k hk
      have hlay := hts _ (hin _ (u_in_lay hk))
      unfold u_lay at hlay
      have hst := (u_facts hfc hkC (u_lays hts hin hk) hi).1
      have fin : ∀ H1 : Heap, H1[b.1 + a]? = some (cell.setSlot f.slot (ab_v b v)) → H1.size = H.size → (∀ q : Nat, q ≠ b.1 + a → H1[q]? = H[q]?) → W p l e R s m args below meth c H1 (locs ++ [⟨b.1 + a, f.slot⟩]) u.1 u.2 Q (F0 m (pc + 3) ls (st'.map (ab_v b))) := by
        intro H1 e1 e2 e3
        rw [hsl] at e1
        have hat : va_at D cl (b.1 + a, .inr (ci, (q.2.map (ab_v b)).set k (ab_v b v))) H1 := ⟨_, hc, t_OB.to (V := updV (vp_V (q.2.map (ab_v b))) k (ab_v b v)) ⟨_, e1, q2, q3, t_set q4 hap hk _⟩ (fun j _ => vp_updV_set (by simpa using hkl) _ j)⟩
        obtain ⟨a1, a2, a3⟩ := ab_set (s := s) (x := .inr (ci, q.2.set k v)) (i := f.slot) hP hz hS ha (by show Sum.inr (ci, (q.2.set k v).map (ab_v b)) = _; rw [List.map_set]) hat e2 e3
        exact kk H1 _ ls a1 a2 a3 hl
      rcases hfin with hfin | ⟨hfin, hini, hdecl⟩
      · rw [if_neg (by rw [hfin]; decide)] at hlay
        have h6 := u_store hfc hkC hkind hlay hi hdt hn hfit
        exact W.putK hx hb (f := f) ⟨hown, hts _ hlink, ⟨_, _, _, hi⟩, hst⟩ (by rw [q2]; exact h6) q1 q3 (by rw [hsl]; exact k2_hasslot (q4 k hk)) rfl rfl hd fin
      · rw [if_pos hfin] at hlay
        have hcf : m.cls = cf := by
          obtain ⟨_, _, c', _, _, _, -, -, hf', -, -, -, hown2, -⟩ := Cond.laysFinal_spec hlay
          have e1 : c' = cf := by have := hi.symm.trans hf'; simp at this; exact this.1.symm
          rw [hdecl] at hown2
          rw [← e1]; exact Option.some.inj (hown.symm.trans hown2)
        have h6 := u_fits hfc hkC hkind (Or.inr hlay) hi hdt hn hfit
        exact W.putFinK hx hb hown (hts _ hlink) hi hst hcf hini (by rw [q2]; exact h6) q1 q3 (by rw [hsl]; exact k2_hasslot (q4 k hk)) rfl rfl hd fin
    · cases h
  · cases h
theorem ab_ald_ok {t0 : Nat} (hj : P j = pc + 1) (row : ∀ (hp : ab_H) (H : Heap) (locs : List Loc) (cells slots : Nat) (ls : Array Slot) (rest : List Value) (a n : Nat) (f : Nat → Int32) (i : Int32), va_P D cl (ab_w b cA hp) H → (ab_w b cA hp)[a]? = some (b.1 + a, .inl (cA t0, n, .inl f)) → vp_in i n → W p l e R s m args below meth c H locs cells slots Q (F0 m (pc + 1) ls (.int (f i.toNatClampNeg) :: rest)) → W p l e R s m args below meth c H locs cells slots Q (F0 m pc ls (.int i :: .ref (b.1 + a) :: rest))) : ab_ok p l e R s m args below meth c Q b D cl cA nL o P pc (ab_nx j (ab_ald t0)) := by
  refine ab_nx_ok (pc + 1) hj fun σ σ' h kk => ?_
  obtain ⟨lo, st, u, hp⟩ := σ
  unfold ab_ald at h
  dsimp only at h
  split at h
  · rename_i i a st'
    obtain ⟨h1, h⟩ := ab_condN h
    have ha := of_decide_eq_true h1
    split at h
    · rename_i t2 n f hq
      obtain ⟨h2, rfl⟩ := ab_cond h
      rw [Bool.and_eq_true] at h2
      have ht2 : t2 = t0 := by simpa using h2.1
      subst ht2
      intro H locs ls hP hz hS hl
      exact row hp H _ _ _ ls _ a n f i hP (by rw [ab_w_at ha, hq]; rfl) (ab_in_ok h2.2) (kk H locs ls hP hz hS hl)
    · cases h
  · cases h
theorem ab_lald_ok (hx : p.tables.exec = Jvm.exec) (hb : c.code = cc) (hK : va_K D cl (ab_tys cA) s) (hd : decode cc pc = .ok (.laload, 1)) (hj : P j = pc + 1) : ab_ok p l e R s m args below meth c Q b D cl cA nL o P pc (ab_nx j ab_lald) := by
  refine ab_nx_ok (pc + 1) hj fun σ σ' h kk => ?_
  obtain ⟨lo, st, u, hp⟩ := σ
  unfold ab_lald at h
  dsimp only at h
  split at h
  · rename_i i a st'
    obtain ⟨h1, h⟩ := ab_condN h
    have ha := of_decide_eq_true h1
    split at h
    · rename_i t2 n f hq
      obtain ⟨h2, rfl⟩ := ab_cond h
      rw [Bool.and_eq_true] at h2
      have ht2 : t2 = 2 := by simpa using h2.1
      subst ht2
      intro H locs ls hP hz hS hl
      exact va_lald hx hb hK hP a 2 (by rw [ab_w_at ha, hq]; rfl) rfl (ab_in_ok h2.2) hd (kk H locs ls hP hz hS hl)
    · cases h
  · cases h
theorem ab_rf_ok (r : Option Nat) : ab_v b (ab_rf r) = va_rf (r.map (fun k => b.1 + k)) := by cases r <;> rfl
theorem ab_aald_ok {t0 : Nat} {C : String} (hx : p.tables.exec = Jvm.exec) (hb : c.code = cc) (hK : va_K D cl (ab_tys cA) s) (ht : (ab_tys cA)[t0]? = some (cA t0, .object C)) (hd : decode cc pc = .ok (.aaload, 1)) (hj : P j = pc + 1) : ab_ok p l e R s m args below meth c Q b D cl cA nL o P pc (ab_nx j (ab_aald t0)) := by
  refine ab_nx_ok (pc + 1) hj fun σ σ' h kk => ?_
  obtain ⟨lo, st, u, hp⟩ := σ
  unfold ab_aald at h
  dsimp only at h
  split at h
  · rename_i i a st'
    obtain ⟨h1, h⟩ := ab_condN h
    have ha := of_decide_eq_true h1
    split at h
    · rename_i t2 n f hq
      obtain ⟨h2, rfl⟩ := ab_cond h
      rw [Bool.and_eq_true] at h2
      have ht2 : t2 = t0 := by simpa using h2.1
      subst ht2
      intro H locs ls hP hz hS hl
      have hk := kk H locs ls hP hz hS hl
      simp only [List.map_cons, ab_rf_ok] at hk
      exact va_aldq (f := fun j => (f j).map (fun k => b.1 + k)) hx hb hK hP a t2 (by rw [ab_w_at ha, hq]; rfl) ht (ab_in_ok h2.2) hd hk
    · cases h
  · cases h
theorem ab_ast_ok {t0 : Nat} (hj : P j = pc + 1) (row : ∀ (hp : ab_H) (H : Heap) (locs : List Loc) (cells slots : Nat) (ls : Array Slot) (rest : List Value) (a n : Nat) (f : Nat → Int32) (i x : Int32), va_at D cl (b.1 + a, .inl (cA t0, n, .inl f)) H → vp_in i n →
      (∀ H1 : Heap, va_at D cl (b.1 + a, .inl (cA t0, n, .inl (upd f i.toNatClampNeg (ab_nar t0 x)))) H1 → H1.size = H.size → (∀ q : Nat, q ≠ b.1 + a → H1[q]? = H[q]?) → W p l e R s m args below meth c H1 (locs ++ [⟨b.1 + a, i.toNatClampNeg⟩]) cells slots Q (F0 m (pc + 1) ls rest)) → W p l e R s m args below meth c H locs cells slots Q (F0 m pc ls (.int x :: .int i :: .ref (b.1 + a) :: rest))) : ab_ok p l e R s m args below meth c Q b D cl cA nL o P pc (ab_nx j (ab_ast t0)) := by
  refine ab_nx_ok (pc + 1) hj fun σ σ' h kk => ?_
  obtain ⟨lo, st, u, hp⟩ := σ
  unfold ab_ast at h
  dsimp only at h
  split at h
  · rename_i x i a st'
    obtain ⟨h1, h⟩ := ab_condN h
    have ha := of_decide_eq_true h1
    split at h
    · rename_i t2 n f hq
      obtain ⟨h2, rfl⟩ := ab_cond h
      rw [Bool.and_eq_true] at h2
      have ht2 : t2 = t0 := by simpa using h2.1
      subst ht2
      intro H locs ls hP hz hS hl
      have he : (ab_w b cA hp)[a]? = some (b.1 + a, .inl (cA t2, n, .inl f)) := by rw [ab_w_at ha, hq]; rfl
      refine row hp H _ _ _ ls _ a n f i x (hP a _ he) (ab_in_ok h2.2) fun H1 g1 g2 g3 => ?_
      obtain ⟨a1, a2, a3⟩ := ab_set (s := s) (x := .inl (t2, n, .inl (upd f i.toNatClampNeg (ab_nar t2 x)))) (i := i.toNatClampNeg) hP hz hS ha rfl g1 g2 g3
      exact kk H1 _ ls a1 a2 a3 hl
    · cases h
  · cases h
theorem ab_iast_ok (hx : p.tables.exec = Jvm.exec) (hb : c.code = cc) (hK : va_K D cl (ab_tys cA) s) (hd : decode cc pc = .ok (.iastore, 1)) (hj : P j = pc + 1) : ab_ok p l e R s m args below meth c Q b D cl cA nL o P pc (ab_nx j (ab_ast 1)) := by
  refine ab_ast_ok hj fun hp H locs cells slots ls rest a n f i x he hin kk => ?_
  refine W.iast hx hb he ((hK.2 1 _ rfl).1 n (fun j => .int (f j))) (fun q => by cases q) (by show ¬ (i < 0 ∨ (arrV _ _ _).slots.size ≤ _); rw [arrV_size]; exact hin) rfl rfl hd fun H1 e z oq => ?_
  refine kk H1 ?_ z oq
  show H1[b.1 + a]? = some (vp_cell _ _)
  rw [e, vp_cell_i, vp_cell_i, arrV_store]
  congr 2
  funext q
  by_cases hq : q = i.toNatClampNeg
  · subst hq
    simp [updV, upd, ab_nar]
  · simp [updV, upd, hq]
theorem ab_bast_ok (hx : p.tables.exec = Jvm.exec) (hb : c.code = cc) (hK : va_K D cl (ab_tys cA) s) (hd : decode cc pc = .ok (.bastore, 1)) (hj : P j = pc + 1) : ab_ok p l e R s m args below meth c Q b D cl cA nL o P pc (ab_nx j (ab_ast 0)) := by
  refine ab_ast_ok hj fun hp H locs cells slots ls rest a n f i x he hin kk => ?_
  refine W.bast hx hb he ((hK.2 0 _ rfl).1 n (fun j => .int (f j))) (fun q => by cases q) (by show ¬ (i < 0 ∨ (arrV _ _ _).slots.size ≤ _); rw [arrV_size]; exact hin) rfl rfl hd fun H1 e z oq => ?_
  refine kk H1 ?_ z oq
  show H1[b.1 + a]? = some (vp_cell _ _)
  rw [e, vp_cell_i, vp_cell_i, arrV_store]
  congr 2
  funext q
  by_cases hq : q = i.toNatClampNeg
  · subst hq
    simp [updV, upd, ab_nar, vp_nar]
    try rfl
  · simp [updV, upd, hq]
theorem ab_zast_ok (hx : p.tables.exec = Jvm.exec) (hb : c.code = cc) (hK : va_K D cl (ab_tys cA) s) (hd : decode cc pc = .ok (.bastore, 1)) (hj : P j = pc + 1) : ab_ok p l e R s m args below meth c Q b D cl cA nL o P pc (ab_nx j (ab_ast 3)) := by
  refine ab_ast_ok hj fun hp H locs cells slots ls rest a n f i x he hin kk => ?_
  refine W.zast hx hb he ((hK.2 3 _ rfl).1 n (fun j => .int (f j))) (fun q => by cases q) (by show ¬ (i < 0 ∨ (arrV _ _ _).slots.size ≤ _); rw [arrV_size]; exact hin) rfl rfl hd fun H1 e z oq => ?_
  refine kk H1 ?_ z oq
  show H1[b.1 + a]? = some (vp_cell _ _)
  rw [e, vp_cell_i, vp_cell_i, arrV_store]
  congr 2
  funext q
  by_cases hq : q = i.toNatClampNeg
  · subst hq
    simp [updV, upd, ab_nar, vp_nar]
    try rfl
  · simp [updV, upd, hq]
theorem ab_iald_ok (hx : p.tables.exec = Jvm.exec) (hb : c.code = cc) (hK : va_K D cl (ab_tys cA) s) (hd : decode cc pc = .ok (.iaload, 1)) (hj : P j = pc + 1) : ab_ok p l e R s m args below meth c Q b D cl cA nL o P pc (ab_nx j (ab_ald 1)) :=
  ab_ald_ok hj fun _ _ _ _ _ _ _ a _ _ _ hP he hin k => va_iald hx hb hK hP a 1 he rfl hin hd k
theorem ab_bald_ok (hx : p.tables.exec = Jvm.exec) (hb : c.code = cc) (hK : va_K D cl (ab_tys cA) s) (hd : decode cc pc = .ok (.baload, 1)) (hj : P j = pc + 1) : ab_ok p l e R s m args below meth c Q b D cl cA nL o P pc (ab_nx j (ab_ald 0)) :=
  ab_ald_ok hj fun _ _ _ _ _ _ _ a _ _ _ hP he hin k => va_bald hx hb hK hP a 0 he rfl hin hd k
theorem ab_zald_ok (hx : p.tables.exec = Jvm.exec) (hb : c.code = cc) (hK : va_K D cl (ab_tys cA) s) (hd : decode cc pc = .ok (.baload, 1)) (hj : P j = pc + 1) : ab_ok p l e R s m args below meth c Q b D cl cA nL o P pc (ab_nx j (ab_ald 3)) :=
  ab_ald_ok hj fun _ _ _ _ _ _ _ a _ _ _ hP he hin k => va_zald hx hb hK hP a 3 he rfl hin hd k
theorem ab_last_ok (hx : p.tables.exec = Jvm.exec) (hb : c.code = cc) (hK : va_K D cl (ab_tys cA) s) (hd : decode cc pc = .ok (.lastore, 1)) (hj : P j = pc + 1) : ab_ok p l e R s m args below meth c Q b D cl cA nL o P pc (ab_nx j ab_last) := by
  refine ab_nx_ok (pc + 1) hj fun σ σ' h kk => ?_
  obtain ⟨lo, st, u, hp⟩ := σ
  unfold ab_last at h
  dsimp only at h
  split at h
  · rename_i x i a st'
    obtain ⟨h1, h⟩ := ab_condN h
    have ha := of_decide_eq_true h1
    split at h
    · rename_i t2 n f hq
      obtain ⟨h2, rfl⟩ := ab_cond h
      rw [Bool.and_eq_true] at h2
      have ht2 : t2 = 2 := by simpa using h2.1
      subst ht2
      intro H locs ls hP hz hS hl
      have he : (ab_w b cA hp)[a]? = some (b.1 + a, .inl (cA 2, n, .inr (.inl f))) := by rw [ab_w_at ha, hq]; rfl
      have hin := ab_in_ok h2.2
      refine W.last hx hb (hP a _ he) ((hK.2 2 _ rfl).1 n (fun j => .long (f j))) (fun q => by cases q) (by show ¬ (i < 0 ∨ (arrV _ _ _).slots.size ≤ _); rw [arrV_size]; exact hin) rfl rfl hd fun H1 e z oq => ?_
      have g1 : va_at D cl (b.1 + a, .inl (cA 2, n, .inr (.inl (vp_updL f i.toNatClampNeg x)))) H1 := by
        show H1[b.1 + a]? = some (vp_cell _ _)
        rw [e, vp_cell_l, vp_cell_l, arrV_store]
        congr 2
        funext q
        by_cases hq : q = i.toNatClampNeg
        · subst hq
          simp [updV, vp_updL]
        · simp [updV, vp_updL, hq]
      obtain ⟨a1, a2, a3⟩ := ab_set (s := s) (x := .inl (2, n, .inr (.inl (vp_updL f i.toNatClampNeg x)))) (i := i.toNatClampNeg) hP hz hS ha rfl g1 z oq
      exact kk H1 _ ls a1 a2 a3 hl
    · cases h
  · cases h
end AB
