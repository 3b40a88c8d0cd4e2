/-! ===== the steps, backwards: what came of a step that was done ===== -/
theorem v_getf {ci k a : Nat} {lo : List (Option Value)} {st : List Value} {u : Nat × Nat} {hp : ab_H} {s : ab_S} (e : ab_getf ci k (lo, .ref a :: st, u, hp) = some s) : ∃ fs v, a < hp.1 ∧ hp.2 a = .inr (ci, fs) ∧ fs[k]? = some v ∧ s = (lo, v :: st, u, hp) := by
  unfold ab_getf at e
  dsimp only at e
  by_cases ha : a < hp.1
  · rw [decide_eq_true ha, cond_true] at e
    split at e
    · rename_i o ho
      by_cases hc : o.1 = ci
      · rw [show (o.1 == ci) = true from by simp [hc], cond_true] at e
        split at e
        · rename_i v hv
          exact ⟨o.2, v, ha, by rw [ho, ← hc], hv, (Option.some.inj e).symm⟩
        · cases e
      · rw [show (o.1 == ci) = false from by simp [hc], cond_false] at e
        cases e
    · cases e
  · rw [decide_eq_false ha, cond_false] at e
    cases e
theorem v_putf {ci k kd a : Nat} {v : Value} {lo : List (Option Value)} {st : List Value} {u : Nat × Nat} {hp : ab_H} {s : ab_S} (e : ab_putf ci k kd (lo, v :: .ref a :: st, u, hp) = some s) : ∃ fs, a < hp.1 ∧ ab_fit kd v = true ∧ hp.2 a = .inr (ci, fs) ∧ k < fs.length ∧ s = (lo, st, u, ab_up hp a (.inr (ci, fs.set k v))) := by
  unfold ab_putf at e
  dsimp only at e
  by_cases ha : (decide (a < hp.1) && ab_fit kd v) = true
  · rw [ha, cond_true] at e
    rw [Bool.and_eq_true] at ha
    split at e
    · rename_i o ho
      by_cases hc : (o.1 == ci && decide (k < o.2.length)) = true
      · rw [hc, cond_true] at e
        rw [Bool.and_eq_true] at hc
        have h1 : o.1 = ci := by simpa using hc.1
        exact ⟨o.2, of_decide_eq_true ha.1, ha.2, by rw [ho, ← h1], of_decide_eq_true hc.2, (Option.some.inj e).symm⟩
      · rw [Bool.not_eq_true] at hc
        rw [hc, cond_false] at e
        cases e
    · cases e
  · rw [Bool.not_eq_true] at ha
    rw [ha, cond_false] at e
    cases e
theorem v_ald {t a : Nat} {x : Int32} {lo : List (Option Value)} {st : List Value} {u : Nat × Nat} {hp : ab_H} {s : ab_S} (e : ab_ald t (lo, .int x :: .ref a :: st, u, hp) = some s) : ∃ n f, a < hp.1 ∧ hp.2 a = .inl (t, n, .inl f) ∧ ab_in x n = true ∧ s = (lo, .int (f x.toNatClampNeg) :: st, u, hp) := by
  unfold ab_ald at e
  dsimp only at e
  by_cases ha : a < hp.1
  · rw [decide_eq_true ha, cond_true] at e
    split at e
    · rename_i t2 n f ho
      by_cases hc : (t2 == t && ab_in x n) = true
      · rw [hc, cond_true] at e
        rw [Bool.and_eq_true] at hc
        have h1 : t2 = t := by simpa using hc.1
        exact ⟨n, f, ha, by rw [ho, h1], hc.2, (Option.some.inj e).symm⟩
      · rw [Bool.not_eq_true] at hc
        rw [hc, cond_false] at e
        cases e
    · cases e
  · rw [decide_eq_false ha, cond_false] at e
    cases e
theorem v_ast {t a : Nat} {x y : Int32} {lo : List (Option Value)} {st : List Value} {u : Nat × Nat} {hp : ab_H} {s : ab_S} (e : ab_ast t (lo, .int y :: .int x :: .ref a :: st, u, hp) = some s) : ∃ n f, a < hp.1 ∧ hp.2 a = .inl (t, n, .inl f) ∧ ab_in x n = true ∧ s = (lo, st, u, ab_up hp a (.inl (t, n, .inl (upd f x.toNatClampNeg (ab_nar t y))))) := by
  unfold ab_ast at e
  dsimp only at e
  by_cases ha : a < hp.1
  · rw [decide_eq_true ha, cond_true] at e
    split at e
    · rename_i t2 n f ho
      by_cases hc : (t2 == t && ab_in x n) = true
      · rw [hc, cond_true] at e
        rw [Bool.and_eq_true] at hc
        have h1 : t2 = t := by simpa using hc.1
        exact ⟨n, f, ha, by rw [ho, h1], hc.2, (Option.some.inj e).symm⟩
      · rw [Bool.not_eq_true] at hc
        rw [hc, cond_false] at e
        cases e
    · cases e
  · rw [decide_eq_false ha, cond_false] at e
    cases e
theorem v_lald {a : Nat} {x : Int32} {lo : List (Option Value)} {st : List Value} {u : Nat × Nat} {hp : ab_H} {s : ab_S} (e : ab_lald (lo, .int x :: .ref a :: st, u, hp) = some s) : ∃ n f, a < hp.1 ∧ hp.2 a = .inl (2, n, .inr (.inl f)) ∧ ab_in x n = true ∧ s = (lo, .long (f x.toNatClampNeg) :: st, u, hp) := by
  unfold ab_lald at e
  dsimp only at e
  by_cases ha : a < hp.1
  · rw [decide_eq_true ha, cond_true] at e
    split at e
    · rename_i t2 n f ho
      by_cases hc : (t2 == 2 && ab_in x n) = true
      · rw [hc, cond_true] at e
        rw [Bool.and_eq_true] at hc
        have h1 : t2 = 2 := by simpa using hc.1
        exact ⟨n, f, ha, by rw [ho, h1], hc.2, (Option.some.inj e).symm⟩
      · rw [Bool.not_eq_true] at hc
        rw [hc, cond_false] at e
        cases e
    · cases e
  · rw [decide_eq_false ha, cond_false] at e
    cases e
theorem v_last {a : Nat} {x : Int32} {y : Int64} {lo : List (Option Value)} {st : List Value} {u : Nat × Nat} {hp : ab_H} {s : ab_S} (e : ab_last (lo, .long y :: .int x :: .ref a :: st, u, hp) = some s) : ∃ n f, a < hp.1 ∧ hp.2 a = .inl (2, n, .inr (.inl f)) ∧ ab_in x n = true ∧ s = (lo, st, u, ab_up hp a (.inl (2, n, .inr (.inl (vp_updL f x.toNatClampNeg y))))) := by
  unfold ab_last at e
  dsimp only at e
  by_cases ha : a < hp.1
  · rw [decide_eq_true ha, cond_true] at e
    split at e
    · rename_i t2 n f ho
      by_cases hc : (t2 == 2 && ab_in x n) = true
      · rw [hc, cond_true] at e
        rw [Bool.and_eq_true] at hc
        have h1 : t2 = 2 := by simpa using hc.1
        exact ⟨n, f, ha, by rw [ho, h1], hc.2, (Option.some.inj e).symm⟩
      · rw [Bool.not_eq_true] at hc
        rw [hc, cond_false] at e
        cases e
    · cases e
  · rw [decide_eq_false ha, cond_false] at e
    cases e
theorem v_aald {t a : Nat} {x : Int32} {lo : List (Option Value)} {st : List Value} {u : Nat × Nat} {hp : ab_H} {s : ab_S} (e : ab_aald t (lo, .int x :: .ref a :: st, u, hp) = some s) : ∃ n f, a < hp.1 ∧ hp.2 a = .inl (t, n, .inr (.inr (.inr (.inr f)))) ∧ ab_in x n = true ∧ s = (lo, ab_rf (f x.toNatClampNeg) :: st, u, hp) := by
  unfold ab_aald at e
  dsimp only at e
  by_cases ha : a < hp.1
  · rw [decide_eq_true ha, cond_true] at e
    split at e
    · rename_i t2 n f ho
      by_cases hc : (t2 == t && ab_in x n) = true
      · rw [hc, cond_true] at e
        rw [Bool.and_eq_true] at hc
        have h1 : t2 = t := by simpa using hc.1
        exact ⟨n, f, ha, by rw [ho, h1], hc.2, (Option.some.inj e).symm⟩
      · rw [Bool.not_eq_true] at hc
        rw [hc, cond_false] at e
        cases e
    · cases e
  · rw [decide_eq_false ha, cond_false] at e
    cases e
theorem v_aast {t ci a v : Nat} {x : Int32} {lo : List (Option Value)} {st : List Value} {u : Nat × Nat} {hp : ab_H} {s : ab_S} (e : ab_aast t ci (lo, .ref v :: .int x :: .ref a :: st, u, hp) = some s) : ∃ n f, a < hp.1 ∧ v < hp.1 ∧ hp.2 a = .inl (t, n, .inr (.inr (.inr (.inr f)))) ∧ ab_in x n = true ∧ s = (lo, st, u, ab_up hp a (.inl (t, n, .inr (.inr (.inr (.inr (va_up f x.toNatClampNeg (some v)))))))) := by
  unfold ab_aast at e
  dsimp only at e
  by_cases ha : (decide (a < hp.1) && decide (v < hp.1)) = true
  · rw [ha, cond_true] at e
    rw [Bool.and_eq_true] at ha
    split at e
    · rename_i t2 n f ho
      rw [Bool.cond_eq_ite] at e
      have hx : ∀ (b : Bool) (y : ab_S), (if (t2 == t && ab_in x n && b) = true then some y else none) = some s → (t2 == t && ab_in x n) = true ∧ s = y := fun b y hy => by
        by_cases hc : (t2 == t && ab_in x n && b) = true
        · rw [if_pos hc] at hy
          rw [Bool.and_eq_true] at hc
          exact ⟨hc.1, (Option.some.inj hy).symm⟩
        · rw [if_neg hc] at hy
          cases hy
      obtain ⟨hc, h2⟩ := hx _ _ e
      rw [Bool.and_eq_true] at hc
      have h1 : t2 = t := by simpa using hc.1
      exact ⟨n, f, of_decide_eq_true ha.1, of_decide_eq_true ha.2, by rw [ho, h1], hc.2, h2⟩
    · cases e
  · rw [Bool.not_eq_true] at ha
    rw [ha, cond_false] at e
    cases e
theorem v_copy {sp dp n : Int32} {a a0 : Nat} {lo : List (Option Value)} {st : List Value} {u : Nat × Nat} {hp : ab_H} {s : ab_S} (e : ab_copy (lo, .int n :: .int dp :: .ref a :: .int sp :: .ref a0 :: st, u, hp) = some s) :
    (∃ n0 n1 f g, hp.2 a0 = .inl (1, n0, .inl f) ∧ hp.2 a = .inl (1, n1, .inl g) ∧ s = (lo, st, u, ab_up hp a (.inl (1, n1, .inl (va_cpy f g sp.toNatClampNeg dp.toNatClampNeg n.toNatClampNeg))))) ∨
    ∃ n0 n1 f g, hp.2 a0 = .inl (2, n0, .inr (.inl f)) ∧ hp.2 a = .inl (2, n1, .inr (.inl g)) ∧ s = (lo, st, u, ab_up hp a (.inl (2, n1, .inr (.inl (va_cpy f g sp.toNatClampNeg dp.toNatClampNeg n.toNatClampNeg))))) := by
  unfold ab_copy at e
  dsimp only at e
  rw [Bool.cond_eq_ite] at e
  split at e
  · split at e
    · rename_i n0 f n1 g h0 h1
      rw [Bool.cond_eq_ite] at e
      split at e
      · exact Or.inl ⟨n0, n1, f, g, h0, h1, (Option.some.inj e).symm⟩
      · cases e
    · rename_i n0 f n1 g h0 h1
      rw [Bool.cond_eq_ite] at e
      split at e
      · exact Or.inr ⟨n0, n1, f, g, h0, h1, (Option.some.inj e).symm⟩
      · cases e
    · cases e
  · cases e
theorem v_call {nA mc ms MC MS : Nat} {X : List Value → ab_H → Option ab_O} {lo : List (Option Value)} {st : List Value} {u : Nat × Nat} {hp : ab_H} {s : ab_S} (e : ab_call nA X mc ms MC MS (lo, st, u, hp) = some s) : ∃ o, X (st.take nA).reverse hp = some o ∧ s = (lo, o.1.toList ++ st.drop nA, (u.1 + mc, u.2 + ms), o.2) := by
  unfold ab_call at e
  dsimp only at e
  rw [Bool.cond_eq_ite] at e
  split at e
  · split at e
    · rename_i o ho
      exact ⟨o, ho, (Option.some.inj e).symm⟩
    · cases e
  · cases e
/-! ===== RUNS: whatever a run from here comes to (fewer than N steps), it is so ===== -/
def Pv (T : Nat → Option ab_A) (N i : Nat) (lo : List (Option Value)) (st : List Value) (F : FW) (Q : Option Value → FW → Prop) : Prop := ∀ (f : Nat) (u : Nat × Nat) (hp : ab_H) (o : ab_O), f < N → wt hp → fl hp = F → ab_run T f i (lo, st, u, hp) = some o → wt o.2 ∧ Q o.1 (fl o.2)
/-- whatever X answers there, it is so -/
def Pm (X : List Value → ab_H → Option ab_O) (as : List Value) (F : FW) (Q : Option Value → FW → Prop) : Prop := ∀ (hp : ab_H) (o : ab_O), wt hp → fl hp = F → X as hp = some o → wt o.2 ∧ Q o.1 (fl o.2)
abbrev PI (X : List Value → ab_H → Option ab_O) (as : List Value) (F : FW) (z : Int32) (G : FW) : Prop := Pm X as F (fun r F' => r = some (.int z) ∧ F' = G)
abbrev PU (X : List Value → ab_H → Option ab_O) (as : List Value) (F : FW) (G : FW) : Prop := Pm X as F (fun r F' => r = none ∧ F' = G)
theorem Pm.of {L : List (Nat × ab_A)} {nL : Nat} {as : List Value} {F : FW} {Q : Option Value → FW → Prop} (h : ∀ N, Pv (ab_T L) N 0 (ab_en nL as) [] F Q) : Pm (ab_X (ab_T L) nL) as F Q := by
  intro hp o hw hF e
  obtain ⟨-, f, hf⟩ := ab_X_run e
  exact h (f + 1) f (0, 0) hp o (Nat.lt_succ_self f) hw hF hf
section PV
variable {T : Nat → Option ab_A} {N i j : Nat} {lo : List (Option Value)} {st : List Value} {F : FW} {Q : Option Value → FW → Prop}
theorem Pv.w (h : Pv T (N + 1) i lo st F Q) : Pv T N i lo st F Q := fun f u hp o hf => h f u hp o (Nat.lt_succ_of_lt hf)
theorem Pv.gen {a : ab_A} (hT : T i = some a) (h : ∀ u hp, wt hp → fl hp = F → (∀ j lo' st' u' hp', a (lo, st, u, hp) = some (.inl (j, lo', st', u', hp')) → wt hp' ∧ Pv T N j lo' st' (fl hp') Q) ∧ (∀ o, a (lo, st, u, hp) = some (.inr o) → wt o.2 ∧ Q o.1 (fl o.2))) : Pv T (N + 1) i lo st F Q := by
  intro f u hp o hf hw hF hr
  cases f with
  | zero => cases hr
  | succ f =>
    rw [ab_run, hT] at hr
    dsimp only at hr
    cases e : a (lo, st, u, hp) with
    | none =>
      rw [e] at hr
      cases hr
    | some q =>
      rw [e] at hr
      cases q with
      | inl q =>
        obtain ⟨j, lo', st', u', hp'⟩ := q
        obtain ⟨w, p⟩ := (h u hp hw hF).1 j lo' st' u' hp' e
        exact p f u' hp' o (by omega) w rfl hr
      | inr o' =>
        have e2 : o' = o := Option.some.inj hr
        subst e2
        exact (h u hp hw hF).2 o' e
theorem Pv.nx {f : ab_S → Option ab_S} (hT : T i = some (ab_nx j f)) (h : ∀ u hp s, wt hp → fl hp = F → f (lo, st, u, hp) = some s → wt s.2.2.2 ∧ Pv T N j s.1 s.2.1 (fl s.2.2.2) Q) : Pv T (N + 1) i lo st F Q := by
  refine Pv.gen hT fun u hp hw hF => ⟨fun j' lo' st' u' hp' e => ?_, fun o e => ?_⟩
  · unfold ab_nx at e
    split at e
    · rename_i s hs
      obtain ⟨rfl, rfl⟩ := Prod.mk.inj (Sum.inl.inj (Option.some.inj e))
      exact h u hp _ hw hF hs
    · cases e
  · unfold ab_nx at e
    split at e <;> cases e
/-- a step that leaves the heap alone -/
theorem Pv.pu {f : ab_S → Option ab_S} {lo' : List (Option Value)} {st' : List Value} (hT : T i = some (ab_nx j f)) (hf : ∀ u hp s, f (lo, st, u, hp) = some s → s = (lo', st', u, hp)) (h : Pv T N j lo' st' F Q) : Pv T (N + 1) i lo st F Q :=
  Pv.nx hT fun u hp s hw hF e => by
    obtain rfl := hf u hp s e
    refine ⟨hw, ?_⟩
    show Pv T N j lo' st' (fl hp) Q
    rw [hF]
    exact h
theorem Pv.litS {v : Value} (hT : T i = some (ab_nx j (ab_lit v))) (h : Pv T N j lo (v :: st) F Q) : Pv T (N + 1) i lo st F Q := Pv.pu hT (fun _ _ _ e => (Option.some.inj e).symm) h
theorem Pv.lit {v : Value} (hT : T i = some (ab_nx j (ab_lit v))) (h : Pv T N j lo (v :: st) F Q) : Pv T N i lo st F Q := (Pv.litS hT h).w
theorem Pv.iloadS {k : Nat} {x : Int32} (hT : T i = some (ab_nx j (ab_iload k))) (hl : lo[k]? = some (some (.int x))) (h : Pv T N j lo (.int x :: st) F Q) : Pv T (N + 1) i lo st F Q := Pv.pu hT (fun u hp s e => by
  unfold ab_iload at e
  dsimp only at e
  rw [hl] at e
  exact (Option.some.inj e).symm) h
theorem Pv.iload {k : Nat} {x : Int32} (hT : T i = some (ab_nx j (ab_iload k))) (hl : lo[k]? = some (some (.int x))) (h : Pv T N j lo (.int x :: st) F Q) : Pv T N i lo st F Q := (Pv.iloadS hT hl h).w
theorem Pv.lload {k : Nat} {x : Int64} (hT : T i = some (ab_nx j (ab_lload k))) (hl : lo[k]? = some (some (.long x))) (h : Pv T N j lo (.long x :: st) F Q) : Pv T N i lo st F Q := (Pv.pu hT (fun u hp s e => by
  unfold ab_lload at e
  dsimp only at e
  rw [hl] at e
  exact (Option.some.inj e).symm) h).w
theorem Pv.aloadS {k a : Nat} (hT : T i = some (ab_nx j (ab_aload k))) (hl : lo[k]? = some (some (.ref a))) (h : Pv T N j lo (.ref a :: st) F Q) : Pv T (N + 1) i lo st F Q := Pv.pu hT (fun u hp s e => by
  unfold ab_aload at e
  dsimp only at e
  rw [hl] at e
  exact (Option.some.inj e).symm) h
theorem Pv.aload {k a : Nat} (hT : T i = some (ab_nx j (ab_aload k))) (hl : lo[k]? = some (some (.ref a))) (h : Pv T N j lo (.ref a :: st) F Q) : Pv T N i lo st F Q := (Pv.aloadS hT hl h).w
theorem Pv.aloadN {k : Nat} (hT : T i = some (ab_nx j (ab_aload k))) (hl : lo[k]? = some (some .null)) (h : Pv T N j lo (.null :: st) F Q) : Pv T N i lo st F Q := (Pv.pu hT (fun u hp s e => by
  unfold ab_aload at e
  dsimp only at e
  rw [hl] at e
  exact (Option.some.inj e).symm) h).w
theorem Pv.istore {k : Nat} {x : Int32} {lo' : List (Option Value)} (hT : T i = some (ab_nx j (ab_istore k))) (hl : lo.set k (some (.int x)) = lo') (h : Pv T N j lo' st F Q) : Pv T N i lo (.int x :: st) F Q := (Pv.pu hT (fun u hp s e => by
  subst hl
  unfold ab_istore at e
  dsimp only at e
  rw [Bool.cond_eq_ite] at e
  split at e
  · exact (Option.some.inj e).symm
  · cases e) h).w
theorem Pv.astore {k a : Nat} {lo' : List (Option Value)} (hT : T i = some (ab_nx j (ab_astore k))) (hl : lo.set k (some (.ref a)) = lo') (h : Pv T N j lo' st F Q) : Pv T N i lo (.ref a :: st) F Q := (Pv.pu hT (fun u hp s e => by
  subst hl
  unfold ab_astore at e
  dsimp only at e
  rw [Bool.cond_eq_ite] at e
  split at e
  · exact (Option.some.inj e).symm
  · cases e) h).w
theorem Pv.astoreN {k : Nat} {lo' : List (Option Value)} (hT : T i = some (ab_nx j (ab_astore k))) (hl : lo.set k (some .null) = lo') (h : Pv T N j lo' st F Q) : Pv T N i lo (.null :: st) F Q := (Pv.pu hT (fun u hp s e => by
  subst hl
  unfold ab_astore at e
  dsimp only at e
  rw [Bool.cond_eq_ite] at e
  split at e
  · exact (Option.some.inj e).symm
  · cases e) h).w
theorem Pv.iinc {k : Nat} {n x y : Int32} {lo' : List (Option Value)} (hT : T i = some (ab_nx j (ab_iinc k n))) (hi : lo[k]? = some (some (.int x))) (hy : x + n = y) (hl : lo.set k (some (.int y)) = lo') (h : Pv T N j lo' st F Q) : Pv T N i lo st F Q := (Pv.pu hT (fun u hp s e => by
  subst hl hy
  unfold ab_iinc at e
  dsimp only at e
  rw [hi] at e
  dsimp only at e
  rw [Bool.cond_eq_ite] at e
  split at e
  · exact (Option.some.inj e).symm
  · cases e) h).w
theorem Pv.bin {g : Int32 → Int32 → Int32} {x y z : Int32} (hT : T i = some (ab_nx j (ab_bin g))) (hz : g x y = z) (h : Pv T N j lo (.int z :: st) F Q) : Pv T N i lo (.int y :: .int x :: st) F Q := (Pv.pu hT (fun _ _ _ e => by
  subst hz
  exact (Option.some.inj e).symm) h).w
theorem Pv.irem {x y z : Int32} (hT : T i = some (ab_nx j ab_irem)) (hz : x - x / y * y = z) (h : Pv T N j lo (.int z :: st) F Q) : Pv T N i lo (.int y :: .int x :: st) F Q := (Pv.pu hT (fun u hp s e => by
  subst hz
  unfold ab_irem at e
  dsimp only at e
  rw [Bool.cond_eq_ite] at e
  split at e
  · cases e
  · exact (Option.some.inj e).symm) h).w
theorem Pv.un {g : Int32 → Int32} {x z : Int32} (hT : T i = some (ab_nx j (ab_un g))) (hz : g x = z) (h : Pv T N j lo (.int z :: st) F Q) : Pv T N i lo (.int x :: st) F Q := (Pv.pu hT (fun _ _ _ e => by
  subst hz
  exact (Option.some.inj e).symm) h).w
theorem Pv.mm {g : Int32 → Int32 → Int32} {MC MS : Nat} {x y z : Int32} (hT : T i = some (ab_nx j (ab_mm g MC MS))) (hz : g x y = z) (h : Pv T N j lo (.int z :: st) F Q) : Pv T N i lo (.int y :: .int x :: st) F Q := (Pv.pu hT (fun u hp s e => by
  subst hz
  unfold ab_mm at e
  dsimp only at e
  rw [Bool.cond_eq_ite] at e
  split at e
  · exact (Option.some.inj e).symm
  · cases e) h).w
theorem Pv.dup {v : Value} (hT : T i = some (ab_nx j ab_dup)) (h : Pv T N j lo (v :: v :: st) F Q) : Pv T N i lo (v :: st) F Q := (Pv.pu hT (fun u hp s e => by
  unfold ab_dup at e
  dsimp only at e
  rw [Bool.cond_eq_ite] at e
  split at e
  · exact (Option.some.inj e).symm
  · cases e) h).w
theorem Pv.dup2 {v w : Value} (hT : T i = some (ab_nx j ab_dup2)) (h : Pv T N j lo (v :: w :: v :: w :: st) F Q) : Pv T N i lo (v :: w :: st) F Q := (Pv.pu hT (fun u hp s e => by
  unfold ab_dup2 at e
  dsimp only at e
  rw [Bool.cond_eq_ite] at e
  split at e
  · exact (Option.some.inj e).symm
  · cases e) h).w
theorem Pv.pop {v : Value} (hT : T i = some (ab_nx j ab_pop)) (h : Pv T N j lo st F Q) : Pv T N i lo (v :: st) F Q := (Pv.pu hT (fun u hp s e => by
  unfold ab_pop at e
  dsimp only at e
  rw [Bool.cond_eq_ite] at e
  split at e
  · exact (Option.some.inj e).symm
  · cases e) h).w
theorem Pv.obj {a : Nat} (hT : T i = some (ab_nx j ab_obj)) (h : Pv T N j lo st F Q) : Pv T N i lo (.ref a :: st) F Q := (Pv.pu hT (fun u hp s e => by
  unfold ab_obj at e
  dsimp only at e
  rw [Bool.cond_eq_ite] at e
  split at e
  · exact (Option.some.inj e).symm
  · cases e) h).w
theorem Pv.gotoS {t : Nat} (hT : T i = some (ab_goto t)) (h : Pv T N t lo st F Q) : Pv T (N + 1) i lo st F Q :=
  Pv.gen hT fun u hp hw hF => ⟨fun j' lo' st' u' hp' e => by
    obtain ⟨rfl, e2⟩ := Prod.mk.inj (Sum.inl.inj (Option.some.inj e))
    obtain ⟨rfl, e3⟩ := Prod.mk.inj e2
    obtain ⟨rfl, e4⟩ := Prod.mk.inj e3
    obtain ⟨rfl, rfl⟩ := Prod.mk.inj e4
    exact ⟨hw, by rw [hF]; exact h⟩, fun o e => by cases e⟩
theorem Pv.goto {t : Nat} (hT : T i = some (ab_goto t)) (h : Pv T N t lo st F Q) : Pv T N i lo st F Q := (Pv.gotoS hT h).w
theorem Pv.br {a : ab_A} {b : Bool} {t : Nat} {st' : List Value} (hT : T i = some a) (ha : ∀ u hp, a (lo, st, u, hp) = some (.inl (cond b t j, lo, st', u, hp))) (h1 : b = true → Pv T N t lo st' F Q) (h2 : b = false → Pv T N j lo st' F Q) : Pv T N i lo st F Q :=
  (Pv.gen hT fun u hp hw hF => ⟨fun j' lo' st'' u' hp' e => by
    rw [ha] at e
    obtain ⟨rfl, e2⟩ := Prod.mk.inj (Sum.inl.inj (Option.some.inj e))
    obtain ⟨rfl, e3⟩ := Prod.mk.inj e2
    obtain ⟨rfl, e4⟩ := Prod.mk.inj e3
    obtain ⟨rfl, rfl⟩ := Prod.mk.inj e4
    refine ⟨hw, ?_⟩
    rw [hF]
    cases b with
    | true => exact h1 rfl
    | false => exact h2 rfl, fun o e => by rw [ha] at e; cases e⟩).w
theorem Pv.if0 {t : Nat} {g : Int32 → Bool} {x : Int32} (hT : T i = some (ab_if j t g)) (h1 : g x = true → Pv T N t lo st F Q) (h2 : g x = false → Pv T N j lo st F Q) : Pv T N i lo (.int x :: st) F Q := Pv.br (b := g x) hT (fun _ _ => rfl) h1 h2
theorem Pv.icmp {t : Nat} {g : Int32 → Int32 → Bool} {x y : Int32} (hT : T i = some (ab_icmp j t g)) (h1 : g x y = true → Pv T N t lo st F Q) (h2 : g x y = false → Pv T N j lo st F Q) : Pv T N i lo (.int y :: .int x :: st) F Q := Pv.br (b := g x y) hT (fun _ _ => rfl) h1 h2
theorem Pv.nonnullR {t a : Nat} (hT : T i = some (ab_nonnull j t)) (h : Pv T N t lo st F Q) : Pv T N i lo (.ref a :: st) F Q := Pv.br (b := true) (t := t) (j := j) hT (fun _ _ => rfl) (fun _ => h) (fun e => by cases e)
theorem Pv.nonnullN {t : Nat} (hT : T i = some (ab_nonnull j t)) (h : Pv T N j lo st F Q) : Pv T N i lo (.null :: st) F Q := Pv.br (b := false) (t := t) (j := j) hT (fun _ _ => rfl) (fun e => by cases e) (fun _ => h)
theorem Pv.tab {lw : Int} {ts : List Nat} {d t : Nat} {x : Int32} (hT : T i = some (ab_tab lw ts d)) (ht : cond (decide (x.toInt < lw)) d ((ts[(x.toInt - lw).toNat]?).getD d) = t) (h : Pv T N t lo st F Q) : Pv T N i lo (.int x :: st) F Q :=
  Pv.br (b := true) (t := t) (j := t) hT (fun u hp => by
    subst ht
    rfl) (fun _ => h) (fun e => by cases e)
theorem Pv.ret {MC MS : Nat} {x : Int32} (hT : T i = some (ab_ret MC MS)) (h : Q (some (.int x)) F) : Pv T N i lo [.int x] F Q :=
  (Pv.gen hT fun u hp hw hF => ⟨fun j' lo' st' u' hp' e => by
    unfold ab_ret at e
    dsimp only at e
    rw [Bool.cond_eq_ite] at e
    split at e <;> (cases e), fun o e => by
    unfold ab_ret at e
    dsimp only at e
    rw [Bool.cond_eq_ite] at e
    split at e
    · obtain rfl := (Sum.inr.inj (Option.some.inj e))
      exact ⟨hw, by rw [hF]; exact h⟩
    · cases e⟩).w
theorem Pv.zret {MC MS : Nat} {x : Int32} (hT : T i = some (ab_zret MC MS)) (h : Q (some (.int x)) F) : Pv T N i lo [.int x] F Q :=
  (Pv.gen hT fun u hp hw hF => ⟨fun j' lo' st' u' hp' e => by
    unfold ab_zret at e
    dsimp only at e
    rw [Bool.cond_eq_ite] at e
    split at e <;> (cases e), fun o e => by
    unfold ab_zret at e
    dsimp only at e
    rw [Bool.cond_eq_ite] at e
    split at e
    · obtain rfl := (Sum.inr.inj (Option.some.inj e))
      exact ⟨hw, by rw [hF]; exact h⟩
    · cases e⟩).w
theorem Pv.vret {MC MS : Nat} (hT : T i = some (ab_vret MC MS)) (h : Q none F) : Pv T N i lo [] F Q :=
  (Pv.gen hT fun u hp hw hF => ⟨fun j' lo' st' u' hp' e => by
    unfold ab_vret at e
    dsimp only at e
    rw [Bool.cond_eq_ite] at e
    split at e <;> (cases e), fun o e => by
    unfold ab_vret at e
    dsimp only at e
    rw [Bool.cond_eq_ite] at e
    split at e
    · obtain rfl := (Sum.inr.inj (Option.some.inj e))
      exact ⟨hw, by rw [hF]; exact h⟩
    · cases e⟩).w
/-! ===== the heap's steps ===== -/
theorem Pv.getI {ci k a : Nat} {z : Int32} (hT : T i = some (ab_nx j (ab_getf ci k))) (hk : fk ci k = 0) (hz : F.1 a k = z) (h : Pv T N j lo (.int z :: st) F Q) : Pv T N i lo (.ref a :: st) F Q :=
  (Pv.nx hT fun u hp s hw hF e => by
    obtain ⟨fs, v, ha, hc, hv, rfl⟩ := v_getf e
    refine ⟨hw, ?_⟩
    show Pv T N j lo (v :: st) (fl hp) Q
    have hy := (hw a ci fs k v ha hc hv).resolve_left (by rw [hk]; decide)
    rw [hk] at hy
    cases v with
    | int x =>
      have e2 : x = z := by
        rw [← hz, ← hF]
        show x = gi hp a k
        unfold gi
        rw [hc]
        dsimp only
        rw [hv]
      rw [hF, e2]
      exact h
    | _ => cases hy).w
theorem Pv.getR {ci k a : Nat} {v : Value} (hT : T i = some (ab_nx j (ab_getf ci k))) (hk : fk ci k = 1) (hz : F.2.1 a k = v) (h : Pv T N j lo (v :: st) F Q) : Pv T N i lo (.ref a :: st) F Q :=
  (Pv.nx hT fun u hp s hw hF e => by
    obtain ⟨fs, w, ha, hc, hv, rfl⟩ := v_getf e
    refine ⟨hw, ?_⟩
    show Pv T N j lo (w :: st) (fl hp) Q
    have hy := (hw a ci fs k w ha hc hv).resolve_left (by rw [hk]; decide)
    rw [hk] at hy
    have e2 : w = v := by
      rw [← hz, ← hF]
      show w = gr hp a k
      unfold gr
      rw [hc]
      dsimp only
      rw [hv]
      cases w with
      | ref x => rfl
      | null => rfl
      | _ => cases hy
    rw [hF, e2]
    exact h).w
theorem Pv.getL {ci k a : Nat} {z : Int64} (hT : T i = some (ab_nx j (ab_getf ci k))) (hk : fk ci k = 2) (hz : F.2.2.1 a k = z) (h : Pv T N j lo (.long z :: st) F Q) : Pv T N i lo (.ref a :: st) F Q :=
  (Pv.nx hT fun u hp s hw hF e => by
    obtain ⟨fs, v, ha, hc, hv, rfl⟩ := v_getf e
    refine ⟨hw, ?_⟩
    show Pv T N j lo (v :: st) (fl hp) Q
    have hy := (hw a ci fs k v ha hc hv).resolve_left (by rw [hk]; decide)
    rw [hk] at hy
    cases v with
    | long x =>
      have e2 : x = z := by
        rw [← hz, ← hF]
        show x = gl hp a k
        unfold gl
        rw [hc]
        dsimp only
        rw [hv]
      rw [hF, e2]
      exact h
    | _ => cases hy).w
theorem Pv.putI {ci k kd a : Nat} {x : Int32} (hT : T i = some (ab_nx j (ab_putf ci k kd))) (hk : fk ci k = 0) (h : Pv T N j lo st (fp F a k x) Q) : Pv T N i lo (.int x :: .ref a :: st) F Q :=
  (Pv.nx hT fun u hp s hw hF e => by
    obtain ⟨fs, ha, -, hc, hl, rfl⟩ := v_putf e
    refine ⟨wt_up hw ha hc (Or.inr (by rw [hk]; rfl)), ?_⟩
    show Pv T N j lo st (fl (ab_up hp a (.inr (ci, fs.set k (.int x))))) Q
    have hv : fs[k]? = some fs[k] := List.getElem?_eq_getElem hl
    have hy := (hw a ci fs k _ ha hc hv).resolve_left (by rw [hk]; decide)
    rw [hk] at hy
    cases e2 : fs[k] with
    | int y =>
      rw [e2] at hv
      rw [fl_put hc hv, hF]
      exact h
    | _ =>
      rw [e2] at hy
      cases hy).w
theorem Pv.putR {ci k kd a : Nat} {v : Value} (hT : T i = some (ab_nx j (ab_putf ci k kd))) (hk : fk ci k = 1) (hv0 : v = .null ∨ ∃ b, v = .ref b) (h : Pv T N j lo st (fpr F a k v) Q) : Pv T N i lo (v :: .ref a :: st) F Q :=
  (Pv.nx hT fun u hp s hw hF e => by
    obtain ⟨fs, ha, -, hc, hl, rfl⟩ := v_putf e
    refine ⟨wt_up hw ha hc (Or.inr (by rw [hk]; rcases hv0 with rfl | ⟨b, rfl⟩ <;> rfl)), ?_⟩
    show Pv T N j lo st (fl (ab_up hp a (.inr (ci, fs.set k v)))) Q
    have hv : fs[k]? = some fs[k] := List.getElem?_eq_getElem hl
    have hy := (hw a ci fs k _ ha hc hv).resolve_left (by rw [hk]; decide)
    rw [hk] at hy
    have hw2 : fs[k] = .null ∨ ∃ b, fs[k] = .ref b := by
      cases e2 : fs[k] with
      | ref b => exact Or.inr ⟨b, rfl⟩
      | null => exact Or.inl rfl
      | _ =>
        rw [e2] at hy
        cases hy
    rw [fl_putr hc hv hw2 hv0, hF]
    exact h).w
theorem Pv.ald {t a : Nat} {x z : Int32} (hT : T i = some (ab_nx j (ab_ald t))) (hz : F.1 a x.toNatClampNeg = z) (h : Pv T N j lo (.int z :: st) F Q) : Pv T N i lo (.int x :: .ref a :: st) F Q :=
  (Pv.nx hT fun u hp s hw hF e => by
    obtain ⟨n, f, ha, hc, -, rfl⟩ := v_ald e
    refine ⟨hw, ?_⟩
    show Pv T N j lo (.int (f x.toNatClampNeg) :: st) (fl hp) Q
    have e2 : f x.toNatClampNeg = z := by
      rw [← hz, ← hF]
      show f x.toNatClampNeg = gi hp a x.toNatClampNeg
      unfold gi
      rw [hc]
    rw [hF, e2]
    exact h).w
/-- with what is known of the index -/
theorem Pv.aldb {t a : Nat} {x : Int32} (hT : T i = some (ab_nx j (ab_ald t))) (h : ab_in x (F.2.2.2.2 a) = true → Pv T N j lo (.int (F.1 a x.toNatClampNeg) :: st) F Q) : Pv T N i lo (.int x :: .ref a :: st) F Q :=
  (Pv.nx hT fun u hp s hw hF e => by
    obtain ⟨n, f, ha, hc, hi, rfl⟩ := v_ald e
    refine ⟨hw, ?_⟩
    show Pv T N j lo (.int (f x.toNatClampNeg) :: st) (fl hp) Q
    have e2 : f x.toNatClampNeg = F.1 a x.toNatClampNeg := by
      rw [← hF]
      show f x.toNatClampNeg = gi hp a x.toNatClampNeg
      unfold gi
      rw [hc]
    have e3 : F.2.2.2.2 a = n := by
      rw [← hF]
      show gn hp a = n
      unfold gn
      rw [hc]
    rw [e3] at h
    rw [hF, e2]
    exact h hi).w
theorem Pv.lald {a : Nat} {x : Int32} {z : Int64} (hT : T i = some (ab_nx j ab_lald)) (hz : F.2.2.1 a x.toNatClampNeg = z) (h : Pv T N j lo (.long z :: st) F Q) : Pv T N i lo (.int x :: .ref a :: st) F Q :=
  (Pv.nx hT fun u hp s hw hF e => by
    obtain ⟨n, f, ha, hc, -, rfl⟩ := v_lald e
    refine ⟨hw, ?_⟩
    show Pv T N j lo (.long (f x.toNatClampNeg) :: st) (fl hp) Q
    have e2 : f x.toNatClampNeg = z := by
      rw [← hz, ← hF]
      show f x.toNatClampNeg = gl hp a x.toNatClampNeg
      unfold gl
      rw [hc]
    rw [hF, e2]
    exact h).w
theorem Pv.aald {t a : Nat} {x : Int32} {v : Value} (hT : T i = some (ab_nx j (ab_aald t))) (hz : F.2.1 a x.toNatClampNeg = v) (h : Pv T N j lo (v :: st) F Q) : Pv T N i lo (.int x :: .ref a :: st) F Q :=
  (Pv.nx hT fun u hp s hw hF e => by
    obtain ⟨n, f, ha, hc, -, rfl⟩ := v_aald e
    refine ⟨hw, ?_⟩
    show Pv T N j lo (ab_rf (f x.toNatClampNeg) :: st) (fl hp) Q
    have e2 : ab_rf (f x.toNatClampNeg) = v := by
      rw [← hz, ← hF]
      show ab_rf (f x.toNatClampNeg) = gr hp a x.toNatClampNeg
      unfold gr
      rw [hc]
    rw [hF, e2]
    exact h).w
theorem Pv.alen {a : Nat} (hT : T i = some (ab_nx j ab_alen)) (h : Pv T N j lo (.int (Int32.ofNat (F.2.2.2.2 a)) :: st) F Q) : Pv T N i lo (.ref a :: st) F Q :=
  (Pv.nx hT fun u hp s hw hF e => by
    unfold ab_alen at e
    dsimp only at e
    rw [Bool.cond_eq_ite] at e
    split at e
    · split at e
      · rename_i x hx
        rw [Bool.cond_eq_ite] at e
        split at e
        · obtain rfl := Option.some.inj e
          refine ⟨hw, ?_⟩
          show Pv T N j lo (.int (Int32.ofNat x.2.1) :: st) (fl hp) Q
          have e3 : F.2.2.2.2 a = x.2.1 := by
            rw [← hF]
            show gn hp a = x.2.1
            unfold gn
            rw [hx]
          rw [hF, ← e3]
          exact h
        · cases e
      · cases e
    · cases e).w
theorem Pv.ast {t a : Nat} {x y : Int32} (hT : T i = some (ab_nx j (ab_ast t))) (h : Pv T N j lo st (fp F a x.toNatClampNeg (ab_nar t y)) Q) : Pv T N i lo (.int y :: .int x :: .ref a :: st) F Q :=
  (Pv.nx hT fun u hp s hw hF e => by
    obtain ⟨n, f, ha, hc, -, rfl⟩ := v_ast e
    refine ⟨wt_upA hw, ?_⟩
    show Pv T N j lo st (fl (ab_up hp a (.inl (t, n, .inl (upd f x.toNatClampNeg (ab_nar t y)))))) Q
    have e2 : fl (ab_up hp a (.inl (t, n, .inl (upd f x.toNatClampNeg (ab_nar t y))))) = fp F a x.toNatClampNeg (ab_nar t y) := by
      rw [fl_arr hc, ← hF]
      refine Prod.ext (funext fun p => funext fun q => ?_) rfl
      show (if p = a then upd f x.toNatClampNeg (ab_nar t y) q else gi hp p q) = if p = a ∧ q = x.toNatClampNeg then ab_nar t y else gi hp p q
      by_cases h1 : p = a
      · subst h1
        rw [if_pos rfl]
        unfold upd
        by_cases h2 : q = x.toNatClampNeg
        · rw [if_pos h2, if_pos ⟨rfl, h2⟩]
        · rw [if_neg h2, if_neg (fun c => h2 c.2)]
          unfold gi
          rw [hc]
      · rw [if_neg h1, if_neg (fun c => h1 c.1)]
    rw [e2]
    exact h).w
theorem Pv.last {a : Nat} {x : Int32} {y : Int64} (hT : T i = some (ab_nx j ab_last)) (h : Pv T N j lo st (fpl F a x.toNatClampNeg y) Q) : Pv T N i lo (.long y :: .int x :: .ref a :: st) F Q :=
  (Pv.nx hT fun u hp s hw hF e => by
    obtain ⟨n, f, ha, hc, -, rfl⟩ := v_last e
    refine ⟨wt_upA hw, ?_⟩
    show Pv T N j lo st (fl (ab_up hp a (.inl (2, n, .inr (.inl (vp_updL f x.toNatClampNeg y)))))) Q
    have e2 : fl (ab_up hp a (.inl (2, n, .inr (.inl (vp_updL f x.toNatClampNeg y))))) = fpl F a x.toNatClampNeg y := by
      rw [fl_arrL hc, ← hF]
      refine Prod.ext rfl (Prod.ext rfl (Prod.ext (funext fun p => funext fun q => ?_) rfl))
      show (if p = a then vp_updL f x.toNatClampNeg y q else gl hp p q) = if p = a ∧ q = x.toNatClampNeg then y else gl hp p q
      by_cases h1 : p = a
      · subst h1
        rw [if_pos rfl]
        unfold vp_updL
        by_cases h2 : q = x.toNatClampNeg
        · rw [if_pos h2, if_pos ⟨rfl, h2⟩]
        · rw [if_neg h2, if_neg (fun c => h2 c.2)]
          unfold gl
          rw [hc]
      · rw [if_neg h1, if_neg (fun c => h1 c.1)]
    rw [e2]
    exact h).w
theorem Pv.aast {t ci a v : Nat} {x : Int32} (hT : T i = some (ab_nx j (ab_aast t ci))) (h : Pv T N j lo st (fpr F a x.toNatClampNeg (.ref v)) Q) : Pv T N i lo (.ref v :: .int x :: .ref a :: st) F Q :=
  (Pv.nx hT fun u hp s hw hF e => by
    obtain ⟨n, f, ha, hb, hc, -, rfl⟩ := v_aast e
    refine ⟨wt_upA hw, ?_⟩
    show Pv T N j lo st (fl (ab_up hp a (.inl (t, n, .inr (.inr (.inr (.inr (va_up f x.toNatClampNeg (some v))))))))) Q
    have e2 : fl (ab_up hp a (.inl (t, n, .inr (.inr (.inr (.inr (va_up f x.toNatClampNeg (some v)))))))) = fpr F a x.toNatClampNeg (.ref v) := by
      rw [fl_arrR hc, ← hF]
      refine Prod.ext rfl (Prod.ext (funext fun p => funext fun q => ?_) rfl)
      show (if p = a then ab_rf (va_up f x.toNatClampNeg (some v) q) else gr hp p q) = if p = a ∧ q = x.toNatClampNeg then .ref v else gr hp p q
      by_cases h1 : p = a
      · subst h1
        rw [if_pos rfl]
        unfold va_up
        by_cases h2 : q = x.toNatClampNeg
        · rw [if_pos h2, if_pos ⟨rfl, h2⟩]
          rfl
        · rw [if_neg h2, if_neg (fun c => h2 c.2)]
          unfold gr
          rw [hc]
      · rw [if_neg h1, if_neg (fun c => h1 c.1)]
    rw [e2]
    exact h).w
theorem Pv.copy {sp dp n : Int32} {a a0 : Nat} (hT : T i = some (ab_nx j ab_copy)) (h : Pv T N j lo st (fcp F a0 a sp.toNatClampNeg dp.toNatClampNeg n.toNatClampNeg) Q) : Pv T N i lo (.int n :: .int dp :: .ref a :: .int sp :: .ref a0 :: st) F Q :=
  (Pv.nx hT fun u hp s hw hF e => by
    rcases v_copy e with ⟨n0, n1, f, g, h0, h1, rfl⟩ | ⟨n0, n1, f, g, h0, h1, rfl⟩
    · refine ⟨wt_upA hw, ?_⟩
      show Pv T N j lo st (fl (ab_up hp a (.inl (1, n1, .inl (va_cpy f g sp.toNatClampNeg dp.toNatClampNeg n.toNatClampNeg))))) Q
      have e2 : fl (ab_up hp a (.inl (1, n1, .inl (va_cpy f g sp.toNatClampNeg dp.toNatClampNeg n.toNatClampNeg)))) = fcp F a0 a sp.toNatClampNeg dp.toNatClampNeg n.toNatClampNeg := by
        rw [fl_arr h1, ← hF]
        refine Prod.ext (funext fun p => funext fun q => ?_) (Prod.ext rfl (Prod.ext (funext fun p => funext fun q => ?_) rfl))
        · show (if p = a then va_cpy f g _ _ _ q else gi hp p q) = if p = a ∧ _ ≤ q ∧ q < _ then gi hp a0 _ else gi hp p q
          by_cases c1 : p = a
          · subst c1
            rw [if_pos rfl]
            unfold va_cpy
            by_cases c2 : dp.toNatClampNeg ≤ q ∧ q < dp.toNatClampNeg + n.toNatClampNeg
            · rw [if_pos c2, if_pos ⟨rfl, c2⟩]
              unfold gi
              rw [h0]
            · rw [if_neg c2, if_neg (fun c => c2 c.2)]
              unfold gi
              rw [h1]
          · rw [if_neg c1, if_neg (fun c => c1 c.1)]
        · show gl hp p q = if p = a ∧ _ ≤ q ∧ q < _ then gl hp a0 _ else gl hp p q
          split
          · rename_i c
            rw [c.1]
            unfold gl
            rw [h0, h1]
          · rfl
      rw [e2]
      exact h
    · refine ⟨wt_upA hw, ?_⟩
      show Pv T N j lo st (fl (ab_up hp a (.inl (2, n1, .inr (.inl (va_cpy f g sp.toNatClampNeg dp.toNatClampNeg n.toNatClampNeg)))))) Q
      have e2 : fl (ab_up hp a (.inl (2, n1, .inr (.inl (va_cpy f g sp.toNatClampNeg dp.toNatClampNeg n.toNatClampNeg))))) = fcp F a0 a sp.toNatClampNeg dp.toNatClampNeg n.toNatClampNeg := by
        rw [fl_arrL h1, ← hF]
        refine Prod.ext (funext fun p => funext fun q => ?_) (Prod.ext rfl (Prod.ext (funext fun p => funext fun q => ?_) rfl))
        · show gi hp p q = if p = a ∧ _ ≤ q ∧ q < _ then gi hp a0 _ else gi hp p q
          split
          · rename_i c
            rw [c.1]
            unfold gi
            rw [h0, h1]
          · rfl
        · show (if p = a then va_cpy f g _ _ _ q else gl hp p q) = if p = a ∧ _ ≤ q ∧ q < _ then gl hp a0 _ else gl hp p q
          by_cases c1 : p = a
          · subst c1
            rw [if_pos rfl]
            unfold va_cpy
            by_cases c2 : dp.toNatClampNeg ≤ q ∧ q < dp.toNatClampNeg + n.toNatClampNeg
            · rw [if_pos c2, if_pos ⟨rfl, c2⟩]
              unfold gl
              rw [h0]
            · rw [if_neg c2, if_neg (fun c => c2 c.2)]
              unfold gl
              rw [h1]
          · rw [if_neg c1, if_neg (fun c => c1 c.1)]
      rw [e2]
      exact h).w
/-! ===== calls ===== -/
theorem Pv.call {nA mc ms MC MS : Nat} {X : List Value → ab_H → Option ab_O} {as rest : List Value} {Q' : Option Value → FW → Prop} (hT : T i = some (ab_nx j (ab_call nA X mc ms MC MS))) (ha : (st.take nA).reverse = as) (hr : st.drop nA = rest) (hX : Pm X as F Q') (h : ∀ r F', Q' r F' → Pv T N j lo (r.toList ++ rest) F' Q) : Pv T N i lo st F Q :=
  (Pv.nx hT fun u hp s hw hF e => by
    obtain ⟨o, ho, rfl⟩ := v_call e
    rw [ha] at ho
    obtain ⟨w, q⟩ := hX hp o hw hF ho
    refine ⟨w, ?_⟩
    show Pv T N j lo (o.1.toList ++ st.drop nA) (fl o.2) Q
    rw [hr]
    exact h _ _ q).w
theorem Pv.callV {nA ci mc ms MC MS : Nat} {X : List Value → ab_H → Option ab_O} {as rest : List Value} {Q' : Option Value → FW → Prop} (hT : T i = some (ab_nx j (ab_callV nA ci X mc ms MC MS))) (ha : (st.take nA).reverse = as) (hr : st.drop nA = rest) (hX : Pm X as F Q') (h : ∀ r F', Q' r F' → Pv T N j lo (r.toList ++ rest) F' Q) : Pv T N i lo st F Q :=
  (Pv.nx hT fun u hp s hw hF e => by
    unfold ab_callV at e
    rw [Bool.cond_eq_ite] at e
    split at e
    · obtain ⟨o, ho, rfl⟩ := v_call e
      rw [ha] at ho
      obtain ⟨w, q⟩ := hX hp o hw hF ho
      refine ⟨w, ?_⟩
      show Pv T N j lo (o.1.toList ++ st.drop nA) (fl o.2) Q
      rw [hr]
      exact h _ _ q
    · cases e).w
theorem Pv.callI {nA mc ms MC MS : Nat} {X : List Value → ab_H → Option ab_O} {as rest : List Value} {z : Int32} {G : FW} (hT : T i = some (ab_nx j (ab_call nA X mc ms MC MS))) (ha : (st.take nA).reverse = as) (hr : st.drop nA = rest) (hX : PI X as F z G) (h : Pv T N j lo (.int z :: rest) G Q) : Pv T N i lo st F Q :=
  Pv.call hT ha hr hX fun r F' q => by
    obtain ⟨rfl, rfl⟩ := q
    exact h
theorem Pv.callU {nA mc ms MC MS : Nat} {X : List Value → ab_H → Option ab_O} {as rest : List Value} {G : FW} (hT : T i = some (ab_nx j (ab_call nA X mc ms MC MS))) (ha : (st.take nA).reverse = as) (hr : st.drop nA = rest) (hX : PU X as F G) (h : Pv T N j lo rest G Q) : Pv T N i lo st F Q :=
  Pv.call hT ha hr hX fun r F' q => by
    obtain ⟨rfl, rfl⟩ := q
    exact h
theorem Pv.callVI {nA ci mc ms MC MS : Nat} {X : List Value → ab_H → Option ab_O} {as rest : List Value} {z : Int32} {G : FW} (hT : T i = some (ab_nx j (ab_callV nA ci X mc ms MC MS))) (ha : (st.take nA).reverse = as) (hr : st.drop nA = rest) (hX : PI X as F z G) (h : Pv T N j lo (.int z :: rest) G Q) : Pv T N i lo st F Q :=
  Pv.callV hT ha hr hX fun r F' q => by
    obtain ⟨rfl, rfl⟩ := q
    exact h
theorem Pv.callVU {nA ci mc ms MC MS : Nat} {X : List Value → ab_H → Option ab_O} {as rest : List Value} {G : FW} (hT : T i = some (ab_nx j (ab_callV nA ci X mc ms MC MS))) (ha : (st.take nA).reverse = as) (hr : st.drop nA = rest) (hX : PU X as F G) (h : Pv T N j lo rest G Q) : Pv T N i lo st F Q :=
  Pv.callV hT ha hr hX fun r F' q => by
    obtain ⟨rfl, rfl⟩ := q
    exact h
theorem Pv.loop {ι : Type} {lof : ι → List (Option Value)} {Ff : ι → FW} {P : ι → Prop} (h : ∀ N x, P x → (∀ y, P y → Pv T N i (lof y) [] (Ff y) Q) → Pv T (N + 1) i (lof x) [] (Ff x) Q) : ∀ N x, P x → Pv T N i (lof x) [] (Ff x) Q := by
  intro N
  induction N with
  | zero => exact fun x _ f u hp o hf => absurd hf (Nat.not_lt_zero _)
  | succ N ih => exact fun x hx => h N x hx ih
theorem Pv.sT {st' : List Value} (e : st = st') (h : Pv T N i lo st' F Q) : Pv T N i lo st F Q := e ▸ h
theorem Pv.fE {G : FW} (e : F = G) (h : Pv T N i lo st G Q) : Pv T N i lo st F Q := e ▸ h
theorem Pv.qE {Q' : Option Value → FW → Prop} (h : Pv T N i lo st F Q') (hq : ∀ r F', Q' r F' → Q r F') : Pv T N i lo st F Q := fun f u hp o a b c d => ⟨(h f u hp o a b c d).1, hq _ _ (h f u hp o a b c d).2⟩
end PV
/-! ===== reading what was written ===== -/
theorem fp_eq {F : FW} {a k : Nat} {x : Int32} : (fp F a k x).1 a k = x := if_pos ⟨rfl, rfl⟩
theorem fp_ne {F : FW} {a k p j : Nat} {x : Int32} (h : p ≠ a ∨ j ≠ k) : (fp F a k x).1 p j = F.1 p j := if_neg (fun c => h.elim (fun h => h c.1) (fun h => h c.2))
theorem fp_r {F : FW} {a k : Nat} {x : Int32} : (fp F a k x).2 = F.2 := rfl
theorem fcp_in {F : FW} {a b sp dp n j : Nat} (h : dp ≤ j ∧ j < dp + n) : (fcp F a b sp dp n).1 b j = F.1 a (sp + (j - dp)) := if_pos ⟨rfl, h⟩
theorem fcp_ne {F : FW} {a b sp dp n p j : Nat} (h : p ≠ b) : (fcp F a b sp dp n).1 p j = F.1 p j := if_neg (fun c => h c.1)
/-! ===== small ints by numbers ===== -/
theorem i_mul (a k : Nat) : Int32.ofNat a * Int32.ofNat k = Int32.ofNat (a * k) := (Int32.ofNat_mul a k).symm
theorem i_lt {a b : Nat} (ha : a < 2147483648) (hb : b < 2147483648) : (Int32.ofNat a < Int32.ofNat b) ↔ a < b := by
  rw [Int32.lt_iff_toInt_lt, i_toInt ha, i_toInt hb]
  omega
theorem i_le {a b : Nat} (ha : a < 2147483648) (hb : b < 2147483648) : (Int32.ofNat a ≤ Int32.ofNat b) ↔ a ≤ b := by
  rw [Int32.le_iff_toInt_le, i_toInt ha, i_toInt hb]
  omega
theorem i_eq {a b : Nat} (ha : a < 2147483648) (hb : b < 2147483648) : (Int32.ofNat a = Int32.ofNat b) ↔ a = b := by
  rw [← Int32.toInt_inj, i_toInt ha, i_toInt hb]
  omega
theorem Pv.mono {T : Nat → Option ab_A} {N M i : Nat} {lo : List (Option Value)} {st : List Value} {F : FW} {Q : Option Value → FW → Prop} (h : Pv T M i lo st F Q) (hn : N ≤ M) : Pv T N i lo st F Q := fun f u hp o hf => h f u hp o (Nat.lt_of_lt_of_le hf hn)
/-- a loop, that may lie in another -/
theorem Pv.lp {T : Nat → Option ab_A} {M i : Nat} {Q : Option Value → FW → Prop} {ι : Type} {lof : ι → List (Option Value)} {Ff : ι → FW} {P : ι → Prop} (h : ∀ N, N < M → ∀ x, P x → (∀ y, P y → Pv T N i (lof y) [] (Ff y) Q) → Pv T (N + 1) i (lof x) [] (Ff x) Q) : ∀ x, P x → Pv T M i (lof x) [] (Ff x) Q := by
  have key : ∀ N, N ≤ M → ∀ x, P x → Pv T N i (lof x) [] (Ff x) Q := by
    intro N
    induction N with
    | zero => exact fun _ x _ f u hp o hf => absurd hf (Nat.not_lt_zero _)
    | succ N ih => exact fun hN x hx => h N hN x hx (ih (Nat.le_of_lt hN))
  exact key M (Nat.le_refl M)
theorem Pv.astk {T : Nat → Option ab_A} {N i j : Nat} {lo : List (Option Value)} {st : List Value} {F : FW} {Q : Option Value → FW → Prop} {t a k : Nat} {x y z : Int32} (hT : T i = some (ab_nx j (ab_ast t))) (hx : x.toNatClampNeg = k) (hy : ab_nar t y = z) (h : Pv T N j lo st (fp F a k z) Q) : Pv T N i lo (.int y :: .int x :: .ref a :: st) F Q := by
  subst hx hy
  exact Pv.ast hT h
def b2i (b : Bool) : Int32 := cond b 1 0
/-- an object whose first seven fields are the seven places behind it; three -/
def O7 (F : FW) (p : Nat) : Prop := ∀ j, j < 7 → F.2.1 p j = .ref (p + 1 + j)
def O3 (F : FW) (p : Nat) : Prop := ∀ j, j < 3 → F.2.1 p j = .ref (p + 1 + j)
