/-! ===== a run from one heap (of which more is known than its cells): until the first call ===== -/
def Pw (T : Nat → Option ab_A) (N i : Nat) (lo : List (Option Value)) (st : List Value) (hp : ab_H) (Q : Option Value → FW → Prop) : Prop := ∀ (f : Nat) (u : Nat × Nat) (o : ab_O), f < N → ab_run T f i (lo, st, u, hp) = some o → wt o.2 ∧ Q o.1 (fl o.2)
def Pj (X : List Value → ab_H → Option ab_O) (as : List Value) (hp : ab_H) (Q : Option Value → FW → Prop) : Prop := ∀ o : ab_O, X as hp = some o → wt o.2 ∧ Q o.1 (fl o.2)
theorem Pj.of {L : List (Nat × ab_A)} {nL : Nat} {as : List Value} {hp : ab_H} {Q : Option Value → FW → Prop} (h : ∀ N, Pw (ab_T L) N 0 (ab_en nL as) [] hp Q) : Pj (ab_X (ab_T L) nL) as hp Q := by
  intro o e
  obtain ⟨-, f, hf⟩ := ab_X_run e
  exact h (f + 1) f (0, 0) o (Nat.lt_succ_self f) hf
theorem Pm.j {X : List Value → ab_H → Option ab_O} {as : List Value} {hp : ab_H} {Q : Option Value → FW → Prop} (h : Pm X as (fl hp) Q) (hw : wt hp) : Pj X as hp Q := fun o e => h hp o hw rfl e
theorem Pj.imp {X : List Value → ab_H → Option ab_O} {as : List Value} {hp : ab_H} {Q Q' : Option Value → FW → Prop} (h : Pj X as hp Q) (g : ∀ r F', Q r F' → Q' r F') : Pj X as hp Q' := fun o e => ⟨(h o e).1, g _ _ (h o e).2⟩
section PWS
variable {T : Nat → Option ab_A} {N i j : Nat} {lo : List (Option Value)} {st : List Value} {hp : ab_H} {Q : Option Value → FW → Prop}
theorem Pw.v (hw : wt hp) (h : Pv T N i lo st (fl hp) Q) : Pw T N i lo st hp Q := fun f u o hf e => h f u hp o hf hw rfl e
theorem Pw.nx {f : ab_S → Option ab_S} (hT : T i = some (ab_nx j f)) (h : ∀ u s, f (lo, st, u, hp) = some s → ∀ M, M < N → Pw T (M + 1) j s.1 s.2.1 s.2.2.2 Q) : Pw T N i lo st hp Q := by
  intro g u o hg hr
  cases g with
  | zero => cases hr
  | succ g =>
    rw [ab_run, hT] at hr
    dsimp only [ab_nx] at hr
    cases e : f (lo, st, u, hp) with
    | none =>
      rw [e] at hr
      cases hr
    | some s =>
      rw [e] at hr
      obtain ⟨lo', st', u', hp'⟩ := s
      exact h u _ e g (by omega) g u' o (Nat.lt_succ_self g) hr
theorem Pw.mono {M : Nat} (h : Pw T N i lo st hp Q) (hn : M ≤ N) : Pw T M i lo st hp Q := fun f u o hf => h f u o (Nat.lt_of_lt_of_le hf hn)
theorem Pw.pu {f : ab_S → Option ab_S} {lo' : List (Option Value)} {st' : List Value} (hT : T i = some (ab_nx j f)) (hf : ∀ u s, f (lo, st, u, hp) = some s → s = (lo', st', u, hp)) (h : Pw T N j lo' st' hp Q) : Pw T N i lo st hp Q :=
  Pw.nx hT fun u s e M hM => by
    obtain rfl := hf u s e
    exact Pw.mono h (by omega)
theorem Pw.lit {v : Value} (hT : T i = some (ab_nx j (ab_lit v))) (h : Pw T N j lo (v :: st) hp Q) : Pw T N i lo st hp Q := Pw.pu hT (fun _ _ e => (Option.some.inj e).symm) h
theorem Pw.iload {k : Nat} {x : Int32} (hT : T i = some (ab_nx j (ab_iload k))) (hl : lo[k]? = some (some (.int x))) (h : Pw T N j lo (.int x :: st) hp Q) : Pw T N i lo st hp Q := Pw.pu hT (fun u s e => by
  unfold ab_iload at e
  dsimp only at e
  rw [hl] at e
  exact (Option.some.inj e).symm) h
theorem Pw.aload {k a : Nat} (hT : T i = some (ab_nx j (ab_aload k))) (hl : lo[k]? = some (some (.ref a))) (h : Pw T N j lo (.ref a :: st) hp Q) : Pw T N i lo st hp Q := Pw.pu hT (fun u s e => by
  unfold ab_aload at e
  dsimp only at e
  rw [hl] at e
  exact (Option.some.inj e).symm) h
theorem Pw.getR {ci k a : Nat} {v : Value} (hw : wt hp) (hT : T i = some (ab_nx j (ab_getf ci k))) (hk : fk ci k = 1) (hz : (fl hp).2.1 a k = v) (h : Pw T N j lo (v :: st) hp Q) : Pw T N i lo (.ref a :: st) hp Q :=
  Pw.pu hT (fun u s e => by
    obtain ⟨fs, w, ha, hc, hv, rfl⟩ := v_getf e
    have hy := (hw a ci fs k w ha hc hv).resolve_left (by rw [hk]; decide)
    rw [hk] at hy
    have e2 : w = v := by
      rw [← hz]
      show w = gr hp a k
      unfold gr
      rw [hc]
      dsimp only
      rw [hv]
      cases w with
      | ref x => rfl
      | null => rfl
      | _ => cases hy
    rw [e2]) h
theorem Pw.callV {nA ci mc ms MC MS : Nat} {X : List Value → ab_H → Option ab_O} {as rest : List Value} (hT : T i = some (ab_nx j (ab_callV nA ci X mc ms MC MS))) (ha : (st.take nA).reverse = as) (hr : st.drop nA = rest) (h : ∀ o, X as hp = some o → Pw T N j lo (o.1.toList ++ rest) o.2 Q) : Pw T N i lo st hp Q :=
  Pw.nx hT fun u s e M hM => by
    unfold ab_callV at e
    rw [Bool.cond_eq_ite] at e
    split at e
    · obtain ⟨o, ho, rfl⟩ := v_call e
      rw [ha] at ho
      show Pw T (M + 1) j lo (o.1.toList ++ st.drop nA) o.2 Q
      rw [hr]
      exact Pw.mono (h o ho) (by omega)
    · cases e
theorem Pw.run {a : ab_A} {s : Nat} {lo' : List (Option Value)} {st' : List Value} (hT : T i = some a) (ha : ∀ u, a (lo, st, u, hp) = some (.inl (s, lo', st', u, hp))) (h : Pw T N s lo' st' hp Q) : Pw T N i lo st hp Q := by
  intro g u o hg hr
  cases g with
  | zero => cases hr
  | succ g =>
    rw [ab_run, hT] at hr
    dsimp only at hr
    rw [ha] at hr
    exact h g u o (by omega) hr
theorem Pw.if0 {t : Nat} {g : Int32 → Bool} {x : Int32} (hT : T i = some (ab_if j t g)) (h1 : g x = true → Pw T N t lo st hp Q) (h2 : g x = false → Pw T N j lo st hp Q) : Pw T N i lo (.int x :: st) hp Q := by
  cases e : g x with
  | true => exact Pw.run hT (fun u => by show some (Sum.inl (cond (g x) t j, _)) = _; rw [e]; rfl) (h1 e)
  | false => exact Pw.run hT (fun u => by show some (Sum.inl (cond (g x) t j, _)) = _; rw [e]; rfl) (h2 e)
theorem Pw.icmp {t : Nat} {g : Int32 → Int32 → Bool} {x y : Int32} (hT : T i = some (ab_icmp j t g)) (h1 : g x y = true → Pw T N t lo st hp Q) (h2 : g x y = false → Pw T N j lo st hp Q) : Pw T N i lo (.int y :: .int x :: st) hp Q := by
  cases e : g x y with
  | true => exact Pw.run hT (fun u => by show some (Sum.inl (cond (g x y) t j, _)) = _; rw [e]; rfl) (h1 e)
  | false => exact Pw.run hT (fun u => by show some (Sum.inl (cond (g x y) t j, _)) = _; rw [e]; rfl) (h2 e)
end PWS
