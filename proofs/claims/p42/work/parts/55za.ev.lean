/-! ===== reasoning about steps: what a run comes to ===== -/
def Ev (T : Nat → Option ab_A) (i : Nat) (s : ab_S) (Q : ab_O → Prop) : Prop := ∃ (f : Nat) (o : ab_O), ab_run T f i s = some o ∧ Q o
theorem Ev.step {T : Nat → Option ab_A} {i j : Nat} {s s' : ab_S} {a : ab_A} {Q : ab_O → Prop} (hT : T i = some a) (ha : a s = some (.inl (j, s'))) (h : Ev T j s' Q) : Ev T i s Q := by
  obtain ⟨f, o, h1, h2⟩ := h
  refine ⟨f + 1, o, ?_, h2⟩
  rw [ab_run, hT]
  dsimp only
  rw [ha]
  exact h1
theorem Ev.ret {T : Nat → Option ab_A} {i : Nat} {s : ab_S} {a : ab_A} {o : ab_O} {Q : ab_O → Prop} (hT : T i = some a) (ha : a s = some (.inr o)) (h : Q o) : Ev T i s Q := by
  refine ⟨1, o, ?_, h⟩
  rw [ab_run, hT]
  dsimp only
  rw [ha]
theorem Ev.nx {T : Nat → Option ab_A} {i j : Nat} {s s' : ab_S} {f : ab_S → Option ab_S} {Q : ab_O → Prop} (hT : T i = some (ab_nx j f)) (hf : f s = some s') (h : Ev T j s' Q) : Ev T i s Q :=
  Ev.step hT (by rw [ab_nx, hf]) h
theorem Ev.mono {T : Nat → Option ab_A} {i : Nat} {s : ab_S} {Q Q' : ab_O → Prop} (h : Ev T i s Q) (hq : ∀ o, Q o → Q' o) : Ev T i s Q' := by
  obtain ⟨f, o, h1, h2⟩ := h
  exact ⟨f, o, h1, hq o h2⟩
/-- a method's answer -/
theorem ab_X_ev {L : List (Nat × ab_A)} {nL : Nat} {as : List Value} {hp : ab_H} {Q : ab_O → Prop} (hl : (ab_ent as).length ≤ nL) (h : Ev (ab_T L) 0 (ab_en nL as, [], (0, 0), hp) Q) : ∃ o, ab_X (ab_T L) nL as hp = some o ∧ Q o := by
  obtain ⟨f, o, h1, h2⟩ := h
  exact ⟨o, ab_X_of hl h1, h2⟩
theorem ab_X_eq {L : List (Nat × ab_A)} {nL : Nat} {as : List Value} {hp : ab_H} {o : ab_O} (hl : (ab_ent as).length ≤ nL) (h : Ev (ab_T L) 0 (ab_en nL as, [], (0, 0), hp) (fun x => x = o)) : ab_X (ab_T L) nL as hp = some o := by
  obtain ⟨o', h1, rfl⟩ := ab_X_ev hl h
  exact h1
section EV
variable {T : Nat → Option ab_A} {i j : Nat} {lo : List (Option Value)} {st : List Value} {u : Nat × Nat} {hp : ab_H} {Q : ab_O → Prop}
theorem Ev.getf {ci k a : Nat} {fs : List Value} {v : Value} (hT : T i = some (ab_nx j (ab_getf ci k))) (ha : a < hp.1) (hc : hp.2 a = .inr (ci, fs)) (hk : fs[k]? = some v) (h : Ev T j (lo, v :: st, u, hp) Q) : Ev T i (lo, .ref a :: st, u, hp) Q :=
  Ev.nx hT (by simp [ab_getf, ha, hc, hk]) h
theorem Ev.putf {ci k kd a : Nat} {fs : List Value} {v : Value} (hT : T i = some (ab_nx j (ab_putf ci k kd))) (ha : a < hp.1) (hc : hp.2 a = .inr (ci, fs)) (hk : k < fs.length) (hf : ab_fit kd v = true) (h : Ev T j (lo, st, u, ab_up hp a (.inr (ci, fs.set k v))) Q) : Ev T i (lo, v :: .ref a :: st, u, hp) Q :=
  Ev.nx hT (by simp [ab_putf, ha, hc, hk, hf]) h
theorem Ev.ald {t a n : Nat} {f : Nat → Int32} {x : Int32} (hT : T i = some (ab_nx j (ab_ald t))) (ha : a < hp.1) (hc : hp.2 a = .inl (t, n, .inl f)) (hx : ab_in x n = true) (h : Ev T j (lo, .int (f x.toNatClampNeg) :: st, u, hp) Q) : Ev T i (lo, .int x :: .ref a :: st, u, hp) Q :=
  Ev.nx hT (by simp [ab_ald, ha, hc, hx]) h
theorem Ev.lald {a n : Nat} {f : Nat → Int64} {x : Int32} (hT : T i = some (ab_nx j ab_lald)) (ha : a < hp.1) (hc : hp.2 a = .inl (2, n, .inr (.inl f))) (hx : ab_in x n = true) (h : Ev T j (lo, .long (f x.toNatClampNeg) :: st, u, hp) Q) : Ev T i (lo, .int x :: .ref a :: st, u, hp) Q :=
  Ev.nx hT (by simp [ab_lald, ha, hc, hx]) h
theorem Ev.ast {t a n : Nat} {f : Nat → Int32} {x y : Int32} (hT : T i = some (ab_nx j (ab_ast t))) (ha : a < hp.1) (hc : hp.2 a = .inl (t, n, .inl f)) (hx : ab_in x n = true) (h : Ev T j (lo, st, u, ab_up hp a (.inl (t, n, .inl (upd f x.toNatClampNeg (ab_nar t y))))) Q) : Ev T i (lo, .int y :: .int x :: .ref a :: st, u, hp) Q :=
  Ev.nx hT (by simp [ab_ast, ha, hc, hx]) h
theorem Ev.last {a n : Nat} {f : Nat → Int64} {x : Int32} {y : Int64} (hT : T i = some (ab_nx j ab_last)) (ha : a < hp.1) (hc : hp.2 a = .inl (2, n, .inr (.inl f))) (hx : ab_in x n = true) (h : Ev T j (lo, st, u, ab_up hp a (.inl (2, n, .inr (.inl (vp_updL f x.toNatClampNeg y))))) Q) : Ev T i (lo, .long y :: .int x :: .ref a :: st, u, hp) Q :=
  Ev.nx hT (by simp [ab_last, ha, hc, hx]) h
theorem Ev.alen {t a n : Nat} {x : (Nat → Int32) ⊕ (Nat → Int64) ⊕ (Nat → UInt32) ⊕ (Nat → UInt64) ⊕ (Nat → Option Nat)} (hT : T i = some (ab_nx j ab_alen)) (ha : a < hp.1) (hc : hp.2 a = .inl (t, n, x)) (ht : t < 6) (h : Ev T j (lo, .int (Int32.ofNat n) :: st, u, hp) Q) : Ev T i (lo, .ref a :: st, u, hp) Q :=
  Ev.nx hT (by simp [ab_alen, ha, hc, ht]) h
theorem Ev.callV {nA ci mc ms MC MS : Nat} {X : List Value → ab_H → Option ab_O} {o : ab_O} (hT : T i = some (ab_nx j (ab_callV nA ci X mc ms MC MS))) (hr : ab_rcv ci (st.take nA).reverse hp = true) (hc : (decide (nA ≤ st.length) && decide (ab_cats (st.drop nA) ≤ 8) && decide (u.1 + mc ≤ MC) && decide (u.2 + ms ≤ MS)) = true)
    (hX : X (st.take nA).reverse hp = some o) (h : Ev T j (lo, o.1.toList ++ st.drop nA, (u.1 + mc, u.2 + ms), o.2) Q) : Ev T i (lo, st, u, hp) Q :=
  Ev.nx hT (by simp only [ab_callV, ab_call, hr, hc, cond_true, hX]) h
theorem Ev.call {nA mc ms MC MS : Nat} {X : List Value → ab_H → Option ab_O} {o : ab_O} (hT : T i = some (ab_nx j (ab_call nA X mc ms MC MS))) (hc : (decide (nA ≤ st.length) && decide (ab_cats (st.drop nA) ≤ 8) && decide (u.1 + mc ≤ MC) && decide (u.2 + ms ≤ MS)) = true)
    (hX : X (st.take nA).reverse hp = some o) (h : Ev T j (lo, o.1.toList ++ st.drop nA, (u.1 + mc, u.2 + ms), o.2) Q) : Ev T i (lo, st, u, hp) Q :=
  Ev.nx hT (by simp only [ab_call, hc, cond_true, hX]) h
end EV
theorem ab_up_1 (hp : ab_H) (k : Nat) (x : ab_E) : (ab_up hp k x).1 = hp.1 := rfl
theorem ab_up_eq (hp : ab_H) (k : Nat) (x : ab_E) : (ab_up hp k x).2 k = x := by simp [ab_up]
theorem ab_up_ne {hp : ab_H} {k q : Nat} {x : ab_E} (h : q ≠ k) : (ab_up hp k x).2 q = hp.2 q := by simp [ab_up, h]
