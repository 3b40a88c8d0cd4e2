/-! ===== small methods on the fresh heap ===== -/
section RN
variable {T : Nat → Option ab_A} {f i j t : Nat} {s s' : ab_S} {a : ab_A} {r : Option ab_O} {Q : ab_O → Prop}
theorem Rn.of {L : List (Nat × ab_A)} {nL F : Nat} {as : List Value} {hp : ab_H} (hl : decide ((ab_ent as).length ≤ nL) = true) (h : ab_run (ab_T L) F 0 (ab_en nL as, [], (0, 0), hp) = r) : ab_Y L nL F as hp = r := by
  rw [ab_Y, hl]
  exact h
theorem Rn.step (hT : T i = some a) (ha : a s = some (.inl (j, s'))) (h : ab_run T f j s' = r) : ab_run T (f + 1) i s = r := by
  rw [ab_run, hT]
  dsimp only
  rw [ha]
  exact h
theorem Rn.ret {o : ab_O} (hT : T i = some a) (ha : a s = some (.inr o)) : ab_run T (f + 1) i s = some o := by
  rw [ab_run, hT]
  dsimp only
  rw [ha]
theorem Rn.br {b : Bool} (h1 : b = true → ab_run T f t s = r) (h2 : b = false → ab_run T f j s = r) : ab_run T f (cond b t j) s = r := by
  cases b
  · exact h2 rfl
  · exact h1 rfl
theorem Ev.br {b : Bool} (h1 : b = true → Ev T t s Q) (h2 : b = false → Ev T j s Q) : Ev T (cond b t j) s Q := by
  cases b
  · exact h2 rfl
  · exact h1 rfl
theorem Rn.call {nA mc ms MC MS : Nat} {X : List Value → ab_H → Option ab_O} {o : ab_O} {lo : List (Option Value)} {st : List Value} {u : Nat × Nat} {hp : ab_H} (hT : T i = some (ab_nx j (ab_call nA X mc ms MC MS))) (hc : (decide (nA ≤ st.length) && decide (ab_cats (st.drop nA) ≤ 8) && decide (u.1 + mc ≤ MC) && decide (u.2 + ms ≤ MS)) = true)
    (hX : X (st.take nA).reverse hp = some o) (h : ab_run T f j (lo, o.1.toList ++ st.drop nA, (u.1 + mc, u.2 + ms), o.2) = r) : ab_run T (f + 1) i (lo, st, u, hp) = r :=
  Rn.step hT (by rw [ab_nx]; simp only [ab_call, hc, cond_true, hX]) h
theorem Rn.callV {nA ci mc ms MC MS : Nat} {X : List Value → ab_H → Option ab_O} {o : ab_O} {lo : List (Option Value)} {st : List Value} {u : Nat × Nat} {hp : ab_H} (hT : T i = some (ab_nx j (ab_callV nA ci X mc ms MC MS))) (hr : ab_rcv ci (st.take nA).reverse hp = true) (hc : (decide (nA ≤ st.length) && decide (ab_cats (st.drop nA) ≤ 8) && decide (u.1 + mc ≤ MC) && decide (u.2 + ms ≤ MS)) = true)
    (hX : X (st.take nA).reverse hp = some o) (h : ab_run T f j (lo, o.1.toList ++ st.drop nA, (u.1 + mc, u.2 + ms), o.2) = r) : ab_run T (f + 1) i (lo, st, u, hp) = r :=
  Rn.step hT (by rw [ab_nx]; simp only [ab_callV, ab_call, hr, hc, cond_true, hX]) h
end RN
theorem H0_MG : H0 = MG 0 (FL 88) := by
  refine Prod.ext rfl (funext fun k => ?_)
  show FL 88 k = cond (decide (69 ≤ k) && decide (k < 88)) (FL 88 k) (FL 88 k)
  cases (decide (69 ≤ k) && decide (k < 88)) <;> rfl
theorem i_nl {x : Int32} (h : decide (x < 0) = false) : decide (0 ≤ x) = true := decide_eq_true (Int32.not_lt.mp (of_decide_eq_false h))
theorem c_isGood (x : Int32) : Z_X10_isGood [.ref 0, .int x] H0 = some (some (.int 0), H0) := by
  refine Rn.of rfl ?_
  refine Rn.step rfl rfl ?_
  refine Rn.step rfl rfl ?_
  refine Rn.br (fun hb => ?_) (fun hb => ?_)
  · refine Rn.step rfl rfl ?_
    exact Rn.ret rfl rfl
  · refine Rn.step rfl rfl ?_
    refine Rn.step rfl rfl ?_
    refine Rn.step rfl rfl ?_
    refine Rn.step rfl rfl ?_
    refine Rn.step rfl rfl ?_
    refine Rn.br (fun hc => ?_) (fun hc => absurd ((i_nl hb).symm.trans hc) (by decide))
    refine Rn.step rfl rfl ?_
    exact Rn.ret rfl rfl
theorem c_isMan (x : Int32) : Z_X10_isMan [.ref 0, .int x] H0 = some (some (.int 0), H0) := by
  refine Rn.of rfl ?_
  refine Rn.step rfl rfl ?_
  refine Rn.step rfl rfl ?_
  refine Rn.br (fun hb => ?_) (fun hb => ?_)
  · refine Rn.step rfl rfl ?_
    exact Rn.ret rfl rfl
  · refine Rn.step rfl rfl ?_
    refine Rn.step rfl rfl ?_
    refine Rn.step rfl rfl ?_
    refine Rn.step rfl rfl ?_
    refine Rn.step rfl rfl ?_
    refine Rn.br (fun hc => ?_) (fun hc => absurd ((i_nl hb).symm.trans hc) (by decide))
    refine Rn.step rfl rfl ?_
    exact Rn.ret rfl rfl
theorem c_isSlot (x y : Int32) : Z_X10_isSlot [.ref 0, .int x, .int y] H0 = some (some (.int 0), H0) := by
  refine Rn.of rfl ?_
  refine Rn.step rfl rfl ?_
  refine Rn.step rfl rfl ?_
  refine Rn.callV rfl rfl rfl (c_isGood x) ?_
  refine Rn.step rfl rfl ?_
  refine Rn.step rfl rfl ?_
  exact Rn.ret rfl rfl
