/-! ===== runs and whole numbers: what the rows of every method use ===== -/
theorem Ev.br {T : Nat → Option ab_A} {j t : Nat} {s : ab_S} {Q : ab_O → Prop} {b : Bool} (h1 : b = true → Ev T t s Q) (h2 : b = false → Ev T j s Q) : Ev T (cond b t j) s Q := by
  cases b
  · exact h2 rfl
  · exact h1 rfl
theorem Ev.idx {T : Nat → Option ab_A} {i j : Nat} {s : ab_S} {Q : ab_O → Prop} (e : i = j) (h : Ev T j s Q) : Ev T i s Q := e ▸ h
theorem Ev.hp {T : Nat → Option ab_A} {i : Nat} {lo : List (Option Value)} {st : List Value} {u : Nat × Nat} {hp hp' : ab_H} {Q : ab_O → Prop} (e : hp = hp') (h : Ev T i (lo, st, u, hp') Q) : Ev T i (lo, st, u, hp) Q := e ▸ h
theorem i_succ (k : Nat) : Int32.ofNat k + 1 = Int32.ofNat (k + 1) := (Int32.ofNat_add k 1).symm
theorem i_add (a k : Nat) : Int32.ofNat a + Int32.ofNat k = Int32.ofNat (a + k) := (Int32.ofNat_add a k).symm
theorem i_toInt {k : Nat} (h : k < 2147483648) : (Int32.ofNat k).toInt = k := Int32.toInt_ofNat_of_lt h
theorem i_toNat {k : Nat} (h : k < 2147483648) : (Int32.ofNat k).toNatClampNeg = k := by
  show (Int32.ofNat k).toInt.toNat = k
  rw [i_toInt h]
  rfl
theorem i_in {k n : Nat} (h : k < n) (hk : k < 2147483648) : ab_in (Int32.ofNat k) n = true := by
  have e : ¬ (Int32.ofNat k < 0) := by
    rw [Int32.lt_iff_toInt_lt, i_toInt hk]
    exact Int.not_lt.mpr (Int.natCast_nonneg k)
  rw [ab_in, i_toNat hk, decide_eq_false e, decide_eq_true h]
  rfl
theorem i_ina {a k n : Nat} (h : a + k < n) (hk : a + k < 2147483648) : ab_in (Int32.ofNat a + Int32.ofNat k) n = true := by
  rw [i_add]
  exact i_in h hk
theorem i_ge {k n : Nat} (h : k < n) (hn : n < 2147483648) : decide (Int32.ofNat n ≤ Int32.ofNat k) = false := by
  refine decide_eq_false ?_
  rw [Int32.le_iff_toInt_le, i_toInt hn, i_toInt (Nat.lt_trans h hn)]
  omega
theorem i_of {x : Int32} (h : 0 ≤ x) : ∃ k : Nat, k < 2147483648 ∧ x = Int32.ofNat k := by
  have a : (0 : Int) ≤ x.toInt := Int32.le_iff_toInt_le.mp h
  have b := Int32.toInt_lt x
  refine ⟨x.toInt.toNat, by omega, Int32.toInt_inj.mp ?_⟩
  rw [i_toInt (by omega)]
  omega
theorem ab_up_up (hp : ab_H) (k : Nat) (x y : ab_E) : ab_up (ab_up hp k x) k y = ab_up hp k y := by
  refine Prod.ext rfl (funext fun j => ?_)
  show (if j = k then y else if j = k then x else hp.2 j) = if j = k then y else hp.2 j
  by_cases h : j = k
  · rw [if_pos h, if_pos h]
  · rw [if_neg h, if_neg h, if_neg h]
theorem ab_up_same {hp : ab_H} {k : Nat} {x : ab_E} (h : hp.2 k = x) : hp = ab_up hp k x := by
  refine Prod.ext rfl (funext fun j => ?_)
  show hp.2 j = if j = k then x else hp.2 j
  by_cases e : j = k
  · rw [if_pos e, e, h]
  · rw [if_neg e]
theorem Ev.lo {T : Nat → Option ab_A} {i : Nat} {lo lo' : List (Option Value)} {st : List Value} {u : Nat × Nat} {hp : ab_H} {Q : ab_O → Prop} (e : lo = lo') (h : Ev T i (lo', st, u, hp) Q) : Ev T i (lo, st, u, hp) Q := e ▸ h
theorem Ev.loop {T : Nat → Option ab_A} {i N : Nat} {S : Nat → ab_H → ab_S} {Q : ab_O → Prop} (P : Nat → ab_H → Prop)
    (hs : ∀ k hp, k < N → P k hp → (∀ hp', P (k + 1) hp' → Ev T i (S (k + 1) hp') Q) → Ev T i (S k hp) Q) (he : ∀ hp, P N hp → Ev T i (S N hp) Q) : ∀ hp, P 0 hp → Ev T i (S 0 hp) Q := by
  have key : ∀ n k hp, k + n = N → P k hp → Ev T i (S k hp) Q := by
    intro n
    induction n with
    | zero =>
      intro k hp hk hP
      have e : k = N := hk
      subst e
      exact he hp hP
    | succ n ih =>
      intro k hp hk hP
      exact hs k hp (by omega) hP (fun hp' hP' => ih (k + 1) hp' (by omega) hP')
  exact fun hp hP => key N 0 hp (Nat.zero_add N) hP
/-- a method's answer, with what is known of the heap after it -/
theorem xX {L : List (Nat × ab_A)} {nL : Nat} {as : List Value} {hp0 : ab_H} {v : Option Value} {P : ab_H → Prop} (hl : (ab_ent as).length ≤ nL) (h : Ev (ab_T L) 0 (ab_en nL as, [], (0, 0), hp0) (fun o => o.1 = v ∧ P o.2)) : ∃ hp, ab_X (ab_T L) nL as hp0 = some (v, hp) ∧ P hp := by
  obtain ⟨⟨o1, o2⟩, h1, h2, h3⟩ := ab_X_ev hl h
  cases h2
  exact ⟨o2, h1, h3⟩
section CX
variable {T : Nat → Option ab_A} {i j : Nat} {lo : List (Option Value)} {st : List Value} {u : Nat × Nat} {hp : ab_H} {Q : ab_O → Prop}
theorem Ev.callX {nA mc ms MC MS : Nat} {X : List Value → ab_H → Option ab_O} {v : Option Value} {P : ab_H → Prop} (hT : T i = some (ab_nx j (ab_call nA X mc ms MC MS))) (hc : (decide (nA ≤ st.length) && decide (ab_cats (st.drop nA) ≤ 8) && decide (u.1 + mc ≤ MC) && decide (u.2 + ms ≤ MS)) = true)
    (hX : ∃ hp', X (st.take nA).reverse hp = some (v, hp') ∧ P hp') (h : ∀ hp', P hp' → Ev T j (lo, v.toList ++ st.drop nA, (u.1 + mc, u.2 + ms), hp') Q) : Ev T i (lo, st, u, hp) Q := by
  obtain ⟨hp', e, hP⟩ := hX
  exact Ev.call hT hc e (h hp' hP)
theorem Ev.callVX {nA ci mc ms MC MS : Nat} {X : List Value → ab_H → Option ab_O} {v : Option Value} {P : ab_H → Prop} (hT : T i = some (ab_nx j (ab_callV nA ci X mc ms MC MS))) (hr : ab_rcv ci (st.take nA).reverse hp = true) (hc : (decide (nA ≤ st.length) && decide (ab_cats (st.drop nA) ≤ 8) && decide (u.1 + mc ≤ MC) && decide (u.2 + ms ≤ MS)) = true)
    (hX : ∃ hp', X (st.take nA).reverse hp = some (v, hp') ∧ P hp') (h : ∀ hp', P hp' → Ev T j (lo, v.toList ++ st.drop nA, (u.1 + mc, u.2 + ms), hp') Q) : Ev T i (lo, st, u, hp) Q := by
  obtain ⟨hp', e, hP⟩ := hX
  exact Ev.callV hT hr hc e (h hp' hP)
/-- a call of a method of steps, run in its place -/
theorem Ev.inl {nA ci nL mc ms MC MS : Nat} {L : List (Nat × ab_A)} (hT : T i = some (ab_nx j (ab_callV nA ci (ab_X (ab_T L) nL) mc ms MC MS))) (hr : ab_rcv ci (st.take nA).reverse hp = true) (hc : (decide (nA ≤ st.length) && decide (ab_cats (st.drop nA) ≤ 8) && decide (u.1 + mc ≤ MC) && decide (u.2 + ms ≤ MS)) = true)
    (hl : (ab_ent (st.take nA).reverse).length ≤ nL) (h : Ev (ab_T L) 0 (ab_en nL (st.take nA).reverse, [], (0, 0), hp) (fun o => Ev T j (lo, o.1.toList ++ st.drop nA, (u.1 + mc, u.2 + ms), o.2) Q)) : Ev T i (lo, st, u, hp) Q := by
  obtain ⟨o, h1, h2⟩ := ab_X_ev hl h
  exact Ev.callV hT hr hc h1 h2
end CX
