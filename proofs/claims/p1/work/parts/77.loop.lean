/-! ===== counting loops ===== -/
theorem i_succ (k : Nat) : Int32.ofNat k + 1 = Int32.ofNat (k + 1) := (Int32.ofNat_add k 1).symm
theorem i_add (a k : Nat) : Int32.ofNat a + Int32.ofNat k = Int32.ofNat (a + k) := (Int32.ofNat_add a k).symm
theorem i_toInt {k : Nat} (h : k < 2147483648) : (Int32.ofNat k).toInt = k := Int32.toInt_ofNat_of_lt h
theorem i_toNat {k : Nat} (h : k < 2147483648) : (Int32.ofNat k).toNatClampNeg = k := by
  show (Int32.ofNat k).toInt.toNat = k
  rw [i_toInt h]
  rfl
theorem i_in {k n : Nat} (h : k < n) (hk : k < 2147483648) : ab_in (Int32.ofNat k) n = true := by
  have e : ¬ (Int32.ofNat k < 0) := by
    rw [Int32.lt_iff_toInt_lt, i_toInt hk]
    exact Int.not_lt.mpr (Int.natCast_nonneg k)
  rw [ab_in, i_toNat hk, decide_eq_false e, decide_eq_true h]
  rfl
theorem i_ina {a k n : Nat} (h : a + k < n) (hk : a + k < 2147483648) : ab_in (Int32.ofNat a + Int32.ofNat k) n = true := by
  rw [i_add]
  exact i_in h hk
theorem i_ge {k n : Nat} (h : k < n) (hn : n < 2147483648) : decide (Int32.ofNat n ≤ Int32.ofNat k) = false := by
  refine decide_eq_false ?_
  rw [Int32.le_iff_toInt_le, i_toInt hn, i_toInt (Nat.lt_trans h hn)]
  omega
theorem i_of {x : Int32} (h : 0 ≤ x) : ∃ k : Nat, k < 2147483648 ∧ x = Int32.ofNat k := by
  have a : (0 : Int) ≤ x.toInt := Int32.le_iff_toInt_le.mp h
  have b := Int32.toInt_lt x
  refine ⟨x.toInt.toNat, by omega, Int32.toInt_inj.mp ?_⟩
  rw [i_toInt (by omega)]
  omega
theorem ab_up_up (hp : ab_H) (k : Nat) (x y : ab_E) : ab_up (ab_up hp k x) k y = ab_up hp k y := by
  refine Prod.ext rfl (funext fun j => ?_)
  show (if j = k then y else if j = k then x else hp.2 j) = if j = k then y else hp.2 j
  by_cases h : j = k
  · rw [if_pos h, if_pos h]
  · rw [if_neg h, if_neg h, if_neg h]
theorem ab_up_same {hp : ab_H} {k : Nat} {x : ab_E} (h : hp.2 k = x) : hp = ab_up hp k x := by
  refine Prod.ext rfl (funext fun j => ?_)
  show hp.2 j = if j = k then x else hp.2 j
  by_cases e : j = k
  · rw [if_pos e, e, h]
  · rw [if_neg e]
theorem Ev.lo {T : Nat → Option ab_A} {i : Nat} {lo lo' : List (Option Value)} {st : List Value} {u : Nat × Nat} {hp : ab_H} {Q : ab_O → Prop} (e : lo = lo') (h : Ev T i (lo', st, u, hp) Q) : Ev T i (lo, st, u, hp) Q := e ▸ h
theorem Ev.loop {T : Nat → Option ab_A} {i N : Nat} {S : Nat → ab_H → ab_S} {Q : ab_O → Prop} (P : Nat → ab_H → Prop)
    (hs : ∀ k hp, k < N → P k hp → (∀ hp', P (k + 1) hp' → Ev T i (S (k + 1) hp') Q) → Ev T i (S k hp) Q) (he : ∀ hp, P N hp → Ev T i (S N hp) Q) : ∀ hp, P 0 hp → Ev T i (S 0 hp) Q := by
  have key : ∀ n k hp, k + n = N → P k hp → Ev T i (S k hp) Q := by
    intro n
    induction n with
    | zero =>
      intro k hp hk hP
      have e : k = N := hk
      subst e
      exact he hp hP
    | succ n ih =>
      intro k hp hk hP
      exact hs k hp (by omega) hP (fun hp' hP' => ih (k + 1) hp' (by omega) hP')
  exact fun hp hP => key N 0 hp (Nat.zero_add N) hP
/-- a method's answer, with what is known of the heap after it -/
theorem xX {L : List (Nat × ab_A)} {nL : Nat} {as : List Value} {hp0 : ab_H} {v : Option Value} {P : ab_H → Prop} (hl : (ab_ent as).length ≤ nL) (h : Ev (ab_T L) 0 (ab_en nL as, [], (0, 0), hp0) (fun o => o.1 = v ∧ P o.2)) : ∃ hp, ab_X (ab_T L) nL as hp0 = some (v, hp) ∧ P hp := by
  obtain ⟨⟨o1, o2⟩, h1, h2, h3⟩ := ab_X_ev hl h
  cases h2
  exact ⟨o2, h1, h3⟩
/-- what a counted run comes to -/
def Rq (T : Nat → Option ab_A) (F i : Nat) (s : ab_S) (Q : ab_O → Prop) : Prop := ∃ o, ab_run T F i s = some o ∧ Q o
theorem Rq.step {T : Nat → Option ab_A} {F i j : Nat} {s s' : ab_S} {a : ab_A} {Q : ab_O → Prop} (hT : T i = some a) (ha : a s = some (.inl (j, s'))) (h : Rq T F j s' Q) : Rq T (F + 1) i s Q := by
  obtain ⟨o, h1, h2⟩ := h
  exact ⟨o, Rn.step hT ha h1, h2⟩
theorem Rq.ret {T : Nat → Option ab_A} {F i : Nat} {s : ab_S} {a : ab_A} {o : ab_O} {Q : ab_O → Prop} (hT : T i = some a) (ha : a s = some (.inr o)) (h : Q o) : Rq T (F + 1) i s Q := ⟨o, Rn.ret hT ha, h⟩
theorem xY {L : List (Nat × ab_A)} {nL F : Nat} {as : List Value} {hp0 : ab_H} {v : Option Value} {P : ab_H → Prop} (hl : decide ((ab_ent as).length ≤ nL) = true) (h : Rq (ab_T L) F 0 (ab_en nL as, [], (0, 0), hp0) (fun o => o.1 = v ∧ P o.2)) : ∃ hp, ab_Y L nL F as hp0 = some (v, hp) ∧ P hp := by
  obtain ⟨⟨o1, o2⟩, h1, h2, h3⟩ := h
  cases h2
  exact ⟨o2, Rn.of hl h1, h3⟩
section CX
variable {T : Nat → Option ab_A} {i j : Nat} {lo : List (Option Value)} {st : List Value} {u : Nat × Nat} {hp : ab_H} {Q : ab_O → Prop}
theorem Ev.callX {nA mc ms MC MS : Nat} {X : List Value → ab_H → Option ab_O} {v : Option Value} {P : ab_H → Prop} (hT : T i = some (ab_nx j (ab_call nA X mc ms MC MS))) (hc : (decide (nA ≤ st.length) && decide (ab_cats (st.drop nA) ≤ 8) && decide (u.1 + mc ≤ MC) && decide (u.2 + ms ≤ MS)) = true)
    (hX : ∃ hp', X (st.take nA).reverse hp = some (v, hp') ∧ P hp') (h : ∀ hp', P hp' → Ev T j (lo, v.toList ++ st.drop nA, (u.1 + mc, u.2 + ms), hp') Q) : Ev T i (lo, st, u, hp) Q := by
  obtain ⟨hp', e, hP⟩ := hX
  exact Ev.call hT hc e (h hp' hP)
theorem Ev.callVX {nA ci mc ms MC MS : Nat} {X : List Value → ab_H → Option ab_O} {v : Option Value} {P : ab_H → Prop} (hT : T i = some (ab_nx j (ab_callV nA ci X mc ms MC MS))) (hr : ab_rcv ci (st.take nA).reverse hp = true) (hc : (decide (nA ≤ st.length) && decide (ab_cats (st.drop nA) ≤ 8) && decide (u.1 + mc ≤ MC) && decide (u.2 + ms ≤ MS)) = true)
    (hX : ∃ hp', X (st.take nA).reverse hp = some (v, hp') ∧ P hp') (h : ∀ hp', P hp' → Ev T j (lo, v.toList ++ st.drop nA, (u.1 + mc, u.2 + ms), hp') Q) : Ev T i (lo, st, u, hp) Q := by
  obtain ⟨hp', e, hP⟩ := hX
  exact Ev.callV hT hr hc e (h hp' hP)
/-- a call of a method of steps, run in its place -/
theorem Ev.inl {nA ci nL mc ms MC MS : Nat} {L : List (Nat × ab_A)} (hT : T i = some (ab_nx j (ab_callV nA ci (ab_X (ab_T L) nL) mc ms MC MS))) (hr : ab_rcv ci (st.take nA).reverse hp = true) (hc : (decide (nA ≤ st.length) && decide (ab_cats (st.drop nA) ≤ 8) && decide (u.1 + mc ≤ MC) && decide (u.2 + ms ≤ MS)) = true)
    (hl : (ab_ent (st.take nA).reverse).length ≤ nL) (h : Ev (ab_T L) 0 (ab_en nL (st.take nA).reverse, [], (0, 0), hp) (fun o => Ev T j (lo, o.1.toList ++ st.drop nA, (u.1 + mc, u.2 + ms), o.2) Q)) : Ev T i (lo, st, u, hp) Q := by
  obtain ⟨o, h1, h2⟩ := ab_X_ev hl h
  exact Ev.callV hT hr hc h1 h2
end CX
theorem m_isIn1 {x a b : Int32} {hp : ab_H} (h : a ≤ x) (h' : x ≤ b) : Z_X11_isIn [.int x, .int a, .int b] hp = some (some (.int 1), hp) := by
  refine Rn.of rfl ?_
  refine Rn.step rfl rfl ?_
  refine Rn.step rfl rfl ?_
  refine Rn.step rfl rfl ?_
  refine Rn.br (fun hb => absurd (of_decide_eq_true hb) (Int32.not_lt.mpr h)) (fun hb => ?_)
  refine Rn.step rfl rfl ?_
  refine Rn.step rfl rfl ?_
  refine Rn.step rfl rfl ?_
  refine Rn.br (fun hc => absurd (of_decide_eq_true hc) (Int32.not_lt.mpr h')) (fun hc => ?_)
  refine Rn.step rfl rfl ?_
  refine Rn.step rfl rfl ?_
  exact Rn.ret rfl rfl
theorem c_isWithin1 {x b : Int32} {hp : ab_H} (h : 1 ≤ x) (h' : x ≤ b) : Z_X10_isWithin [.int x, .int b] hp = some (some (.int 1), hp) := by
  refine Rn.of rfl ?_
  refine Rn.step rfl rfl ?_
  refine Rn.step rfl rfl ?_
  refine Rn.step rfl rfl ?_
  refine Rn.br (fun hb => absurd (of_decide_eq_true hb) (Int32.not_lt.mpr h)) (fun hb => ?_)
  refine Rn.step rfl rfl ?_
  refine Rn.step rfl rfl ?_
  refine Rn.step rfl rfl ?_
  refine Rn.br (fun hc => absurd (of_decide_eq_true hc) (Int32.not_lt.mpr h')) (fun hc => ?_)
  refine Rn.step rfl rfl ?_
  refine Rn.step rfl rfl ?_
  exact Rn.ret rfl rfl
theorem c_isWithin0 {x b : Int32} {hp : ab_H} (h : ¬ (1 ≤ x ∧ x ≤ b)) : Z_X10_isWithin [.int x, .int b] hp = some (some (.int 0), hp) := by
  refine Rn.of rfl ?_
  refine Rn.step rfl rfl ?_
  refine Rn.step rfl rfl ?_
  refine Rn.step rfl rfl ?_
  refine Rn.br (fun hb => ?_) (fun hb => ?_)
  · refine Rn.step rfl rfl ?_
    exact Rn.ret rfl rfl
  · refine Rn.step rfl rfl ?_
    refine Rn.step rfl rfl ?_
    refine Rn.step rfl rfl ?_
    refine Rn.br (fun hc => ?_) (fun hc => absurd ⟨Int32.not_lt.mp (of_decide_eq_false hb), Int32.not_lt.mp (of_decide_eq_false hc)⟩ h)
    refine Rn.step rfl rfl ?_
    exact Rn.ret rfl rfl
theorem i_160 {x : Int32} (h : 1 ≤ x) (h' : x ≤ 60) : ∃ c : Nat, 1 ≤ c ∧ c ≤ 60 ∧ x = Int32.ofNat c := by
  have a : (1 : Int) ≤ x.toInt := Int32.le_iff_toInt_le.mp h
  have b : x.toInt ≤ (60 : Int) := Int32.le_iff_toInt_le.mp h'
  refine ⟨x.toInt.toNat, by omega, by omega, Int32.toInt_inj.mp ?_⟩
  rw [i_toInt (by omega)]
  omega
set_option maxRecDepth 10000 in
theorem m_tries {hp : ab_H} {fs : List Value} {s f : Nat → Int32} (h1 : 88 ≤ hp.1) (h69 : hp.2 69 = .inr (11, fs)) (f6 : fs[6]? = some (.ref 71)) (f24 : fs[24]? = some (.ref 78)) (h71 : hp.2 71 = .inl (1, 434, .inl s)) (h78 : hp.2 78 = .inl (1, 133, .inl f)) : ∃ hp', Z_X11_tries [.ref 69] hp = some (none, hp') ∧ ∃ f', hp' = ab_up hp 78 (.inl (1, 133, .inl f')) := by
  refine xX (Nat.le_of_ble_eq_true rfl) ?_
  refine Ev.step rfl rfl ?_
  refine Ev.step rfl rfl ?_
  refine Ev.loop (N := 133) (S := fun k x => ([some (.ref 69), some (.int (Int32.ofNat k))], [], (0, 0), x)) (fun _ x => ∃ f, x = ab_up hp 78 (.inl (1, 133, .inl f))) ?_ ?_ hp ⟨f, ab_up_same h78⟩
  · rintro k _ hk ⟨f, rfl⟩ ih
    refine Ev.step rfl rfl ?_
    refine Ev.step rfl rfl ?_
    refine Ev.step rfl rfl ?_
    refine Ev.br (fun hb => absurd (hb.symm.trans (i_ge hk (by decide))) (by decide)) (fun _ => ?_)
    refine Ev.step rfl rfl ?_
    refine Ev.getf (fs := fs) rfl (Nat.lt_of_lt_of_le (by decide) h1) h69 f24 ?_
    refine Ev.step rfl rfl ?_
    refine Ev.step rfl rfl ?_
    refine Ev.getf (fs := fs) rfl (Nat.lt_of_lt_of_le (by decide) h1) h69 f6 ?_
    refine Ev.step rfl rfl ?_
    refine Ev.step rfl rfl ?_
    refine Ev.step rfl rfl ?_
    refine Ev.ald (f := s) rfl (Nat.lt_of_lt_of_le (by decide) h1) h71 (i_ina (a := 120) (by omega) (by omega)) ?_
    refine Ev.ast (f := f) rfl (Nat.lt_of_lt_of_le (by decide) h1) rfl (i_in hk (by omega)) ?_
    refine Ev.step rfl rfl ?_
    refine Ev.step rfl rfl ?_
    refine (show Ev _ 2 ([some (.ref 69), some (.int (Int32.ofNat k + 1))], [], (0, 0), ab_up (ab_up hp 78 (.inl (1, 133, .inl f))) 78 _) _ from ?_)
    rw [i_succ, ab_up_up]
    exact ih _ ⟨_, rfl⟩
  · rintro _ ⟨f, rfl⟩
    refine Ev.step rfl rfl ?_
    refine Ev.step rfl rfl ?_
    refine Ev.step rfl rfl ?_
    exact Ev.ret rfl rfl ⟨rfl, f, rfl⟩
set_option maxRecDepth 10000 in
theorem m_back {hp : ab_H} {fs : List Value} {s f : Nat → Int32} (h1 : 88 ≤ hp.1) (h69 : hp.2 69 = .inr (11, fs)) (f6 : fs[6]? = some (.ref 71)) (f24 : fs[24]? = some (.ref 78)) (h71 : hp.2 71 = .inl (1, 434, .inl s)) (h78 : hp.2 78 = .inl (1, 133, .inl f)) : ∃ hp', Z_X11_back [.ref 69] hp = some (none, hp') ∧ ∃ f', hp' = ab_up hp 71 (.inl (1, 434, .inl f')) := by
  refine xX (Nat.le_of_ble_eq_true rfl) ?_
  refine Ev.step rfl rfl ?_
  refine Ev.step rfl rfl ?_
  refine Ev.loop (N := 133) (S := fun k x => ([some (.ref 69), some (.int (Int32.ofNat k))], [], (0, 0), x)) (fun _ x => ∃ f, x = ab_up hp 71 (.inl (1, 434, .inl f))) ?_ ?_ hp ⟨s, ab_up_same h71⟩
  · rintro k _ hk ⟨s, rfl⟩ ih
    refine Ev.step rfl rfl ?_
    refine Ev.step rfl rfl ?_
    refine Ev.step rfl rfl ?_
    refine Ev.br (fun hb => absurd (hb.symm.trans (i_ge hk (by decide))) (by decide)) (fun _ => ?_)
    refine Ev.step rfl rfl ?_
    refine Ev.getf (fs := fs) rfl (Nat.lt_of_lt_of_le (by decide) h1) h69 f6 ?_
    refine Ev.step rfl rfl ?_
    refine Ev.step rfl rfl ?_
    refine Ev.step rfl rfl ?_
    refine Ev.step rfl rfl ?_
    refine Ev.getf (fs := fs) rfl (Nat.lt_of_lt_of_le (by decide) h1) h69 f24 ?_
    refine Ev.step rfl rfl ?_
    refine Ev.ald (f := f) rfl (Nat.lt_of_lt_of_le (by decide) h1) h78 (i_in hk (by omega)) ?_
    refine Ev.ast (f := s) rfl (Nat.lt_of_lt_of_le (by decide) h1) rfl (i_ina (a := 120) (by omega) (by omega)) ?_
    refine Ev.step rfl rfl ?_
    refine Ev.step rfl rfl ?_
    refine (show Ev _ 2 ([some (.ref 69), some (.int (Int32.ofNat k + 1))], [], (0, 0), ab_up (ab_up hp 71 (.inl (1, 434, .inl s))) 71 _) _ from ?_)
    rw [i_succ, ab_up_up]
    exact ih _ ⟨_, rfl⟩
  · rintro _ ⟨s, rfl⟩
    refine Ev.step rfl rfl ?_
    refine Ev.step rfl rfl ?_
    refine Ev.step rfl rfl ?_
    exact Ev.ret rfl rfl ⟨rfl, s, rfl⟩
set_option maxRecDepth 10000 in
theorem m_keep {hp : ab_H} {fs : List Value} {s f : Nat → Int32} (h1 : 88 ≤ hp.1) (h69 : hp.2 69 = .inr (11, fs)) (f6 : fs[6]? = some (.ref 71)) (f23 : fs[23]? = some (.ref 77)) (f25 : fs[25]? = some (.int 0)) (h71 : hp.2 71 = .inl (1, 434, .inl s)) (h77 : hp.2 77 = .inl (1, 1064, .inl f)) : ∃ hp', Z_X11_keep [.ref 69] hp = some (none, hp') ∧ ∃ f', hp' = ab_up (ab_up hp 77 (.inl (1, 1064, .inl f'))) 69 (.inr (11, fs.set 25 (.int 1))) := by
  refine xX (Nat.le_of_ble_eq_true rfl) ?_
  refine Ev.step rfl rfl ?_
  refine Ev.getf (fs := fs) rfl (Nat.lt_of_lt_of_le (by decide) h1) h69 f25 ?_
  refine Ev.step rfl rfl ?_
  refine Ev.step rfl rfl ?_
  refine Ev.step rfl rfl ?_
  refine Ev.step rfl rfl ?_
  refine Ev.loop (N := 133) (S := fun k x => ([some (.ref 69), some (.int (Int32.ofNat k))], [], (0, 0), x)) (fun _ x => ∃ f, x = ab_up hp 77 (.inl (1, 1064, .inl f))) ?_ ?_ hp ⟨f, ab_up_same h77⟩
  · rintro k _ hk ⟨f, rfl⟩ ih
    refine Ev.step rfl rfl ?_
    refine Ev.step rfl rfl ?_
    refine Ev.step rfl rfl ?_
    refine Ev.br (fun hb => absurd (hb.symm.trans (i_ge hk (by decide))) (by decide)) (fun _ => ?_)
    refine Ev.step rfl rfl ?_
    refine Ev.getf (fs := fs) rfl (Nat.lt_of_lt_of_le (by decide) h1) h69 f23 ?_
    refine Ev.step rfl rfl ?_
    refine Ev.step rfl rfl ?_
    refine Ev.getf (fs := fs) rfl (Nat.lt_of_lt_of_le (by decide) h1) h69 f25 ?_
    refine Ev.step rfl rfl ?_
    refine Ev.step rfl rfl ?_
    refine Ev.step rfl rfl ?_
    refine Ev.step rfl rfl ?_
    refine Ev.getf (fs := fs) rfl (Nat.lt_of_lt_of_le (by decide) h1) h69 f6 ?_
    refine Ev.step rfl rfl ?_
    refine Ev.step rfl rfl ?_
    refine Ev.step rfl rfl ?_
    refine Ev.ald (f := s) rfl (Nat.lt_of_lt_of_le (by decide) h1) h71 (i_ina (a := 120) (by omega) (by omega)) ?_
    refine Ev.ast (f := f) rfl (Nat.lt_of_lt_of_le (by decide) h1) rfl (i_ina (a := 0) (by omega) (by omega)) ?_
    refine Ev.step rfl rfl ?_
    refine Ev.step rfl rfl ?_
    refine (show Ev _ 48 ([some (.ref 69), some (.int (Int32.ofNat k + 1))], [], (0, 0), ab_up (ab_up hp 77 (.inl (1, 1064, .inl f))) 77 _) _ from ?_)
    rw [i_succ, ab_up_up]
    exact ih _ ⟨_, rfl⟩
  · rintro _ ⟨f, rfl⟩
    refine Ev.step rfl rfl ?_
    refine Ev.step rfl rfl ?_
    refine Ev.step rfl rfl ?_
    refine Ev.step rfl rfl ?_
    refine Ev.step rfl rfl ?_
    refine Ev.getf (fs := fs) rfl (Nat.lt_of_lt_of_le (by decide) h1) h69 f25 ?_
    refine Ev.step rfl rfl ?_
    refine Ev.step rfl rfl ?_
    refine Ev.putf (fs := fs) rfl (Nat.lt_of_lt_of_le (by decide) h1) h69 (List.getElem?_eq_some_iff.mp f25).1 rfl ?_
    exact Ev.ret rfl rfl ⟨rfl, f, rfl⟩
