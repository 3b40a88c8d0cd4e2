/-! ===== the reference's peek: a value of the heap; the way left to read ===== -/
def pkR (hp : ab_H) (z : Int32) : Prop := ∃ p l : Int, sf_rd hp 69 4 = some p ∧ sf_rd hp 69 3 = some l ∧ ((l ≤ p ∧ z.toInt = -1) ∨ (p < l ∧ ∃ b c : Int32, sf_rd hp 70 p.toNat = some b.toInt ∧ c.toInt = 255 ∧ z = b &&& c))
theorem pkR.same {hp : ab_H} {z z' : Int32} (h : pkR hp z) (h' : pkR hp z') : z.toInt = z'.toInt := by
  obtain ⟨p, l, h1, h2, h3⟩ := h
  obtain ⟨p', l', h1', h2', h3'⟩ := h'
  have e1 : p = p' := Option.some.inj (h1.symm.trans h1')
  have e2 : l = l' := Option.some.inj (h2.symm.trans h2')
  subst e1 e2
  rcases h3 with ⟨a, b⟩ | ⟨a, b, c, d1, d2, d3⟩
  · rcases h3' with ⟨a', b'⟩ | ⟨a', -⟩
    · omega
    · omega
  · rcases h3' with ⟨a', -⟩ | ⟨a', b', c', d1', d2', d3'⟩
    · omega
    · exact and_same d3 d3' (Option.some.inj (d1.symm.trans d1')) (by omega)
theorem pkR.mv {hp hp' : ab_H} {z : Int32} (h : pkR hp z) (h4 : sf_rd hp' 69 4 = sf_rd hp 69 4) (h3 : sf_rd hp' 69 3 = sf_rd hp 69 3) (h70 : ∀ q, sf_rd hp' 70 q = sf_rd hp 70 q) : pkR hp' z := by
  obtain ⟨p, l, a, b, c⟩ := h
  refine ⟨p, l, h4.trans a, h3.trans b, ?_⟩
  rcases c with c | ⟨c, d, e, f, g⟩
  · exact Or.inl c
  · exact Or.inr ⟨c, d, e, (h70 _).trans f, g⟩
theorem pk_ev {T : Nat → Option ab_A} {i j MC MS : Nat} {lo : List (Option Value)} {st : List Value} {u : Nat × Nat} {hp : ab_H} {Q : ab_O → Prop} {t : Nat → Nat} (hT : T i = some (ab_nx j (ab_callV 1 11 Z_X11_peek 0 0 MC MS))) (H : sf_h t hp) (hc : (decide (1 ≤ st.length + 1) && decide (ab_cats st ≤ 8) && decide (u.1 + 0 ≤ MC) && decide (u.2 + 0 ≤ MS)) = true) (h : ∀ z : Int32, pkR hp z → (z.toInt = -1 ∨ (0 ≤ z.toInt ∧ z.toInt ≤ 255)) → (∀ p, sf_rd hp 69 4 = some p → z.toInt = -1 ∨ p ≤ 939) → Ev T j (lo, .int z :: st, u, hp) Q) : Ev T i (lo, .ref 69 :: st, u, hp) Q := by
  refine Ev.inl (L := L_X11_peek) (nL := 1) hT (bs_rcv (g := 11) H (bs_R.uq H (g := 11) rfl) (by decide) rfl) hc (Nat.le_of_ble_eq_true rfl) ?_
  refine (show Ev (ab_T L_X11_peek) 0 ([some (.ref 69)], [], (0, 0), hp) (fun o => Ev T j (lo, o.1.toList ++ st, u, o.2) Q) from ?_)
  refine Ev.step (j := 1) (s' := ([some (.ref 69)], [.ref 69], (0, 0), hp)) rfl rfl ?_
  refine bs_getI 11 rfl rfl rfl H (bs_R.uq H (g := 11) rfl) (by decide) rfl fun z1 hz1 lz1 gz1 => ?_
  refine Ev.step (j := 5) (s' := ([some (.ref 69)], [.ref 69, .int z1], (0, 0), hp)) rfl rfl ?_
  refine bs_getI 11 rfl rfl rfl H (bs_R.uq H (g := 11) rfl) (by decide) rfl fun z2 hz2 lz2 gz2 => ?_
  refine bs_ge rfl (fun c3 => ?_) (fun c3 => ?_)
  · skip
    refine bs_lit (k := -1) rfl rfl fun z4 hz4 => ?_
    exact Ev.ret (o := (some (.int z4), hp)) rfl rfl (h z4 ⟨z1.toInt, z2.toInt, hz1, hz2, Or.inl ⟨c3, hz4⟩⟩ (Or.inl hz4) (fun _ _ => Or.inl hz4))
  · skip
    refine Ev.step (j := 12) (s' := ([some (.ref 69)], [.ref 69], (0, 0), hp)) rfl rfl ?_
    refine bs_getU (g := 11) (g1 := 131) rfl rfl H (bs_R.uq H (g := 11) rfl) (by decide) rfl rfl ?_
    refine Ev.step (j := 16) (s' := ([some (.ref 69)], [.ref 69, .ref 70], (0, 0), hp)) rfl rfl ?_
    refine bs_getI 11 rfl rfl rfl H (bs_R.uq H (g := 11) rfl) (by decide) rfl fun z5 hz5 lz5 gz5 => ?_
    have e6 : z5.toInt = z1.toInt := Option.some.inj (hz5.symm.trans hz1)
    refine bs_ld (g := 131) 0 939 (-2147483648, 2147483647) rfl H (bs_R.uq H (g := 131) rfl) (by decide) rfl (by decide) (by decide) rfl (by decide) (by omega) (by omega) fun z7 hz7 lz7 gz7 => ?_
    refine bs_lit (k := 255) rfl rfl fun z8 hz8 => ?_
    refine bs_andF rfl (by omega) fun z9 qz9 hz9 gz9 => ?_
    refine Ev.step (j := 28) (s' := ([some (.ref 69)], [.int z9], (0, 0), hp)) rfl rfl ?_
    refine Ev.ret (o := (some (.int z9), hp)) rfl rfl (h z9 ⟨z1.toInt, z2.toInt, hz1, hz2, Or.inr ⟨by omega, z7, z8, by rw [← e6]; exact hz7, hz8, qz9⟩⟩ (Or.inr ⟨by omega, by omega⟩) (fun p hp' => Or.inr ?_))
    have e := Option.some.inj (hz1.symm.trans hp')
    omega
theorem psi_ge {hp : ab_H} {p k : Int} (h : sf_rd hp 69 4 = some p) (h2 : sf_rd hp 69 11 = some k) : 2 * (940 - p) ≤ sf_psi hp ∧ sf_psi hp ≤ 2 * (940 - p) + 1 ∧ (1 ≤ k → k ≤ 3 → sf_psi hp = 2 * (940 - p) + 1) ∧ (k < 1 ∨ 3 < k → sf_psi hp = 2 * (940 - p)) := by
  unfold sf_psi
  rw [h, h2]
  dsimp only
  by_cases c1 : 1 ≤ k
  · by_cases c2 : k ≤ 3
    · rw [decide_eq_true c1, decide_eq_true c2]
      exact ⟨by show _ ≤ _ + (1 : Int); omega, by show _ + (1 : Int) ≤ _; omega, fun _ _ => rfl, fun q => by omega⟩
    · rw [decide_eq_true c1, decide_eq_false c2]
      exact ⟨by show _ ≤ _ + (0 : Int); omega, by show _ + (0 : Int) ≤ _; omega, fun _ q => absurd q c2, fun _ => Int.add_zero _⟩
  · rw [decide_eq_false c1, Bool.false_and]
    exact ⟨by show _ ≤ _ + (0 : Int); omega, by show _ + (0 : Int) ≤ _; omega, fun q => absurd q c1, fun _ => Int.add_zero _⟩
theorem fr_unmark {W : List (Nat × Nat × Nat)} {t t' : Nat → Nat} {hp hp' : ab_H} (H : sf_h t hp) (h : sf_fr ((999, 0, 0) :: W) t hp t' hp') (hpsi : sf_psi hp' ≤ sf_psi hp) : sf_fr W t hp t' hp' := by
  have n9 : ∀ a, a < hp.1 → t a ≠ 999 := fun a ha e => by
    have hc := H.1 a ha
    rw [e] at hc
    cases hx : hp.2 a with
    | inr o =>
      rw [hx] at hc
      exact absurd hc.2.1 (by decide)
    | inl x =>
      rw [hx] at hc
      obtain ⟨kd, len, w⟩ := x
      obtain ⟨-, h1, -, h2⟩ := hc
      have h1' : kd = 9 := h1
      subst h1'
      obtain f | f | f | f | f := w
      · exact absurd (show (9 : Nat) < 4 from h2.2.1) (by decide)
      · exact absurd (show (9 : Nat) = 2 from h2) (by decide)
      · exact h2.elim
      · exact h2.elim
      · exact absurd (show (9 : Nat) < 6 from h2.2.1) (by decide)
  refine ⟨h.1, h.2.1, fun a ha i hi => h.2.2.1 a ha i ?_, fun a ha hw => h.2.2.2.1 a ha ?_, fun _ => hpsi⟩
  · unfold sf_inW at hi ⊢
    rw [List.any_cons, hi, decide_eq_false (show ¬ (999 = t a) from Ne.symm (n9 a ha))]
    rfl
  · rw [List.all_cons, hw, decide_eq_true (show (999 : Nat) ≠ t a from Ne.symm (n9 a ha))]
    rfl
