/-! ===== two cells at once: a Sentence's ops, a LogText's lines ===== -/
theorem tw_rd {hp : ab_H} {a n i : Nat} {f : Nat → Int32} (e : hp.2 a = .inl (1, n, .inl f)) (h : i < n) : sf_rd hp a i = some (f i).toInt := by
  unfold sf_rd
  rw [e]
  dsimp only
  rw [decide_eq_true h]
  rfl
theorem tw_rr {hp : ab_H} {a n i : Nat} {f : Nat → Int32} (e : hp.2 a = .inl (1, n, .inl f)) : sf_rr hp a i = none := by
  unfold sf_rr
  rw [e]
theorem tw_h {t : Nat → Nat} {hp : ab_H} (H : sf_h t hp) {a b : Nat} {c d : ab_E} (hc : sf_c t hp.1 (t a) c) (hd : sf_c t hp.1 (t b) d) (hI : sf_IV t (ab_up (ab_up hp a c) b d)) : sf_h t (ab_up (ab_up hp a c) b d) := by
  refine ⟨fun q hq => ?_, H.2.1, H.2.2.1, hI⟩
  show sf_c t hp.1 (t q) (if q = b then d else (if q = a then c else hp.2 q))
  by_cases e : q = b
  · rw [if_pos e, e]
    exact hd
  · rw [if_neg e]
    by_cases e2 : q = a
    · rw [if_pos e2, e2]
      exact hc
    · rw [if_neg e2]
      exact H.1 q hq
theorem tw_any {t : Nat → Nat} {n g m : Nat} {f : Nat → Int32} {l h : Int} (hg : 100 ≤ g) (e1 : (sf_A g).1 = 1) (e2 : (sf_A g).2.1 = m) (e3 : (sf_A g).2.2 = [(m, (0, l, h))]) (hf : ∀ j, j < m → l ≤ (f j).toInt ∧ (f j).toInt ≤ h) : sf_c t n g (.inl (1, m, .inl f)) := by
  refine ⟨hg, e1.symm, e2.symm, (by decide : (1 : Nat) ≠ 2), (by decide : (1 : Nat) < 4), fun j hj => ?_⟩
  have hj' : j < m := hj
  rw [e3]
  show sf_v t n (cond (decide (j < m)) (0, l, h) _) _
  rw [decide_eq_true hj']
  exact ⟨rfl, (hf j hj').1, (hf j hj').2⟩
theorem tw_fr {t : Nat → Nat} {hp : ab_H} {a b g1 g2 m : Nat} {f f' d d' : Nat → Int32} (ta : t a = g1) (tb : t b = g2) (hne : b ≠ a) (ea : hp.2 a = .inl (1, m, .inl f')) (eb : hp.2 b = .inl (1, m, .inl d')) (hm : 0 < m) (na : a ≠ 69) (nb : b ≠ 69) : sf_fr [(g1, 0, m - 1), (g2, 0, m - 1)] t hp t (ab_up (ab_up hp a (.inl (1, m, .inl f))) b (.inl (1, m, .inl d))) := by
  have out : ∀ {h0 : ab_H} {c i : Nat} {k k' : Nat → Int32}, h0.2 c = .inl (1, m, .inl k') → ¬ (0 ≤ i ∧ i ≤ m - 1) → sf_rd (ab_up h0 c (.inl (1, m, .inl k))) c i = sf_rd h0 c i := fun {h0 c i k k'} e hi => by
    have hge : ¬ i < m := by omega
    rw [sf_rd_up_arr, decide_eq_false hge, cond_false]
    unfold sf_rd
    rw [e]
    dsimp only
    rw [decide_eq_false hge, cond_false]
  refine sf_fr_tr (t' := t) (hp' := ab_up hp a (.inl (1, m, .inl f))) (sf_fr_up (i0 := 0) (i1 := m - 1) (fun i h1 h2 => ?_) (Nat.zero_le _) (fun i hi => out ea hi) (Or.inr (Or.inl na))) (sf_fr_up (i0 := 0) (i1 := m - 1) (fun i h1 h2 => ?_) (Nat.zero_le _) (fun i hi => out ((ab_up_ne hne).trans eb) hi) (Or.inr (Or.inl nb)))
  · rw [ta]
    exact bs_in (g1, 0, m - 1) (List.mem_cons_self) rfl h1 h2
  · rw [tb]
    exact bs_in (g2, 0, m - 1) (List.mem_cons_of_mem _ List.mem_cons_self) rfl h1 h2
theorem x5_cell {t : Nat → Nat} {hp : ab_H} (H : sf_h t hp) {a : Nat} (ra : bs_R t hp a 5) : a + 2 < hp.1 ∧ t (a + 1) = 106 ∧ t (a + 2) = 107 ∧ ∃ fs A B, hp.2 a = .inr (5, fs) ∧ fs[0]? = some (.ref (a + 1)) ∧ fs[1]? = some (.ref (a + 2)) ∧ hp.2 (a + 1) = .inl (1, 40, .inl A) ∧ hp.2 (a + 2) = .inl (1, 40, .inl B) ∧ ∀ i, i < 40 → (A i).toInt ≤ 84 → 0 ≤ (B i).toInt ∧ (B i).toInt ≤ 1 := by
  obtain ⟨q1, q2, q3, q4, q5, q6⟩ := H.2.2.2.1 a ra.1 ra.2
  have l1 : a + 1 < hp.1 := by omega
  obtain ⟨fs, v, e1, e2, e3⟩ := sf_get H ra.1 ra.2 (by decide) (i := 0) (k := (1, 106, 0)) rfl
  obtain ⟨fs', v', e1', e2', e3'⟩ := sf_get H ra.1 ra.2 (by decide) (i := 1) (k := (1, 107, 0)) rfl
  have ef : fs' = fs := by
    rw [e1] at e1'
    cases e1'
    rfl
  subst ef
  obtain ⟨A, eA, -⟩ := sf_arr H l1 q2 (by decide) (by decide) (by decide)
  obtain ⟨B, eB, -⟩ := sf_arr H q1 q3 (by decide) (by decide) (by decide)
  have eA' : hp.2 (a + 1) = .inl (1, 40, .inl A) := eA
  have eB' : hp.2 (a + 2) = .inl (1, 40, .inl B) := eB
  unfold sf_rr at q4 q5
  rw [e1] at q4 q5
  dsimp only at q4 q5
  rw [e2] at q4
  rw [e2'] at q5
  refine ⟨q1, q2, q3, fs', A, B, e1, ?_, ?_, eA', eB', fun i hi hx => ?_⟩
  · cases v with
    | ref z =>
      have q : some z = some (a + 1) := q4
      rw [e2, Option.some.inj q]
    | int z => exact absurd (show (1 : Nat) = 0 from e3.1) (by decide)
    | long z => exact absurd (show (1 : Nat) = 2 from e3) (by decide)
    | null => exact absurd (show (0 : Int) = 1 from e3.2) (by decide)
    | _ => exact e3.elim
  · cases v' with
    | ref z =>
      have q : some z = some (a + 2) := q5
      rw [e2', Option.some.inj q]
    | int z => exact absurd (show (1 : Nat) = 0 from e3'.1) (by decide)
    | long z => exact absurd (show (1 : Nat) = 2 from e3') (by decide)
    | null => exact absurd (show (0 : Int) = 1 from e3'.2) (by decide)
    | _ => exact e3'.elim
  · obtain ⟨y, h1, h2, h3⟩ := q6 i hi _ (tw_rd eA' hi) hx
    rw [tw_rd eB' hi] at h1
    cases h1
    exact ⟨h2, h3⟩
theorem x5_two {t : Nat → Nat} {hp : ab_H} (H : sf_h t hp) {a : Nat} (ra : bs_R t hp a 5) {f1 f2 : Nat → Int32} (hf : ∀ i, i < 40 → (f1 i).toInt ≤ 84 → 0 ≤ (f2 i).toInt ∧ (f2 i).toInt ≤ 1) : sf_h t (ab_up (ab_up hp (a + 1) (.inl (1, 40, .inl f1))) (a + 2) (.inl (1, 40, .inl f2))) ∧ sf_fr [(106, 0, 39), (107, 0, 39)] t hp t (ab_up (ab_up hp (a + 1) (.inl (1, 40, .inl f1))) (a + 2) (.inl (1, 40, .inl f2))) := by
  obtain ⟨p1, p2, p3, fs, A, B, e1, e2, e3, e4, e5, -⟩ := x5_cell H ra
  obtain ⟨i1, i2, i3, i4, i5⟩ := H.2.2.2
  have h88 : 88 ≤ hp.1 := (H.2.2.1 148 87 rfl).1
  have u37 : t 37 = 103 := (H.2.2.1 103 37 rfl).2
  have u38 : t 38 = 104 := (H.2.2.1 104 38 rfl).2
  have u71 : t 71 = 132 := (H.2.2.1 132 71 rfl).2
  have u84 : t 84 = 145 := (H.2.2.1 145 84 rfl).2
  have u69 : t 69 = 11 := (H.2.2.1 11 69 rfl).2
  have ne : ∀ q, t q ≠ 106 → t q ≠ 107 → q ≠ a + 1 ∧ q ≠ a + 2 := fun q h1 h2 => ⟨fun e => h1 (e ▸ p2), fun e => h2 (e ▸ p3)⟩
  have rd : ∀ q i, q ≠ a + 1 → q ≠ a + 2 → sf_rd (ab_up (ab_up hp (a + 1) (.inl (1, 40, .inl f1))) (a + 2) (.inl (1, 40, .inl f2))) q i = sf_rd hp q i := fun q i h1 h2 => (sf_rd_up_ne h2).trans (sf_rd_up_ne h1)
  have rr : ∀ q i, q ≠ a + 1 → q ≠ a + 2 → sf_rr (ab_up (ab_up hp (a + 1) (.inl (1, 40, .inl f1))) (a + 2) (.inl (1, 40, .inl f2))) q i = sf_rr hp q i := fun q i h1 h2 => (sf_rr_up_ne h2).trans (sf_rr_up_ne h1)
  have c1 : (ab_up (ab_up hp (a + 1) (.inl (1, 40, .inl f1))) (a + 2) (.inl (1, 40, .inl f2))).2 (a + 1) = .inl (1, 40, .inl f1) := (ab_up_ne (by omega)).trans (ab_up_eq _ _ _)
  have c2 : (ab_up (ab_up hp (a + 1) (.inl (1, 40, .inl f1))) (a + 2) (.inl (1, 40, .inl f2))).2 (a + 2) = .inl (1, 40, .inl f2) := ab_up_eq _ _ _
  refine ⟨tw_h H (by rw [p2]; exact tw_any (by decide) rfl rfl rfl (fun j _ => n_range _)) (by rw [p3]; exact tw_any (by decide) rfl rfl rfl (fun j _ => n_range _)) ⟨fun q hq h5 => ?_, fun i hi hx => ?_, ?_, ?_, ?_⟩, tw_fr p2 p3 (by omega) e4 e5 (by decide) (fun e => by rw [e, u69] at p2; exact absurd p2 (by decide)) (fun e => by rw [e, u69] at p3; exact absurd p3 (by decide))⟩
  · obtain ⟨q1, q2, q3, q4, q5, q6⟩ := i1 q hq h5
    have nq := ne q (by rw [h5]; decide) (by rw [h5]; decide)
    refine ⟨q1, q2, q3, (rr q 0 nq.1 nq.2).trans q4, (rr q 1 nq.1 nq.2).trans q5, fun i hi x hx hx2 => ?_⟩
    by_cases e : q = a
    · subst e
      rw [tw_rd c1 hi] at hx
      cases hx
      exact ⟨_, tw_rd c2 hi, (hf i hi hx2).1, (hf i hi hx2).2⟩
    · have n1 : q + 1 ≠ a + 1 := by omega
      have n2 : q + 1 ≠ a + 2 := fun e => by
        rw [e, p3] at q2
        exact absurd q2 (by decide)
      have n3 : q + 2 ≠ a + 1 := fun e => by
        rw [e, p2] at q3
        exact absurd q3 (by decide)
      rw [rd _ i n1 n2] at hx
      rw [rd _ i n3 (by omega)]
      exact q6 i hi x hx hx2
  · have n1 := ne 37 (by rw [u37]; decide) (by rw [u37]; decide)
    have n2 := ne 38 (by rw [u38]; decide) (by rw [u38]; decide)
    rw [rd 37 i n1.1 n1.2] at hx
    rw [rd 38 i n2.1 n2.2]
    exact i2 i hi hx
  · have n1 := ne 71 (by rw [u71]; decide) (by rw [u71]; decide)
    have e : sf_cd (ab_up (ab_up hp (a + 1) (.inl (1, 40, .inl f1))) (a + 2) (.inl (1, 40, .inl f2))) 71 253 = sf_cd hp 71 253 := funext fun j => by
      unfold sf_cd
      rw [rd 71 _ n1.1 n1.2]
    rw [e]
    exact i3
  · have n1 := ne 84 (by rw [u84]; decide) (by rw [u84]; decide)
    have e : sf_cd (ab_up (ab_up hp (a + 1) (.inl (1, 40, .inl f1))) (a + 2) (.inl (1, 40, .inl f2))) 84 253 = sf_cd hp 84 253 := funext fun j => by
      unfold sf_cd
      rw [rd 84 _ n1.1 n1.2]
    rw [e]
    exact i4
  · have n1 := ne 84 (by rw [u84]; decide) (by rw [u84]; decide)
    have e : sf_cd (ab_up (ab_up hp (a + 1) (.inl (1, 40, .inl f1))) (a + 2) (.inl (1, 40, .inl f2))) 84 687 = sf_cd hp 84 687 := funext fun j => by
      unfold sf_cd
      rw [rd 84 _ n1.1 n1.2]
    rw [e]
    exact i5
theorem tw_cpy {f g : Nat → Int32} {i n : Nat} (h : i < n) : va_cpy f g 0 0 n i = f i := by
  unfold va_cpy
  rw [if_pos ⟨Nat.zero_le _, by rw [Nat.zero_add]; exact h⟩, Nat.zero_add, Nat.sub_zero]
/-- the first two copies of Sentence.copyFrom -/
theorem x5_cp {t : Nat → Nat} {hp : ab_H} {a b : Nat} {Q : ab_O → Prop} (H : sf_h t hp) (ra : bs_R t hp a 5) (rb : bs_R t hp b 5) (h : ∀ hp', sf_h t hp' → sf_fr [(106, 0, 39), (107, 0, 39)] t hp t hp' → Ev (ab_T L_X5_copyFrom) 30 ([some (.ref a), some (.ref b)], [], (0, 0), hp') Q) : Ev (ab_T L_X5_copyFrom) 0 ([some (.ref a), some (.ref b)], [], (0, 0), hp) Q := by
  obtain ⟨a1, a2, a3, fa, A, B, e1, e2, e3, e4, e5, -⟩ := x5_cell H ra
  obtain ⟨b1, b2, b3, fb, C, D, g1, g2, g3, g4, g5, g6⟩ := x5_cell H rb
  have na : a ≠ a + 1 := by omega
  have nb : b ≠ a + 1 := fun e => by
    have := rb.2
    rw [e, a2] at this
    exact absurd this (by decide)
  have nd : b + 2 ≠ a + 1 := fun e => by
    rw [e, a2] at b3
    exact absurd b3 (by decide)
  refine Ev.step (j := 1) (s' := ([some (.ref a), some (.ref b)], [.ref b], (0, 0), hp)) rfl rfl ?_
  refine Ev.getf rfl rb.1 g1 g2 ?_
  refine Ev.step (j := 5) (s' := ([some (.ref a), some (.ref b)], [.int 0, .ref (b + 1)], (0, 0), hp)) rfl rfl ?_
  refine Ev.step (j := 6) (s' := ([some (.ref a), some (.ref b)], [.ref a, .int 0, .ref (b + 1)], (0, 0), hp)) rfl rfl ?_
  refine Ev.getf rfl ra.1 e1 e2 ?_
  refine Ev.step (j := 10) (s' := ([some (.ref a), some (.ref b)], [.int 0, .ref (a + 1), .int 0, .ref (b + 1)], (0, 0), hp)) rfl rfl ?_
  refine Ev.step (j := 12) (s' := ([some (.ref a), some (.ref b)], [.int 40, .int 0, .ref (a + 1), .int 0, .ref (b + 1)], (0, 0), hp)) rfl rfl ?_
  refine Ev.nx (j := 15) rfl (cp_i (len := 40) (show a + 1 < hp.1 by omega) (show b + 1 < hp.1 by omega) (by decide) (by decide) (by decide) (by decide) rfl g4 e4 rfl rfl rfl) ?_
  refine Ev.step (j := 16) (s' := ([some (.ref a), some (.ref b)], [.ref b], (0, 0), _)) rfl rfl ?_
  refine Ev.getf (fs := fb) rfl rb.1 ((ab_up_ne nb).trans g1) g3 ?_
  refine Ev.step (j := 20) (s' := ([some (.ref a), some (.ref b)], [.int 0, .ref (b + 2)], (0, 0), _)) rfl rfl ?_
  refine Ev.step (j := 21) (s' := ([some (.ref a), some (.ref b)], [.ref a, .int 0, .ref (b + 2)], (0, 0), _)) rfl rfl ?_
  refine Ev.getf (fs := fa) rfl ra.1 ((ab_up_ne na).trans e1) e3 ?_
  refine Ev.step (j := 25) (s' := ([some (.ref a), some (.ref b)], [.int 0, .ref (a + 2), .int 0, .ref (b + 2)], (0, 0), _)) rfl rfl ?_
  refine Ev.step (j := 27) (s' := ([some (.ref a), some (.ref b)], [.int 40, .int 0, .ref (a + 2), .int 0, .ref (b + 2)], (0, 0), _)) rfl rfl ?_
  refine Ev.nx (j := 30) rfl (cp_i (len := 40) (f := D) (f' := B) (show a + 2 < hp.1 from a1) (show b + 2 < hp.1 from b1) (by decide) (by decide) (by decide) (by decide) rfl ((ab_up_ne nd).trans g5) ((ab_up_ne (by omega)).trans e5) rfl rfl rfl) ?_
  have k := x5_two H ra (f1 := va_cpy C A 0 0 40) (f2 := va_cpy D B 0 0 40) (fun i hi hx => by
    rw [tw_cpy hi] at hx
    rw [tw_cpy hi]
    exact g6 i hi hx)
  exact h _ k.1 k.2
section BS
variable {T : Nat → Option ab_A} {i j : Nat} {lo : List (Option Value)} {st : List Value} {u : Nat × Nat} {hp : ab_H} {Q : ab_O → Prop} {t : Nat → Nat} {x y : Int32}
/-- a whole array of ints copied -/
theorem bs_copyI {W : List (Nat × Nat × Nat)} {a b g : Nat} {c dp sp : Int32} (hT : T i = some (ab_nx j ab_copy)) (H : sf_h t hp) (ra : bs_R t hp a g) (rb : bs_R t hp b g) (hg : 100 ≤ g) (hk : (sf_A g).1 = 1) (hW : sf_cv W g 0 ((sf_A g).2.1 - 1) = true) (hspc : sf_sp g ((sf_A g).2.1 - 1) = false) (hcat : ab_cats st ≤ 8) (hu : u.1 = 0) (hc : c.toInt = ((sf_A g).2.1 : Int)) (hd : dp.toInt = 0) (hs : sp.toInt = 0) (h : ∀ hp', sf_h t hp' → sf_fr W t hp t hp' → Ev T j (lo, st, u, hp') Q) : Ev T i (lo, .int c :: .int dp :: .ref a :: .int sp :: .ref b :: st, u, hp) Q := by
  obtain ⟨f, e1, e2⟩ := sf_arr H rb.1 rb.2 hg (by rw [hk]; decide) (by rw [hk]; decide)
  obtain ⟨f', e3, -⟩ := sf_arr H ra.1 ra.2 hg (by rw [hk]; decide) (by rw [hk]; decide)
  rw [hk] at e1 e3
  obtain ⟨cv1, cv2⟩ := sf_cv_ok hW
  have hr := cp_rd (f := f) (t := t) ra.2 e3
  have H' := cp_put H ra.1 ra.2 hg hk (f' := f') e2 (sf_I_up H (by rw [ra.2]; exact hspc) (fun q hq => hr a q ra.1 (fun _ => hq)) (fun h5 => absurd (ra.2.symm.trans h5) (by omega)))
  have hcc : c.toNatClampNeg = (sf_A g).2.1 := by
    have := n_idx (x := c) (by omega)
    omega
  refine Ev.nx hT (cp_i ra.1 rb.1 hcat (n_nn (by omega)) (n_nn (by omega)) (n_nn (by omega)) hu e1 e3 (n_z hs) (n_z hd) hcc) (h _ H' (sf_fr_up (by rw [ra.2]; exact cv1) cv2 (fun q hq => hr a q ra.1 (fun _ => hq)) (Or.inr (Or.inl (sf_n69 H ra.2 hg)))))
end BS
/-- the first two stores of Sentence.addOp -/
theorem x5_add {t : Nat → Nat} {hp : ab_H} {a : Nat} {x1 x2 x3 z : Int32} {Q : ab_O → Prop} (H : sf_h t hp) (ra : bs_R t hp a 5) (hz : sf_rd hp a 3 = some z.toInt) (z0 : 0 ≤ z.toInt) (z1 : z.toInt < 40) (hx : x1.toInt ≤ 84 → 0 ≤ x2.toInt ∧ x2.toInt ≤ 1) (h : ∀ hp', sf_h t hp' → sf_fr [(106, 0, 39), (107, 0, 39)] t hp t hp' → Ev (ab_T L_X5_addOp) 31 ([some (.ref a), some (.int x1), some (.int x2), some (.int x3)], [], (0, 0), hp') Q) : Ev (ab_T L_X5_addOp) 11 ([some (.ref a), some (.int x1), some (.int x2), some (.int x3)], [], (0, 0), hp) Q := by
  obtain ⟨a1, a2, a3, fa, A, B, e1, e2, e3, e4, e5, e6⟩ := x5_cell H ra
  have na : a ≠ a + 1 := by omega
  have hv : fa[3]? = some (.int z) := by
    unfold sf_rd at hz
    rw [e1] at hz
    have hz' : sf_iv fa[3]? = some z.toInt := hz
    cases hq : fa[3]? with
    | none =>
      rw [hq] at hz'
      cases hz'
    | some v =>
      rw [hq] at hz'
      cases v with
      | int w =>
        have q : some w.toInt = some z.toInt := hz'
        rw [Int32.toInt_inj.mp (Option.some.inj q)]
      | _ => cases hz'
  have hin : ab_in z 40 = true := n_in z0 (by omega)
  have en : z.toNatClampNeg = z.toInt.toNat := by
    have := n_idx z0
    omega
  refine Ev.step (j := 12) (s' := ([some (.ref a), some (.int x1), some (.int x2), some (.int x3)], [.ref a], (0, 0), hp)) rfl rfl ?_
  refine Ev.getf rfl ra.1 e1 e2 ?_
  refine Ev.step (j := 16) (s' := ([some (.ref a), some (.int x1), some (.int x2), some (.int x3)], [.ref a, .ref (a + 1)], (0, 0), hp)) rfl rfl ?_
  refine Ev.getf rfl ra.1 e1 hv ?_
  refine Ev.step (j := 20) (s' := ([some (.ref a), some (.int x1), some (.int x2), some (.int x3)], [.int x1, .int z, .ref (a + 1)], (0, 0), hp)) rfl rfl ?_
  refine Ev.ast rfl (show a + 1 < hp.1 by omega) e4 hin ?_
  refine Ev.step (j := 22) (s' := ([some (.ref a), some (.int x1), some (.int x2), some (.int x3)], [.ref a], (0, 0), _)) rfl rfl ?_
  refine Ev.getf (fs := fa) rfl ra.1 ((ab_up_ne na).trans e1) e3 ?_
  refine Ev.step (j := 26) (s' := ([some (.ref a), some (.int x1), some (.int x2), some (.int x3)], [.ref a, .ref (a + 2)], (0, 0), _)) rfl rfl ?_
  refine Ev.getf (fs := fa) rfl ra.1 ((ab_up_ne na).trans e1) hv ?_
  refine Ev.step (j := 30) (s' := ([some (.ref a), some (.int x1), some (.int x2), some (.int x3)], [.int x2, .int z, .ref (a + 2)], (0, 0), _)) rfl rfl ?_
  refine Ev.ast (f := B) rfl a1 ((ab_up_ne (by omega)).trans e5) hin ?_
  have k := x5_two H ra (f1 := upd A z.toNatClampNeg x1) (f2 := upd B z.toNatClampNeg x2) (fun q hq hx2 => by
    by_cases e : q = z.toNatClampNeg
    · have k1 : upd A z.toNatClampNeg x1 q = x1 := if_pos e
      have k2 : upd B z.toNatClampNeg x2 q = x2 := if_pos e
      rw [k1] at hx2
      rw [k2]
      exact hx hx2
    · have k1 : upd A z.toNatClampNeg x1 q = A q := if_neg e
      have k2 : upd B z.toNatClampNeg x2 q = B q := if_neg e
      rw [k1] at hx2
      rw [k2]
      exact e6 q hq hx2)
  exact h _ k.1 k.2
theorem x4_cell {t : Nat → Nat} {hp : ab_H} (H : sf_h t hp) : 88 ≤ hp.1 ∧ t 37 = 103 ∧ t 38 = 104 ∧ ∃ fs A B, hp.2 36 = .inr (4, fs) ∧ fs[0]? = some (.ref 37) ∧ fs[1]? = some (.ref 38) ∧ hp.2 37 = .inl (1, 40, .inl A) ∧ hp.2 38 = .inl (1, 40, .inl B) ∧ (∀ i, i < 40 → (A i).toInt = 3 → (B i).toInt ≤ 7) ∧ (∀ i, i < 40 → 0 ≤ (A i).toInt ∧ (A i).toInt ≤ 4) ∧ (∀ i, i < 40 → 0 ≤ (B i).toInt ∧ (B i).toInt ≤ 11) := by
  have h88 : 88 ≤ hp.1 := (H.2.2.1 148 87 rfl).1
  obtain ⟨l36, u36⟩ := H.2.2.1 4 36 rfl
  obtain ⟨l37, u37⟩ := H.2.2.1 103 37 rfl
  obtain ⟨l38, u38⟩ := H.2.2.1 104 38 rfl
  obtain ⟨fs, v, e1, e2, e3⟩ := sf_get H l36 u36 (by decide) (i := 0) (k := (1, 103, 0)) rfl
  obtain ⟨fs', v', e1', e2', e3'⟩ := sf_get H l36 u36 (by decide) (i := 1) (k := (1, 104, 0)) rfl
  have ef : fs' = fs := by
    rw [e1] at e1'
    cases e1'
    rfl
  subst ef
  obtain ⟨A, eA, kA⟩ := sf_arr H l37 u37 (by decide) (by decide) (by decide)
  obtain ⟨B, eB, kB⟩ := sf_arr H l38 u38 (by decide) (by decide) (by decide)
  have eA' : hp.2 37 = .inl (1, 40, .inl A) := eA
  have eB' : hp.2 38 = .inl (1, 40, .inl B) := eB
  refine ⟨h88, u37, u38, fs', A, B, e1, ?_, ?_, eA', eB', fun i hi hx => ?_, fun i hi => ?_, fun i hi => ?_⟩
  · cases v with
    | ref z => rw [e2, H.2.1 z 37 e3.2.1 (by rw [Int.ofNat.inj e3.2.2]; rfl)]
    | int z => exact absurd (show (1 : Nat) = 0 from e3.1) (by decide)
    | long z => exact absurd (show (1 : Nat) = 2 from e3) (by decide)
    | null => exact absurd (show (0 : Int) = 1 from e3.2) (by decide)
    | _ => exact e3.elim
  · cases v' with
    | ref z => rw [e2', H.2.1 z 38 e3'.2.1 (by rw [Int.ofNat.inj e3'.2.2]; rfl)]
    | int z => exact absurd (show (1 : Nat) = 0 from e3'.1) (by decide)
    | long z => exact absurd (show (1 : Nat) = 2 from e3') (by decide)
    | null => exact absurd (show (0 : Int) = 1 from e3'.2) (by decide)
    | _ => exact e3'.elim
  · obtain ⟨y, h1, h2⟩ := H.2.2.2.2.1 i hi (by rw [tw_rd eA' hi, hx])
    rw [tw_rd eB' hi] at h1
    cases h1
    exact h2
  · have k : sf_v t hp.1 (cond (decide (i < 40)) (0, 0, 4) (9, 0, 0)) (.int (A i)) := kA i hi
    rw [decide_eq_true hi] at k
    exact ⟨k.2.1, k.2.2⟩
  · have k : sf_v t hp.1 (cond (decide (i < 40)) (0, 0, 11) (9, 0, 0)) (.int (B i)) := kB i hi
    rw [decide_eq_true hi] at k
    exact ⟨k.2.1, k.2.2⟩
theorem x4_two {t : Nat → Nat} {hp : ab_H} (H : sf_h t hp) {f1 f2 : Nat → Int32} (hf : ∀ i, i < 40 → (f1 i).toInt = 3 → (f2 i).toInt ≤ 7) (k1 : ∀ i, i < 40 → 0 ≤ (f1 i).toInt ∧ (f1 i).toInt ≤ 4) (k2 : ∀ i, i < 40 → 0 ≤ (f2 i).toInt ∧ (f2 i).toInt ≤ 11) : sf_h t (ab_up (ab_up hp 37 (.inl (1, 40, .inl f1))) 38 (.inl (1, 40, .inl f2))) ∧ sf_fr [(103, 0, 39), (104, 0, 39)] t hp t (ab_up (ab_up hp 37 (.inl (1, 40, .inl f1))) 38 (.inl (1, 40, .inl f2))) := by
  obtain ⟨h88, u37, u38, fs, A, B, e1, e2, e3, e4, e5, -⟩ := x4_cell H
  obtain ⟨i1, i2, i3, i4, i5⟩ := H.2.2.2
  have rd : ∀ q i, q ≠ 37 → q ≠ 38 → sf_rd (ab_up (ab_up hp 37 (.inl (1, 40, .inl f1))) 38 (.inl (1, 40, .inl f2))) q i = sf_rd hp q i := fun q i h1 h2 => (sf_rd_up_ne h2).trans (sf_rd_up_ne h1)
  have rr : ∀ q i, q ≠ 37 → q ≠ 38 → sf_rr (ab_up (ab_up hp 37 (.inl (1, 40, .inl f1))) 38 (.inl (1, 40, .inl f2))) q i = sf_rr hp q i := fun q i h1 h2 => (sf_rr_up_ne h2).trans (sf_rr_up_ne h1)
  have c1 : (ab_up (ab_up hp 37 (.inl (1, 40, .inl f1))) 38 (.inl (1, 40, .inl f2))).2 37 = .inl (1, 40, .inl f1) := (ab_up_ne (by decide)).trans (ab_up_eq _ _ _)
  have c2 : (ab_up (ab_up hp 37 (.inl (1, 40, .inl f1))) 38 (.inl (1, 40, .inl f2))).2 38 = .inl (1, 40, .inl f2) := ab_up_eq _ _ _
  refine ⟨tw_h H (by rw [u37]; exact tw_any (by decide) rfl rfl rfl k1) (by rw [u38]; exact tw_any (by decide) rfl rfl rfl k2) ⟨fun q hq h5 => ?_, fun i hi hx => ?_, ?_, ?_, ?_⟩, tw_fr u37 u38 (by decide) e4 e5 (by decide) (by decide) (by decide)⟩
  · obtain ⟨q1, q2, q3, q4, q5, q6⟩ := i1 q hq h5
    have nq : ∀ w g, t w = g → g ≠ 103 → g ≠ 104 → w ≠ 37 ∧ w ≠ 38 := fun w g hw g1 g2 => ⟨fun e => g1 (by rw [← hw, e, u37]), fun e => g2 (by rw [← hw, e, u38])⟩
    have n0 := nq q 5 h5 (by decide) (by decide)
    have n1 := nq (q + 1) 106 q2 (by decide) (by decide)
    have n2 := nq (q + 2) 107 q3 (by decide) (by decide)
    refine ⟨q1, q2, q3, (rr q 0 n0.1 n0.2).trans q4, (rr q 1 n0.1 n0.2).trans q5, fun i hi x hx hx2 => ?_⟩
    rw [rd _ i n1.1 n1.2] at hx
    rw [rd _ i n2.1 n2.2]
    exact q6 i hi x hx hx2
  · rw [tw_rd c1 hi] at hx
    exact ⟨_, tw_rd c2 hi, hf i hi (Option.some.inj hx)⟩
  · have e : sf_cd (ab_up (ab_up hp 37 (.inl (1, 40, .inl f1))) 38 (.inl (1, 40, .inl f2))) 71 253 = sf_cd hp 71 253 := funext fun j => by
      unfold sf_cd
      rw [rd 71 _ (by decide) (by decide)]
    rw [e]
    exact i3
  · have e : sf_cd (ab_up (ab_up hp 37 (.inl (1, 40, .inl f1))) 38 (.inl (1, 40, .inl f2))) 84 253 = sf_cd hp 84 253 := funext fun j => by
      unfold sf_cd
      rw [rd 84 _ (by decide) (by decide)]
    rw [e]
    exact i4
  · have e : sf_cd (ab_up (ab_up hp 37 (.inl (1, 40, .inl f1))) 38 (.inl (1, 40, .inl f2))) 84 687 = sf_cd hp 84 687 := funext fun j => by
      unfold sf_cd
      rw [rd 84 _ (by decide) (by decide)]
    rw [e]
    exact i5
/-- the first two stores of LogText.addLine -/
theorem x4_add {t : Nat → Nat} {hp : ab_H} {x1 x2 x3 : Int32} {zi : Int} {Q : ab_O → Prop} (H : sf_h t hp) (hz : sf_rd hp 36 3 = some zi) (z0 : 0 ≤ zi) (z1 : zi < 40) (hx : x1.toInt = 3 → x2.toInt ≤ 7) (y1 : 0 ≤ x1.toInt ∧ x1.toInt ≤ 4) (y2 : 0 ≤ x2.toInt ∧ x2.toInt ≤ 11) (h : ∀ hp', sf_h t hp' → sf_fr [(103, 0, 39), (104, 0, 39)] t hp t hp' → Ev (ab_T L_X4_addLine) 20 ([some (.ref 36), some (.int x1), some (.int x2), some (.int x3)], [], (0, 0), hp') Q) : Ev (ab_T L_X4_addLine) 0 ([some (.ref 36), some (.int x1), some (.int x2), some (.int x3)], [], (0, 0), hp) Q := by
  obtain ⟨h88, u37, u38, fs, A, B, e1, e2, e3, e4, e5, e6, e7, e8⟩ := x4_cell H
  have hv : ∃ z : Int32, fs[3]? = some (.int z) ∧ z.toInt = zi := by
    unfold sf_rd at hz
    rw [e1] at hz
    have hz' : sf_iv fs[3]? = some zi := hz
    cases hq : fs[3]? with
    | none =>
      rw [hq] at hz'
      cases hz'
    | some v =>
      rw [hq] at hz'
      cases v with
      | int w =>
        have q : some w.toInt = some zi := hz'
        exact ⟨w, rfl, Option.some.inj q⟩
      | _ => cases hz'
  obtain ⟨z, hv, rfl⟩ := hv
  have hin : ab_in z 40 = true := n_in z0 (by omega)
  refine Ev.step (j := 1) (s' := ([some (.ref 36), some (.int x1), some (.int x2), some (.int x3)], [.ref 36], (0, 0), hp)) rfl rfl ?_
  refine Ev.getf rfl (show 36 < hp.1 by omega) e1 e2 ?_
  refine Ev.step (j := 5) (s' := ([some (.ref 36), some (.int x1), some (.int x2), some (.int x3)], [.ref 36, .ref 37], (0, 0), hp)) rfl rfl ?_
  refine Ev.getf rfl (show 36 < hp.1 by omega) e1 hv ?_
  refine Ev.step (j := 9) (s' := ([some (.ref 36), some (.int x1), some (.int x2), some (.int x3)], [.int x1, .int z, .ref 37], (0, 0), hp)) rfl rfl ?_
  refine Ev.ast rfl (show 37 < hp.1 by omega) e4 hin ?_
  refine Ev.step (j := 11) (s' := ([some (.ref 36), some (.int x1), some (.int x2), some (.int x3)], [.ref 36], (0, 0), _)) rfl rfl ?_
  refine Ev.getf (fs := fs) rfl (show 36 < hp.1 by omega) ((ab_up_ne (by decide)).trans e1) e3 ?_
  refine Ev.step (j := 15) (s' := ([some (.ref 36), some (.int x1), some (.int x2), some (.int x3)], [.ref 36, .ref 38], (0, 0), _)) rfl rfl ?_
  refine Ev.getf (fs := fs) rfl (show 36 < hp.1 by omega) ((ab_up_ne (by decide)).trans e1) hv ?_
  refine Ev.step (j := 19) (s' := ([some (.ref 36), some (.int x1), some (.int x2), some (.int x3)], [.int x2, .int z, .ref 38], (0, 0), _)) rfl rfl ?_
  refine Ev.ast (f := B) rfl (show 38 < hp.1 by omega) ((ab_up_ne (by decide)).trans e5) hin ?_
  have up : ∀ {f : Nat → Int32} {y : Int32} {q : Nat}, (q = z.toNatClampNeg ∧ upd f z.toNatClampNeg y q = y) ∨ (q ≠ z.toNatClampNeg ∧ upd f z.toNatClampNeg y q = f q) := fun {f y q} => by
    by_cases e : q = z.toNatClampNeg
    · exact Or.inl ⟨e, if_pos e⟩
    · exact Or.inr ⟨e, if_neg e⟩
  have k := x4_two H (f1 := upd A z.toNatClampNeg x1) (f2 := upd B z.toNatClampNeg x2) (fun q hq hx2 => by
    rcases up (f := A) (y := x1) (q := q) with ⟨k0, k1⟩ | ⟨k0, k1⟩
    · rcases up (f := B) (y := x2) (q := q) with ⟨k2, k3⟩ | ⟨k2, k3⟩
      · rw [k1] at hx2
        rw [k3]
        exact hx hx2
      · exact absurd k0 k2
    · rcases up (f := B) (y := x2) (q := q) with ⟨k2, k3⟩ | ⟨k2, k3⟩
      · exact absurd k2 k0
      · rw [k1] at hx2
        rw [k3]
        exact e6 q hq hx2) (fun q hq => by
    rcases up (f := A) (y := x1) (q := q) with ⟨k0, k1⟩ | ⟨k0, k1⟩
    · rw [k1]
      exact y1
    · rw [k1]
      exact e7 q hq) (fun q hq => by
    rcases up (f := B) (y := x2) (q := q) with ⟨k0, k1⟩ | ⟨k0, k1⟩
    · rw [k1]
      exact y2
    · rw [k1]
      exact e8 q hq)
  exact h _ k.1 k.2
