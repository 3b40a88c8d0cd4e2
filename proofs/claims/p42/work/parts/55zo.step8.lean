/-! ===== steps over what is known: more of arrays ===== -/
theorem sf_rd_up_arr {hp : ab_H} {a kd len i : Nat} {f : Nat → Int32} : sf_rd (ab_up hp a (.inl (kd, len, .inl f))) a i = cond (decide (i < len)) (some (f i).toInt) none := by
  unfold sf_rd
  rw [ab_up_eq]
theorem sf_rd_up_larr {hp : ab_H} {a kd len i : Nat} {f : Nat → Int64} : sf_rd (ab_up hp a (.inl (kd, len, .inr (.inl f)))) a i = none := by
  unfold sf_rd
  rw [ab_up_eq]
theorem sf_sp2 {g i1 : Nat} (h : (sf_A g).1 = 2) : sf_sp g i1 = false := by
  unfold sf_sp
  rw [decide_eq_false (fun e : g = 103 => by subst e; revert h; decide), decide_eq_false (fun e : g = 104 => by subst e; revert h; decide), decide_eq_false (fun e : g = 106 => by subst e; revert h; decide), decide_eq_false (fun e : g = 107 => by subst e; revert h; decide), decide_eq_false (fun e : g = 145 => by subst e; revert h; decide), decide_eq_false (fun e : g = 132 => by subst e; revert h; decide)]
  rfl
theorem sf_sp4 {g i1 : Nat} (h : 4 ≤ (sf_A g).1) : sf_sp g i1 = false := by
  unfold sf_sp
  rw [decide_eq_false (fun e : g = 103 => by subst e; revert h; decide), decide_eq_false (fun e : g = 104 => by subst e; revert h; decide), decide_eq_false (fun e : g = 106 => by subst e; revert h; decide), decide_eq_false (fun e : g = 107 => by subst e; revert h; decide), decide_eq_false (fun e : g = 145 => by subst e; revert h; decide), decide_eq_false (fun e : g = 132 => by subst e; revert h; decide)]
  rfl
def so_ast (W : List (Nat × Nat × Nat)) (kd : Nat) (d : sf_D) : Option sf_D := match d.2.1 with
  | (0, _, _) :: (0, _, _) :: (1, g, n) :: jt => cond (sf_ok0 g kd n && sf_ix g (sf_i d.2.2.1 (3 * (jt.length + 1))) &&
        sf_al (sf_A g).2.2 (sf_i d.2.2.1 (3 * (jt.length + 1))).1.toNat (sf_i d.2.2.1 (3 * (jt.length + 1))).2.toNat (cond (decide (kd = 1)) (sf_i d.2.2.1 (3 * (jt.length + 2))) (-2147483648, 2147483647)) &&
        sf_cv W g (sf_i d.2.2.1 (3 * (jt.length + 1))).1.toNat (sf_i d.2.2.1 (3 * (jt.length + 1))).2.toNat && !sf_sp g (sf_i d.2.2.1 (3 * (jt.length + 1))).2.toNat)
      (some (d.1, jt, sf_wf (decide (kd = 1)) (3 * (jt.length + 2)) g (sf_i d.2.2.1 (3 * (jt.length + 1))).1.toNat (sf_i d.2.2.1 (3 * (jt.length + 1))).2.toNat jt.length d.2.2.1, d.2.2.2)) none
  | _ => none
theorem sf_dr3 {t : Nat → Nat} {d1 jt : List sf_J} {j k m : sf_J} {F : List sf_F} {U V : Nat} {lo : List (Option Value)} {v w z : Value} {st : List Value} {u : Nat × Nat} {hp : ab_H} (G : sf_g t (d1, j :: k :: m :: jt, F, U, V) (lo, v :: w :: z :: st, u, hp)) (hl : st.length = jt.length) : sf_g t (d1, jt, sf_k (sf_bS jt.length) F ++ [], U, V) (lo, st, u, hp) := by
  have := sf_stk (d := (d1, [], [], 0, 0)) (xs := [v, w, z]) (ys := []) (js := [j, k, m]) (js' := []) (A := []) G rfl rfl sf_none sf_S_nil
  rw [hl] at this
  exact this
theorem sf_val_p2 {lo : List (Option Value)} {v w z : Value} {st : List Value} {r : (Nat × Nat) × ab_H} {n : Nat} (h : st.length = n) : sf_val (lo, v :: w :: z :: st, r) (3 * (n + 2)) = sf_iv (some v) := by
  subst h
  exact sf_val_top (st := w :: z :: st)
theorem sf_val_p1 {lo : List (Option Value)} {v w z : Value} {st : List Value} {r : (Nat × Nat) × ab_H} {n : Nat} (h : st.length = n) : sf_val (lo, v :: w :: z :: st, r) (3 * (n + 1)) = sf_iv (some w) := by
  subst h
  exact sf_val_snd (st := z :: st)
theorem so_ast_ok {W : List (Nat × Nat × Nat)} {kd : Nat} {d d' : sf_D} (h : so_ast W kd d = some d') : sf_nx W (ab_ast kd) d d' := by
  obtain ⟨d1, d2, F, U, V⟩ := d
  unfold so_ast at h
  dsimp only at h
  split at h
  · rename_i a0 b0 a1 b1 g n jt
    obtain ⟨hc, h⟩ := ab_cond h
    subst h
    unfold sf_ok0 sf_ix at hc
    simp only [Bool.and_eq_true, Bool.not_eq_true', decide_eq_true_eq] at hc
    obtain ⟨⟨⟨⟨⟨⟨⟨⟨hn, hg⟩, rfl⟩, hk4⟩, hk2⟩, hx0, hx1⟩, hal⟩, hcv⟩, hsp⟩ := hc
    intro t s G
    obtain ⟨lo, stk, u, hp⟩ := s
    obtain ⟨v, w, z, st, rfl, hl, h1, h2, h3⟩ := sf_pop3 G
    obtain ⟨y, hy⟩ := h1.1 rfl
    obtain ⟨x, hx⟩ := h2.1 rfl
    cases hy
    cases hx
    have hF : sf_S (sf_val (lo, .int y :: .int x :: z :: st, u, hp)) F := G.2.2.2.1
    have vx : sf_val (lo, .int y :: .int x :: z :: st, u, hp) (3 * (jt.length + 1)) = some x.toInt := sf_val_p1 hl
    have vy : sf_val (lo, .int y :: .int x :: z :: st, u, hp) (3 * (jt.length + 2)) = some y.toInt := sf_val_p2 hl
    have rx := sf_i_ok (sf_val_range _) hF vx
    have ry := sf_i_ok (sf_val_range _) hF vy
    rcases h3.2.1 rfl with ⟨a, hq, ha, hta⟩ | ⟨hq, -⟩
    · cases hq
      have H : sf_h t hp := G.1
      have ha' : a < hp.1 := ha
      have hta' : t a = g := hta
      obtain ⟨f, e1, e2⟩ := sf_arr H ha' hta' hg hk4 hk2
      have x0 : 0 ≤ x.toInt := Int.le_trans hx0 rx.1
      have x1 : x.toInt < ((sf_A g).2.1 : Int) := Int.lt_of_le_of_lt rx.2 hx1
      have hin := n_in x0 x1
      have hidx := n_idx x0
      have hj : x.toNatClampNeg < (sf_A g).2.1 := by omega
      have hnar : (cond (decide ((sf_A g).1 = 1)) (sf_i F (3 * (jt.length + 2))) (-2147483648, 2147483647) : Int × Int).1 ≤ (ab_nar (sf_A g).1 y).toInt ∧ (ab_nar (sf_A g).1 y).toInt ≤ (cond (decide ((sf_A g).1 = 1)) (sf_i F (3 * (jt.length + 2))) (-2147483648, 2147483647) : Int × Int).2 := by
        by_cases c : (sf_A g).1 = 1
        · rw [decide_eq_true c, c]
          exact ry
        · rw [decide_eq_false c]
          exact n_range _
      have hjj := sf_al_ok (t := t) (n := hp.1) hnar (j := x.toNatClampNeg) (by have := rx.1; omega) (by have := rx.2; omega) hal
      have hr : ∀ b q, b < hp.1 → (t b = g → ¬ ((sf_i F (3 * (jt.length + 1))).1.toNat ≤ q ∧ q ≤ (sf_i F (3 * (jt.length + 1))).2.toNat)) → sf_rd (ab_up hp a (.inl ((sf_A g).1, (sf_A g).2.1, .inl (upd f x.toNatClampNeg (ab_nar (sf_A g).1 y))))) b q = sf_rd hp b q := by
        intro b q _ hq
        by_cases e : b = a
        · subst e
          have hne : q ≠ x.toNatClampNeg := by
            have := hq hta'
            have := rx.1
            have := rx.2
            omega
          rw [sf_rd_up_arr]
          unfold sf_rd
          rw [e1]
          show cond (decide (q < (sf_A g).2.1)) (some (if q = x.toNatClampNeg then _ else f q).toInt) none = cond (decide (q < (sf_A g).2.1)) (some (f q).toInt) none
          rw [if_neg hne]
        · exact sf_rd_up_ne e
      have H' := sf_arr_put H ha' hta' hg hk4 hk2 (f := upd f x.toNatClampNeg (ab_nar (sf_A g).1 y)) (fun j hj' => by
        show sf_v t hp.1 _ (.int (if j = x.toNatClampNeg then _ else f j))
        by_cases e : j = x.toNatClampNeg
        · rw [if_pos e, e]
          exact hjj
        · rw [if_neg e]
          exact e2 j hj') (sf_I_up H (by rw [hta']; exact hsp) (fun q hq => hr a q ha' (fun _ => hq)) (fun h5 => absurd (hta'.symm.trans h5) (by omega)))
      obtain ⟨cv1, cv2⟩ := sf_cv_ok hcv
      refine ⟨(lo, st, u, ab_up hp a (.inl ((sf_A g).1, (sf_A g).2.1, .inl (upd f x.toNatClampNeg (ab_nar (sf_A g).1 y))))), t, ?_, ⟨H', G.2.1, (sf_dr3 G hl).2.2.1, ?_, G.2.2.2.2⟩, sf_fr_up (by rw [hta']; exact cv1) cv2 (fun q hq => hr a q ha' (fun _ => hq)) (Or.inr (Or.inl (sf_n69 H hta' hg)))⟩
      · simp [ab_ast, ha', e1, hin]
      · refine sf_wf_ok (xs := [.int y, .int x, .ref a]) H H' rfl ha' hta' hl hr hF fun hb => ?_
        rw [decide_eq_true_eq] at hb
        refine ⟨y, vy, fun he => ?_⟩
        have ei : (sf_i F (3 * (jt.length + 1))).1.toNat = x.toNatClampNeg := by
          have r1 := rx.1
          have r2 := rx.2
          omega
        rw [ei, sf_rd_up_arr, decide_eq_true hj]
        show some (if x.toNatClampNeg = x.toNatClampNeg then ab_nar (sf_A g).1 y else _).toInt = _
        rw [if_pos rfl, hb]
        rfl
    · exact absurd hq hn
  · cases h
def so_lald (d : sf_D) : Option sf_D := match d.2.1 with
  | (0, _, _) :: (1, g, n) :: jt => cond (decide (n ≠ 1) && decide (100 ≤ g) && decide ((sf_A g).1 = 2) && sf_ix g (sf_i d.2.2.1 (3 * (jt.length + 1))))
      (some (d.1, (2, 0, 0) :: jt, sf_k (sf_bS jt.length) d.2.2.1 ++ [], d.2.2.2)) none
  | _ => none
theorem so_lald_ok {W : List (Nat × Nat × Nat)} {d d' : sf_D} (h : so_lald d = some d') : sf_nx W ab_lald d d' := by
  obtain ⟨d1, d2, F, U, V⟩ := d
  unfold so_lald at h
  dsimp only at h
  split at h
  · rename_i a0 b0 g n jt
    obtain ⟨hc, h⟩ := ab_cond h
    subst h
    unfold sf_ix at hc
    simp only [Bool.and_eq_true, decide_eq_true_eq] at hc
    obtain ⟨⟨⟨hn, hg⟩, hk2⟩, hx0, hx1⟩ := hc
    intro t s G
    obtain ⟨lo, stk, u, hp⟩ := s
    obtain ⟨v, w, st, rfl, hl, h1, h2⟩ := sf_pop2 G
    obtain ⟨x, hx⟩ := h1.1 rfl
    cases hx
    have hF : sf_S (sf_val (lo, .int x :: w :: st, u, hp)) F := G.2.2.2.1
    have vx : sf_val (lo, .int x :: w :: st, u, hp) (3 * (jt.length + 1)) = some x.toInt := sf_val_py1 hl
    have rx := sf_i_ok (sf_val_range _) hF vx
    rcases h2.2.1 rfl with ⟨a, hq, ha, hta⟩ | ⟨hq, -⟩
    · cases hq
      have ha' : a < hp.1 := ha
      obtain ⟨f, e1⟩ := sf_larr G.1 ha' hta hg hk2
      have hin := n_in (Int.le_trans hx0 rx.1) (Int.lt_of_le_of_lt rx.2 hx1)
      have e1' : hp.2 a = .inl (2, (sf_A g).2.1, .inr (.inl f)) := e1
      exact ⟨(lo, .long (f x.toNatClampNeg) :: st, u, hp), t, by simp [ab_lald, ha', e1', hin], sf_two G hl sf_j2 sf_S_nil, sf_fr_rf⟩
    · exact absurd hq hn
  · cases h
def so_last (W : List (Nat × Nat × Nat)) (d : sf_D) : Option sf_D := match d.2.1 with
  | (2, _, _) :: (0, _, _) :: (1, g, n) :: jt => cond (decide (n ≠ 1) && decide (100 ≤ g) && decide ((sf_A g).1 = 2) && sf_ix g (sf_i d.2.2.1 (3 * (jt.length + 1))) && sf_cv W g 0 0)
      (some (d.1, jt, sf_k (fun q => sf_bS jt.length q || sf_bH g 0 0 q) d.2.2.1, d.2.2.2)) none
  | _ => none
theorem so_last_ok {W : List (Nat × Nat × Nat)} {d d' : sf_D} (h : so_last W d = some d') : sf_nx W ab_last d d' := by
  obtain ⟨d1, d2, F, U, V⟩ := d
  unfold so_last at h
  dsimp only at h
  split at h
  · rename_i a0 b0 a1 b1 g n jt
    obtain ⟨hc, h⟩ := ab_cond h
    subst h
    unfold sf_ix at hc
    simp only [Bool.and_eq_true, decide_eq_true_eq] at hc
    obtain ⟨⟨⟨⟨hn, hg⟩, hk2⟩, hx0, hx1⟩, hcv⟩ := hc
    intro t s G
    obtain ⟨lo, stk, u, hp⟩ := s
    obtain ⟨v, w, z, st, rfl, hl, h1, h2, h3⟩ := sf_pop3 G
    obtain ⟨y, hy⟩ := h1.2.2.1 rfl
    obtain ⟨x, hx⟩ := h2.1 rfl
    cases hy
    cases hx
    have hF : sf_S (sf_val (lo, .long y :: .int x :: z :: st, u, hp)) F := G.2.2.2.1
    have vx : sf_val (lo, .long y :: .int x :: z :: st, u, hp) (3 * (jt.length + 1)) = some x.toInt := sf_val_p1 hl
    have rx := sf_i_ok (sf_val_range _) hF vx
    rcases h3.2.1 rfl with ⟨a, hq, ha, hta⟩ | ⟨hq, -⟩
    · cases hq
      have H : sf_h t hp := G.1
      have ha' : a < hp.1 := ha
      have hta' : t a = g := hta
      obtain ⟨f, e1⟩ := sf_larr H ha' hta' hg hk2
      have hin := n_in (Int.le_trans hx0 rx.1) (Int.lt_of_le_of_lt rx.2 hx1)
      have hr : ∀ b q, b < hp.1 → (t b = g → ¬ (0 ≤ q ∧ q ≤ 0)) → sf_rd (ab_up hp a (.inl (2, (sf_A g).2.1, .inr (.inl (vp_updL f x.toNatClampNeg y))))) b q = sf_rd hp b q := by
        intro b q _ hq
        by_cases e : b = a
        · subst e
          rw [sf_rd_up_larr]
          unfold sf_rd
          rw [e1]
        · exact sf_rd_up_ne e
      have H' := sf_larr_put H ha' hta' hg hk2 (f := vp_updL f x.toNatClampNeg y) (sf_I_up H (by rw [hta']; exact sf_sp2 hk2) (fun q hq => hr a q ha' (fun _ => hq)) (fun h5 => absurd (hta'.symm.trans h5) (by omega)))
      obtain ⟨cv1, cv2⟩ := sf_cv_ok hcv
      exact ⟨(lo, st, u, ab_up hp a (.inl (2, (sf_A g).2.1, .inr (.inl (vp_updL f x.toNatClampNeg y))))), t, by simp [ab_last, ha', e1, hin], ⟨H', G.2.1, (sf_dr3 G hl).2.2.1, sf_k_ok (fun q hq => sf_val_sh (xs := [.long y, .int x, .ref a]) H hl hr hq) hF, G.2.2.2.2⟩, sf_fr_up (by rw [hta']; exact cv1) cv2 (fun q hq => hr a q ha' (fun _ => hq)) (Or.inr (Or.inl (sf_n69 H hta' hg)))⟩
    · exact absurd hq hn
  · cases h
def so_aald (kd : Nat) (d : sf_D) : Option sf_D := match d.2.1 with
  | (0, _, _) :: (1, g, n) :: jt => match (sf_A g).2.2 with
    | [(m, k)] => cond (decide (n ≠ 1) && decide (100 ≤ g) && decide ((sf_A g).1 = kd) && decide (4 ≤ kd) && decide (k.1 = 1) && sf_ix g (sf_i d.2.2.1 (3 * (jt.length + 1))) && decide ((sf_A g).2.1 ≤ m))
      (some (d.1, sf_kj k :: jt, sf_k (sf_bS jt.length) d.2.2.1 ++ [], d.2.2.2)) none
    | _ => none
  | _ => none
theorem so_aald_ok {W : List (Nat × Nat × Nat)} {kd : Nat} {d d' : sf_D} (h : so_aald kd d = some d') : sf_nx W (ab_aald kd) d d' := by
  obtain ⟨d1, d2, F, U, V⟩ := d
  unfold so_aald at h
  dsimp only at h
  split at h
  · rename_i a0 b0 g n jt
    split at h
    · rename_i m k hseg
      obtain ⟨hc, h⟩ := ab_cond h
      subst h
      unfold sf_ix at hc
      simp only [Bool.and_eq_true, decide_eq_true_eq] at hc
      obtain ⟨⟨⟨⟨⟨⟨hn, hg⟩, rfl⟩, hk4⟩, hk1⟩, hx0, hx1⟩, hm⟩ := hc
      intro t s G
      obtain ⟨lo, stk, u, hp⟩ := s
      obtain ⟨v, w, st, rfl, hl, h1, h2⟩ := sf_pop2 G
      obtain ⟨x, hx⟩ := h1.1 rfl
      cases hx
      have hF : sf_S (sf_val (lo, .int x :: w :: st, u, hp)) F := G.2.2.2.1
      have vx : sf_val (lo, .int x :: w :: st, u, hp) (3 * (jt.length + 1)) = some x.toInt := sf_val_py1 hl
      have rx := sf_i_ok (sf_val_range _) hF vx
      rcases h2.2.1 rfl with ⟨a, hq, ha, hta⟩ | ⟨hq, -⟩
      · cases hq
        have H : sf_h t hp := G.1
        have ha' : a < hp.1 := ha
        have hta' : t a = g := hta
        obtain ⟨f, e1, e6, e2⟩ := sf_rarr H ha' hta' hg hk4
        have x0 : 0 ≤ x.toInt := Int.le_trans hx0 rx.1
        have x1 : x.toInt < ((sf_A g).2.1 : Int) := Int.lt_of_le_of_lt rx.2 hx1
        have hin := n_in x0 x1
        have hidx := n_idx x0
        have hj : x.toNatClampNeg < (sf_A g).2.1 := by omega
        have e3 := e2 _ hj
        rw [hseg] at e3
        have e4 : sf_e [(m, k)] x.toNatClampNeg = k := by
          show cond (decide (x.toNatClampNeg < m)) k _ = k
          rw [decide_eq_true (show x.toNatClampNeg < m by omega)]
          rfl
        rw [e4] at e3
        exact ⟨(lo, ab_rf (f x.toNatClampNeg) :: st, u, hp), t, by simp [ab_aald, ha', e1, hin], sf_two G hl (sf_kj_ok e3) sf_S_nil, sf_fr_rf⟩
      · exact absurd hq hn
    · cases h
  · cases h
def so_alen (d : sf_D) : Option sf_D := match d.2.1 with
  | (1, g, n) :: jt => cond (decide (n ≠ 1) && decide (100 ≤ g) && decide ((sf_A g).1 < 4) && decide ((sf_A g).1 ≠ 2) && decide ((sf_A g).2.1 < 2147483648))
      (some (d.1, (0, 0, 0) :: jt, sf_k (sf_bS jt.length) d.2.2.1 ++ [(1, 3 * jt.length, 0, ((sf_A g).2.1 : Int), ((sf_A g).2.1 : Int), 0)], d.2.2.2)) none
  | _ => none
theorem so_alen_ok {W : List (Nat × Nat × Nat)} {d d' : sf_D} (h : so_alen d = some d') : sf_nx W ab_alen d d' := by
  obtain ⟨d1, d2, F, U, V⟩ := d
  unfold so_alen at h
  dsimp only at h
  split at h
  · rename_i g n jt
    obtain ⟨hc, h⟩ := ab_cond h
    subst h
    simp only [Bool.and_eq_true, decide_eq_true_eq] at hc
    obtain ⟨⟨⟨⟨hn, hg⟩, hk4⟩, hk2⟩, hm⟩ := hc
    intro t s G
    obtain ⟨lo, stk, u, hp⟩ := s
    obtain ⟨v, st, rfl, hl, h1⟩ := sf_pop1 G
    rcases h1.2.1 rfl with ⟨a, hq, ha, hta⟩ | ⟨hq, -⟩
    · cases hq
      have ha' : a < hp.1 := ha
      obtain ⟨f, e1, e2⟩ := sf_arr G.1 ha' hta hg hk4 hk2
      have e1' : hp.2 a = .inl ((sf_A g).1, (sf_A g).2.1, .inl f) := e1
      have h6 : (sf_A g).1 < 6 := by omega
      refine ⟨(lo, .int (Int32.ofNat (sf_A g).2.1) :: st, u, hp), t, by simp [ab_alen, ha', e1', h6], sf_sin G hl sf_j0 (sf_S_cons (sf_s1 (x := ((sf_A g).2.1 : Int)) ?_ (Int.le_refl _) (Int.le_refl _)) sf_S_nil), sf_fr_rf⟩
      rw [sf_val_py hl]
      show some (Int32.ofNat (sf_A g).2.1).toInt = _
      rw [i_toInt hm]
    · exact absurd hq hn
  · cases h
