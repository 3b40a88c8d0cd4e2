/-! ===== steps over what is known: copies, longs, branches ===== -/
theorem sf_bS_lt {k p : Nat} (h : p / 3 < k) : sf_bS k p = false := by
  unfold sf_bS
  rw [decide_eq_false (Nat.not_le.mpr h), Bool.and_false]
theorem sf_c1 {t : Nat → Nat} {n : Nat} {j : sf_J} {v : Value} (hj : sf_j t n j (some v)) (h : (decide (j.1 = 0) || decide (j.1 = 1) || decide (j.1 = 3)) = true) : ab_c1 v = true := by
  simp only [Bool.or_eq_true, decide_eq_true_eq] at h
  rcases h with (h | h) | h
  · obtain ⟨x, hx⟩ := hj.1 h
    cases hx
    rfl
  · rcases hj.2.1 h with ⟨q, hx, -⟩ | ⟨-, hx⟩
    · cases hx
      rfl
    · cases hx
      rfl
  · have hx := hj.2.2.2.1 h
    cases hx
    rfl
def sf_cp (j : sf_J) (p q : Nat) : List sf_F := cond (decide (j.1 = 0)) [(2, p, q, 1, 0, 0)] []
theorem sf_cp_ok {t : Nat → Nat} {n : Nat} {j : sf_J} {v : Value} {w : Nat → Option Int} {p q : Nat} (hj : sf_j t n j (some v)) (hp : w p = sf_iv (some v)) (hq : w q = sf_iv (some v)) : sf_S w (sf_cp j p q) := by
  unfold sf_cp
  by_cases h : j.1 = 0
  · rw [decide_eq_true h]
    obtain ⟨x, hx⟩ := hj.1 h
    cases hx
    exact sf_S_cons (sf_s2 (x := x.toInt) (y := x.toInt) hp hq (by omega)) sf_S_nil
  · rw [decide_eq_false h]
    exact sf_S_nil
def so_dup (d : sf_D) : Option sf_D := match d.2.1 with
  | j :: jt => cond (decide (j.1 = 0) || decide (j.1 = 1) || decide (j.1 = 3)) (some (sf_pu d j (sf_cp j (3 * (jt.length + 1)) (3 * jt.length)))) none
  | _ => none
theorem so_dup_ok {W : List (Nat × Nat × Nat)} {d d' : sf_D} (h : so_dup d = some d') : sf_nx W ab_dup d d' := by
  obtain ⟨d1, d2, F, U, V⟩ := d
  unfold so_dup at h
  dsimp only at h
  split at h
  · rename_i j jt
    obtain ⟨hc, h⟩ := ab_cond h
    subst h
    intro t s G
    obtain ⟨lo, stk, u, hp⟩ := s
    obtain ⟨v, st, rfl, hl, h1⟩ := sf_pop1 G
    refine ⟨(lo, v :: v :: st, u, hp), t, ?_, sf_pu_ok G h1 (sf_cp_ok h1 ?_ ?_), sf_fr_rf⟩
    · show cond (ab_c1 v) _ _ = _
      rw [sf_c1 h1 hc]
      rfl
    · exact sf_val_py (st := v :: st) (by rw [List.length_cons, hl])
    · exact sf_val_px hl
  · cases h
def so_dup2 (d : sf_D) : Option sf_D := match d.2.1 with
  | j :: k :: jt => cond ((decide (j.1 = 0) || decide (j.1 = 1) || decide (j.1 = 3)) && (decide (k.1 = 0) || decide (k.1 = 1) || decide (k.1 = 3)))
      (some (sf_pu (sf_pu d k (sf_cp k (3 * (jt.length + 2)) (3 * jt.length))) j (sf_cp j (3 * (jt.length + 3)) (3 * (jt.length + 1))))) none
  | _ => none
theorem so_dup2_ok {W : List (Nat × Nat × Nat)} {d d' : sf_D} (h : so_dup2 d = some d') : sf_nx W ab_dup2 d d' := by
  obtain ⟨d1, d2, F, U, V⟩ := d
  unfold so_dup2 at h
  dsimp only at h
  split at h
  · rename_i j k jt
    obtain ⟨hc, h⟩ := ab_cond h
    subst h
    rw [Bool.and_eq_true] at hc
    intro t s G
    obtain ⟨lo, stk, u, hp⟩ := s
    obtain ⟨v, w, st, rfl, hl, h1, h2⟩ := sf_pop2 G
    have G1 : sf_g t (sf_pu (d1, j :: k :: jt, F, U, V) k (sf_cp k (3 * (jt.length + 2)) (3 * jt.length))) (lo, w :: v :: w :: st, u, hp) := by
      refine sf_pu_ok G h2 (sf_cp_ok h2 ?_ ?_)
      · exact sf_val_py (st := v :: w :: st) (by rw [List.length_cons, List.length_cons, hl])
      · rw [sf_val_pu (sf_bS_lt (by rw [show 3 * jt.length / 3 = jt.length by omega]; show _ < st.length + 1 + 1; omega))]
        exact sf_val_px hl
    refine ⟨(lo, v :: w :: v :: w :: st, u, hp), t, ?_, sf_pu_ok G1 h1 (sf_cp_ok h1 ?_ ?_), sf_fr_rf⟩
    · show cond (ab_c1 v && ab_c1 w) _ _ = _
      rw [sf_c1 h1 hc.1, sf_c1 h2 hc.2]
      rfl
    · exact sf_val_py (st := w :: v :: w :: st) (by rw [List.length_cons, List.length_cons, List.length_cons, hl])
    · rw [sf_val_pu (sf_bS_lt (by rw [show 3 * (jt.length + 1) / 3 = jt.length + 1 by omega]; show _ < st.length + 1 + 1 + 1; omega)), sf_val_pu (sf_bS_lt (by rw [show 3 * (jt.length + 1) / 3 = jt.length + 1 by omega]; show _ < st.length + 1 + 1; omega))]
      exact sf_val_py1 hl
  · cases h
def so_pop (d : sf_D) : Option sf_D := match d.2.1 with
  | j :: jt => cond (decide (j.1 = 0) || decide (j.1 = 1) || decide (j.1 = 3)) (some (d.1, jt, sf_k (sf_bS jt.length) d.2.2.1 ++ [], d.2.2.2)) none
  | _ => none
theorem so_pop_ok {W : List (Nat × Nat × Nat)} {d d' : sf_D} (h : so_pop d = some d') : sf_nx W ab_pop d d' := by
  obtain ⟨d1, d2, F, U, V⟩ := d
  unfold so_pop at h
  dsimp only at h
  split at h
  · rename_i j jt
    obtain ⟨hc, h⟩ := ab_cond h
    subst h
    intro t s G
    obtain ⟨lo, stk, u, hp⟩ := s
    obtain ⟨v, st, rfl, hl, h1⟩ := sf_pop1 G
    refine ⟨(lo, st, u, hp), t, ?_, sf_dr1 G hl, sf_fr_rf⟩
    show cond (ab_c1 v) _ _ = _
    rw [sf_c1 h1 hc]
    rfl
  · cases h
def so_lbin (d : sf_D) : Option sf_D := match d.2.1 with
  | (2, _, _) :: (2, _, _) :: jt => some (d.1, (2, 0, 0) :: jt, sf_k (sf_bS jt.length) d.2.2.1 ++ [], d.2.2.2)
  | _ => none
theorem so_lbin_ok {W : List (Nat × Nat × Nat)} {g : Int64 → Int64 → Int64} {d d' : sf_D} (h : so_lbin d = some d') : sf_nx W (ab_lbin g) d d' := by
  obtain ⟨d1, d2, F, U, V⟩ := d
  unfold so_lbin at h
  dsimp only at h
  split at h
  · obtain rfl := Option.some.inj h
    intro t s G
    obtain ⟨lo, stk, u, hp⟩ := s
    obtain ⟨v, w, st, rfl, hl, h1, h2⟩ := sf_pop2 G
    obtain ⟨y, hy⟩ := h1.2.2.1 rfl
    obtain ⟨x, hx⟩ := h2.2.2.1 rfl
    cases hy
    cases hx
    exact ⟨(lo, .long (g x y) :: st, u, hp), t, rfl, sf_two G hl sf_j2 sf_S_nil, sf_fr_rf⟩
  · cases h
def so_lsh (d : sf_D) : Option sf_D := match d.2.1 with
  | (0, _, _) :: (2, _, _) :: jt => some (d.1, (2, 0, 0) :: jt, sf_k (sf_bS jt.length) d.2.2.1 ++ [], d.2.2.2)
  | _ => none
theorem so_lsh_ok {W : List (Nat × Nat × Nat)} {g : Int64 → Int32 → Int64} {d d' : sf_D} (h : so_lsh d = some d') : sf_nx W (ab_lsh g) d d' := by
  obtain ⟨d1, d2, F, U, V⟩ := d
  unfold so_lsh at h
  dsimp only at h
  split at h
  · obtain rfl := Option.some.inj h
    intro t s G
    obtain ⟨lo, stk, u, hp⟩ := s
    obtain ⟨v, w, st, rfl, hl, h1, h2⟩ := sf_pop2 G
    obtain ⟨y, hy⟩ := h1.1 rfl
    obtain ⟨x, hx⟩ := h2.2.2.1 rfl
    cases hy
    cases hx
    exact ⟨(lo, .long (g x y) :: st, u, hp), t, rfl, sf_two G hl sf_j2 sf_S_nil, sf_fr_rf⟩
  · cases h
def so_lcmp (d : sf_D) : Option sf_D := match d.2.1 with
  | (2, _, _) :: (2, _, _) :: jt => some (d.1, (0, 0, 0) :: jt, sf_k (sf_bS jt.length) d.2.2.1 ++ [sf_top (3 * jt.length)], d.2.2.2)
  | _ => none
theorem so_lcmp_ok {W : List (Nat × Nat × Nat)} {d d' : sf_D} (h : so_lcmp d = some d') : sf_nx W ab_lcmp d d' := by
  obtain ⟨d1, d2, F, U, V⟩ := d
  unfold so_lcmp at h
  dsimp only at h
  split at h
  · obtain rfl := Option.some.inj h
    intro t s G
    obtain ⟨lo, stk, u, hp⟩ := s
    obtain ⟨v, w, st, rfl, hl, h1, h2⟩ := sf_pop2 G
    obtain ⟨y, hy⟩ := h1.2.2.1 rfl
    obtain ⟨x, hx⟩ := h2.2.2.1 rfl
    cases hy
    cases hx
    exact ⟨(lo, .int (lg_cmp x y) :: st, u, hp), t, rfl, sf_two G hl sf_j0 (sf_S_cons (sf_top_ok (sf_val_py hl)) sf_S_nil), sf_fr_rf⟩
  · cases h
def so_i2l (d : sf_D) : Option sf_D := match d.2.1 with
  | (0, _, _) :: jt => some (d.1, (2, 0, 0) :: jt, sf_k (sf_bS jt.length) d.2.2.1 ++ [], d.2.2.2)
  | _ => none
theorem so_i2l_ok {W : List (Nat × Nat × Nat)} {d d' : sf_D} (h : so_i2l d = some d') : sf_nx W ab_i2l d d' := by
  obtain ⟨d1, d2, F, U, V⟩ := d
  unfold so_i2l at h
  dsimp only at h
  split at h
  · obtain rfl := Option.some.inj h
    intro t s G
    obtain ⟨lo, stk, u, hp⟩ := s
    obtain ⟨v, st, rfl, hl, h1⟩ := sf_pop1 G
    obtain ⟨y, hy⟩ := h1.1 rfl
    cases hy
    exact ⟨(lo, .long y.toInt64 :: st, u, hp), t, rfl, sf_sin G hl sf_j2 sf_S_nil, sf_fr_rf⟩
  · cases h
def so_l2i (d : sf_D) : Option sf_D := match d.2.1 with
  | (2, _, _) :: jt => some (d.1, (0, 0, 0) :: jt, sf_k (sf_bS jt.length) d.2.2.1 ++ [sf_top (3 * jt.length)], d.2.2.2)
  | _ => none
theorem so_l2i_ok {W : List (Nat × Nat × Nat)} {d d' : sf_D} (h : so_l2i d = some d') : sf_nx W ab_l2i d d' := by
  obtain ⟨d1, d2, F, U, V⟩ := d
  unfold so_l2i at h
  dsimp only at h
  split at h
  · obtain rfl := Option.some.inj h
    intro t s G
    obtain ⟨lo, stk, u, hp⟩ := s
    obtain ⟨v, st, rfl, hl, h1⟩ := sf_pop1 G
    obtain ⟨y, hy⟩ := h1.2.2.1 rfl
    cases hy
    exact ⟨(lo, .int y.toInt32 :: st, u, hp), t, rfl, sf_sin G hl sf_j0 (sf_S_cons (sf_top_ok (sf_val_py hl)) sf_S_nil), sf_fr_rf⟩
  · cases h
/-! ===== branches ===== -/
def sf_br (W : List (Nat × Nat × Nat)) (a : ab_A) (d : sf_D) (out : List (Nat × sf_D)) : Prop := ∀ (t : Nat → Nat) (s : ab_S), sf_g t d s → ∃ (j : Nat) (s' : ab_S) (t' : Nat → Nat) (d' : sf_D), a s = some (.inl (j, s')) ∧ (j, d') ∈ out ∧ sf_g t' d' s' ∧ sf_fr W t s.2.2.2 t' s'.2.2.2
theorem sf_br_nx {W : List (Nat × Nat × Nat)} {f : ab_S → Option ab_S} {d d' : sf_D} {j : Nat} (h : sf_nx W f d d') : sf_br W (ab_nx j f) d [(j, d')] := by
  intro t s G
  obtain ⟨s', t', h1, h2, h3⟩ := h t s G
  exact ⟨j, s', t', d', by rw [ab_nx, h1], List.mem_cons_self, h2, h3⟩
theorem sf_br_goto {W : List (Nat × Nat × Nat)} {d : sf_D} {j : Nat} : sf_br W (ab_goto j) d [(j, d)] :=
  fun t s G => ⟨j, s, t, d, rfl, List.mem_cons_self, G, sf_fr_rf⟩
def sf_cg (k : Nat) : Int32 → Int32 → Bool := match k with
  | 0 => fun x y => decide (x = y)
  | 1 => fun x y => !decide (x = y)
  | 2 => fun x y => decide (x < y)
  | 3 => fun x y => decide (x ≤ y)
  | 4 => fun x y => decide (y < x)
  | _ => fun x y => decide (y ≤ x)
def sf_cz (k : Nat) : Int32 → Bool := match k with
  | 0 => fun x => decide (x = 0)
  | 1 => fun x => !decide (x = 0)
  | 2 => fun x => decide (x < 0)
  | 3 => fun x => decide (x ≤ 0)
  | 4 => fun x => decide (0 < x)
  | _ => fun x => decide (0 ≤ x)
theorem sf_cz_eq {k : Nat} {x : Int32} : sf_cz k x = sf_cg k x 0 := by
  match k with
  | 0 => rfl
  | 1 => rfl
  | 2 => rfl
  | 3 => rfl
  | 4 => rfl
  | k + 5 => rfl
def sf_ng (k : Nat) : Nat := match k with
  | 0 => 1
  | 1 => 0
  | 2 => 5
  | 3 => 4
  | 4 => 3
  | _ => 2
theorem sf_cg_t {k : Nat} {x y : Int32} (h : sf_cg k x y = true) : sf_q k x.toInt y.toInt := by
  match k, h with
  | 0, h => exact congrArg Int32.toInt (of_decide_eq_true h)
  | 1, h =>
    intro e
    have h' : (!decide (x = y)) = true := h
    rw [decide_eq_true (Int32.toInt_inj.mp e)] at h'
    cases h'
  | 2, h => exact Int32.lt_iff_toInt_lt.mp (of_decide_eq_true h)
  | 3, h => exact Int32.le_iff_toInt_le.mp (of_decide_eq_true h)
  | 4, h => exact Int32.lt_iff_toInt_lt.mp (of_decide_eq_true h)
  | k + 5, h => exact Int32.le_iff_toInt_le.mp (of_decide_eq_true h)
theorem sf_cg_f {k : Nat} {x y : Int32} (h : sf_cg k x y = false) : sf_q (sf_ng k) x.toInt y.toInt := by
  match k, h with
  | 0, h => exact fun e => of_decide_eq_false h (Int32.toInt_inj.mp e)
  | 1, h =>
    have h' : (!decide (x = y)) = false := h
    rw [Bool.not_eq_false', decide_eq_true_eq] at h'
    exact congrArg Int32.toInt h'
  | 2, h =>
    have h' := of_decide_eq_false h
    exact Int.not_lt.mp (fun e => h' (Int32.lt_iff_toInt_lt.mpr e))
  | 3, h =>
    have h' := of_decide_eq_false h
    exact Int.not_le.mp (fun e => h' (Int32.le_iff_toInt_le.mpr e))
  | 4, h =>
    have h' := of_decide_eq_false h
    exact Int.not_lt.mp (fun e => h' (Int32.lt_iff_toInt_lt.mpr e))
  | k + 5, h =>
    have h' := of_decide_eq_false h
    exact Int.not_le.mp (fun e => h' (Int32.le_iff_toInt_le.mpr e))
/-- the facts where the comparison k of the two numbers on top holds, and the two are gone; nothing where it can't -/
def sf_bo (k : Nat) (d : sf_D) (jt : List sf_J) (j : Nat) : List (Nat × sf_D) :=
  cond (decide ((sf_cx k (sf_i d.2.2.1 (3 * jt.length)) (sf_i d.2.2.1 (3 * (jt.length + 1)))).1 ≤ (sf_cx k (sf_i d.2.2.1 (3 * jt.length)) (sf_i d.2.2.1 (3 * (jt.length + 1)))).2) &&
      decide ((sf_cx (sf_fl k) (sf_i d.2.2.1 (3 * (jt.length + 1))) (sf_i d.2.2.1 (3 * jt.length))).1 ≤ (sf_cx (sf_fl k) (sf_i d.2.2.1 (3 * (jt.length + 1))) (sf_i d.2.2.1 (3 * jt.length))).2))
    [(j, (d.1, jt, sf_k (sf_bS jt.length) (d.2.2.1 ++ (sf_rf d.2.2.1 3 (3 * jt.length) (sf_cx k (sf_i d.2.2.1 (3 * jt.length)) (sf_i d.2.2.1 (3 * (jt.length + 1)))).1 (sf_cx k (sf_i d.2.2.1 (3 * jt.length)) (sf_i d.2.2.1 (3 * (jt.length + 1)))).2 ++
      sf_rf d.2.2.1 3 (3 * (jt.length + 1)) (sf_cx (sf_fl k) (sf_i d.2.2.1 (3 * (jt.length + 1))) (sf_i d.2.2.1 (3 * jt.length))).1 (sf_cx (sf_fl k) (sf_i d.2.2.1 (3 * (jt.length + 1))) (sf_i d.2.2.1 (3 * jt.length))).2)) ++ [], d.2.2.2))] []
theorem sf_bo_ok {t : Nat → Nat} {k j a b a' b' : Nat} {d1 jt : List sf_J} {F : List sf_F} {U V : Nat} {lo : List (Option Value)} {x y : Int32} {st : List Value} {u : Nat × Nat} {hp : ab_H} (G : sf_g t (d1, (0, a, b) :: (0, a', b') :: jt, F, U, V) (lo, .int y :: .int x :: st, u, hp)) (hl : st.length = jt.length) (hq : sf_q k x.toInt y.toInt) :
    ∃ d', (j, d') ∈ sf_bo k (d1, (0, a, b) :: (0, a', b') :: jt, F, U, V) jt j ∧ sf_g t d' (lo, st, u, hp) := by
  have vy : sf_val (lo, .int y :: .int x :: st, u, hp) (3 * (jt.length + 1)) = some y.toInt := sf_val_py1 hl
  have vx : sf_val (lo, .int y :: .int x :: st, u, hp) (3 * jt.length) = some x.toInt := sf_val_px hl
  have hF : sf_S (sf_val (lo, .int y :: .int x :: st, u, hp)) F := G.2.2.2.1
  have ry := sf_i_ok (sf_val_range _) hF vy
  have rx := sf_i_ok (sf_val_range _) hF vx
  have cx := sf_cx_ok hq rx ry
  have cy := sf_cx_ok (sf_fl_ok hq) ry rx
  have G1 := sf_add G (sf_S_app (sf_rf_ok hF 3 _ _ _ _ vx cx.1 cx.2) (sf_rf_ok hF 3 _ _ _ _ vy cy.1 cy.2))
  have G2 := sf_dr2 G1 hl
  refine ⟨_, ?_, G2⟩
  unfold sf_bo
  rw [decide_eq_true (Int.le_trans cx.1 cx.2), decide_eq_true (Int.le_trans cy.1 cy.2)]
  exact List.mem_cons_self
def so_icmp (j e k : Nat) (d : sf_D) : Option (List (Nat × sf_D)) := match d.2.1 with
  | (0, _, _) :: (0, _, _) :: jt => some (sf_bo k d jt e ++ sf_bo (sf_ng k) d jt j)
  | _ => none
theorem so_icmp_ok {W : List (Nat × Nat × Nat)} {j e k : Nat} {d : sf_D} {out : List (Nat × sf_D)} (h : so_icmp j e k d = some out) : sf_br W (ab_icmp j e (sf_cg k)) d out := by
  obtain ⟨d1, d2, F, U, V⟩ := d
  unfold so_icmp at h
  dsimp only at h
  split at h
  · rename_i a b a' b' jt
    obtain rfl := Option.some.inj h
    intro t s G
    obtain ⟨lo, stk, u, hp⟩ := s
    obtain ⟨v, w, st, rfl, hl, h1, h2⟩ := sf_pop2 G
    obtain ⟨y, hy⟩ := h1.1 rfl
    obtain ⟨x, hx⟩ := h2.1 rfl
    cases hy
    cases hx
    cases hc : sf_cg k x y with
    | true =>
      obtain ⟨d', m1, m2⟩ := sf_bo_ok (j := e) G hl (sf_cg_t hc)
      exact ⟨e, (lo, st, u, hp), t, d', by rw [ab_icmp]; dsimp only; rw [hc]; rfl, List.mem_append_left _ m1, m2, sf_fr_rf⟩
    | false =>
      obtain ⟨d', m1, m2⟩ := sf_bo_ok (j := j) G hl (sf_cg_f hc)
      exact ⟨j, (lo, st, u, hp), t, d', by rw [ab_icmp]; dsimp only; rw [hc]; rfl, List.mem_append_right _ m1, m2, sf_fr_rf⟩
  · cases h
/-- against 0: as if a 0 lay on top -/
def so_if (j e k : Nat) (d : sf_D) : Option (List (Nat × sf_D)) := match d.2.1 with
  | (0, a, b) :: jt => some (sf_bo k (sf_pu d (0, 0, 0) [(1, 3 * d.2.1.length, 0, 0, 0, 0)]) jt e ++ sf_bo (sf_ng k) (sf_pu d (0, 0, 0) [(1, 3 * d.2.1.length, 0, 0, 0, 0)]) jt j)
  | _ => none
theorem so_if_ok {W : List (Nat × Nat × Nat)} {j e k : Nat} {d : sf_D} {out : List (Nat × sf_D)} (h : so_if j e k d = some out) : sf_br W (ab_if j e (sf_cz k)) d out := by
  obtain ⟨d1, d2, F, U, V⟩ := d
  unfold so_if at h
  dsimp only at h
  split at h
  · rename_i a b jt
    obtain rfl := Option.some.inj h
    intro t s G
    obtain ⟨lo, stk, u, hp⟩ := s
    obtain ⟨v, st, rfl, hl, h2⟩ := sf_pop1 G
    obtain ⟨x, hx⟩ := h2.1 rfl
    cases hx
    have G1 : sf_g t (sf_pu (d1, (0, a, b) :: jt, F, U, V) (0, 0, 0) [(1, 3 * ((0, a, b) :: jt : List sf_J).length, 0, 0, 0, 0)]) (lo, .int 0 :: .int x :: st, u, hp) :=
      sf_pu_ok G sf_j0 (sf_S_cons (sf_s1 (x := 0) (sf_val_py (st := .int x :: st) (by rw [List.length_cons, List.length_cons, hl])) (Int.le_refl _) (Int.le_refl _)) sf_S_nil)
    cases hc : sf_cg k x 0 with
    | true =>
      obtain ⟨d', m1, m2⟩ := sf_bo_ok (j := e) G1 hl (sf_cg_t hc)
      exact ⟨e, (lo, st, u, hp), t, d', by rw [ab_if]; dsimp only; rw [sf_cz_eq, hc]; rfl, List.mem_append_left _ m1, m2, sf_fr_rf⟩
    | false =>
      obtain ⟨d', m1, m2⟩ := sf_bo_ok (j := j) G1 hl (sf_cg_f hc)
      exact ⟨j, (lo, st, u, hp), t, d', by rw [ab_if]; dsimp only; rw [sf_cz_eq, hc]; rfl, List.mem_append_right _ m1, m2, sf_fr_rf⟩
  · cases h
