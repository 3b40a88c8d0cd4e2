/-! ===== steps over what is known: locals, tables ===== -/
def sf_bL (i p : Nat) : Bool := decide (p = 3 * i + 1) || (decide (i = 0) && decide (p % 3 = 2) && decide (p / 3 < 1000))
theorem sf_val_loc {lo : List (Option Value)} {st : List Value} {r : (Nat × Nat) × ab_H} {i p : Nat} {w : Option Value} (hb : sf_bL i p = false) : sf_val (lo.set i w, st, r) p = sf_val (lo, st, r) p := by
  unfold sf_bL at hb
  rw [Bool.or_eq_false_iff, decide_eq_false_iff_not] at hb
  unfold sf_val
  dsimp only
  by_cases h0 : p % 3 = 0
  · rw [decide_eq_true h0]
    rfl
  · rw [decide_eq_false h0]
    by_cases h1 : p % 3 = 1
    · rw [decide_eq_true h1]
      show sf_iv ((lo.set i w)[p / 3]?).join = sf_iv (lo[p / 3]?).join
      rw [List.getElem?_set_ne (by have := hb.1; omega)]
    · rw [decide_eq_false h1]
      show sf_lc (lo.set i w) r.2 (p / 3) = sf_lc lo r.2 (p / 3)
      unfold sf_lc
      by_cases h2 : p / 3 < 1000
      · have hi : i ≠ 0 := fun e => by
          have := hb.2
          rw [decide_eq_true e, decide_eq_true (show p % 3 = 2 by omega), decide_eq_true h2] at this
          cases this
        rw [decide_eq_true h2, List.getElem?_set_ne hi]
      · rw [decide_eq_false h2]
        rfl
theorem sf_val_at {lo : List (Option Value)} {st : List Value} {r : (Nat × Nat) × ab_H} {i : Nat} {x : Int32} (h : i < lo.length) : sf_val (lo.set i (some (.int x)), st, r) (3 * i + 1) = some x.toInt := by
  unfold sf_val
  rw [decide_eq_false (show ¬ (3 * i + 1) % 3 = 0 by omega), decide_eq_true (show (3 * i + 1) % 3 = 1 by omega), show (3 * i + 1) / 3 = i by omega]
  show sf_iv ((lo.set i (some (.int x)))[i]?).join = _
  rw [List.getElem?_set_self h]
  rfl
/-- the facts with a place renamed -/
def sf_rn (p q : Nat) (f : sf_F) : sf_F := (f.1, cond (decide (f.2.1 = p)) q f.2.1, cond (decide (f.2.2.1 = p)) q f.2.2.1, f.2.2.2)
theorem sf_rn_ok {v v' : Nat → Option Int} {p q : Nat} {b : Nat → Bool} (h1 : v' q = v p) (h2 : ∀ r, b r = false → v' r = v r) {f : sf_F} (hf : sf_m (fun r => decide (r ≠ p) && b r) f = false) (hs : sf_s v f) : sf_s v' (sf_rn p q f) := by
  have key : ∀ r, (decide (r ≠ p) && b r) = false → v' (cond (decide (r = p)) q r) = v r := by
    intro r hr
    by_cases e : r = p
    · rw [decide_eq_true e, e]
      exact h1
    · rw [decide_eq_false e]
      rw [decide_eq_true e, Bool.true_and] at hr
      exact h2 r hr
  unfold sf_m at hf
  rw [Bool.or_eq_false_iff] at hf
  have e1 := key _ hf.1
  refine ⟨fun e => ?_, fun e => ?_, fun e => ?_⟩
  · obtain ⟨x, hx, a⟩ := hs.1 e
    exact ⟨x, e1.trans hx, a⟩
  · have e2 := key f.2.2.1 (by have := hf.2; rw [show f.1 = 2 from e] at this; simpa using this)
    obtain ⟨x, y, hx, hy, a⟩ := hs.2.1 e
    exact ⟨x, y, e1.trans hx, e2.trans hy, a⟩
  · have e2 := key f.2.2.1 (by have := hf.2; rw [show f.1 = 3 from e] at this; simpa using this)
    obtain ⟨x, hx, a⟩ := hs.2.2 e
    refine ⟨x, e1.trans hx, ?_⟩
    rcases a with a | ⟨y, hy, a⟩
    · exact .inl a
    · exact .inr ⟨y, e2.trans hy, a⟩
def sf_rk (p q : Nat) (b : Nat → Bool) (F : List sf_F) : List sf_F := (F.filter (fun f => !sf_m (fun r => decide (r ≠ p) && b r) f)).map (sf_rn p q)
theorem sf_rk_ok {v v' : Nat → Option Int} {p q : Nat} {b : Nat → Bool} (h1 : v' q = v p) (h2 : ∀ r, b r = false → v' r = v r) {F : List sf_F} (hF : sf_S v F) : sf_S v' (sf_rk p q b F) := by
  intro f hf
  obtain ⟨g, hg, rfl⟩ := List.mem_map.mp hf
  obtain ⟨g1, g2⟩ := List.mem_filter.mp hg
  exact sf_rn_ok h1 h2 (by simpa using g2) (hF g g1)
/-- may local i be written: what lies ahead of it is no long -/
def sf_w (d1 : List sf_J) (i : Nat) : Bool := decide (i < d1.length) && (match i with
  | 0 => true
  | k + 1 => match d1[k]? with
    | some j => decide (j.1 = 0) || decide (j.1 = 1) || decide (j.1 = 3) || decide (j.1 = 8)
    | none => false)
theorem sf_w_ok {t : Nat → Nat} {d : sf_D} {s : ab_S} (G : sf_g t d s) {i : Nat} (h : sf_w d.1 i = true) : ab_fr s.1 i = true ∧ i < s.1.length := by
  unfold sf_w at h
  rw [Bool.and_eq_true, decide_eq_true_eq] at h
  refine ⟨?_, by rw [G.2.1.1]; exact h.1⟩
  match i, h with
  | 0, _ => rfl
  | k + 1, h =>
    have h2 := h.2
    dsimp only at h2
    split at h2
    · rename_i j hj
      obtain ⟨hk, w, hw⟩ := sf_loc G hj
      rw [hw] at hk
      have hk' : sf_j t s.2.2.2.1 j w := hk
      show (match s.1[k]? with
        | some (some (.long _)) => false
        | some (some (.double _)) => false
        | _ => true) = true
      rw [hw]
      simp only [Bool.or_eq_true, decide_eq_true_eq] at h2
      rcases h2 with ((h2 | h2) | h2) | h2
      · obtain ⟨x, hx⟩ := hk'.1 h2
        rw [hx]
      · rcases hk'.2.1 h2 with ⟨q, hx, -⟩ | ⟨-, hx⟩
        · rw [hx]
        · rw [hx]
      · rw [hk'.2.2.2.1 h2]
      · have hh := hk'.2.2.2.2 h2
        cases w with
        | none => rfl
        | some z =>
          cases z with
          | long x => exact absurd rfl (hh.1 x)
          | double x => exact absurd rfl (hh.2 x)
          | _ => rfl
    · cases h2
theorem sf_setloc {t : Nat → Nat} {n : Nat} {d1 : List sf_J} {lo : List (Option Value)} {i : Nat} {j : sf_J} {w : Option Value} (h : lo.length = d1.length ∧ ∀ (i : Nat) (j : sf_J), d1[i]? = some j → sf_j t n j (lo[i]?).join) (hj : sf_j t n j w) : (lo.set i w).length = (d1.set i j).length ∧ ∀ (q : Nat) (k : sf_J), (d1.set i j)[q]? = some k → sf_j t n k ((lo.set i w)[q]?).join := by
  refine ⟨by rw [List.length_set, List.length_set, h.1], fun q k hk => ?_⟩
  by_cases e : i = q
  · subst e
    have hi : i < d1.length := by
      have := (List.getElem?_eq_some_iff.mp hk).1
      rw [List.length_set] at this
      exact this
    rw [List.getElem?_set_self hi] at hk
    cases hk
    rw [List.getElem?_set_self (by rw [h.1]; exact hi)]
    exact hj
  · rw [List.getElem?_set_ne e] at hk ⊢
    exact h.2 q k hk
def so_istore (i : Nat) (d : sf_D) : Option sf_D := match d.2.1 with
  | (0, _, _) :: jt => cond (sf_w d.1 i) (some (d.1.set i (0, 0, 0), jt, sf_rk (3 * jt.length) (3 * i + 1) (fun p => sf_bS jt.length p || sf_bL i p) d.2.2.1 ++ sf_rs (3 * i + 1) (sf_i d.2.2.1 (3 * jt.length)), d.2.2.2)) none
  | _ => none
theorem so_istore_ok {W : List (Nat × Nat × Nat)} {i : Nat} {d d' : sf_D} (h : so_istore i d = some d') : sf_nx W (ab_istore i) d d' := by
  obtain ⟨d1, d2, F, U, V⟩ := d
  unfold so_istore at h
  dsimp only at h
  split at h
  · rename_i a b jt
    obtain ⟨hc, h⟩ := ab_cond h
    subst h
    intro t s G
    obtain ⟨lo, stk, u, hp⟩ := s
    obtain ⟨v, st, rfl, hl, h1⟩ := sf_pop1 G
    obtain ⟨x, hx⟩ := h1.1 rfl
    cases hx
    obtain ⟨w1, w2⟩ := sf_w_ok G hc
    have vx : sf_val (lo, .int x :: st, u, hp) (3 * jt.length) = some x.toInt := sf_val_py hl
    have hF : sf_S (sf_val (lo, .int x :: st, u, hp)) F := G.2.2.2.1
    have rx := sf_i_ok (sf_val_range _) hF vx
    have vn : sf_val (lo.set i (some (.int x)), st, u, hp) (3 * i + 1) = some x.toInt := sf_val_at w2
    have G2 := sf_dr1 G hl
    refine ⟨(lo.set i (some (.int x)), st, u, hp), t, ?_, ⟨G.1, sf_setloc G.2.1 sf_j0, G2.2.2.1, sf_S_app (sf_rk_ok (vn.trans vx.symm) (fun q hq => ?_) hF) (sf_rs_ok vn fun _ => rx), G.2.2.2.2⟩, sf_fr_rf⟩
    · show cond (ab_fr lo i) _ _ = _
      rw [show ab_fr lo i = true from w1]
      rfl
    · rw [Bool.or_eq_false_iff] at hq
      rw [sf_val_loc hq.2]
      have := sf_val_stk (lo := lo) (xs := [.int x]) (ys := []) (st := st) (r := (u, hp)) (p := q) (by rw [hl]; exact hq.1)
      exact this
  · cases h
def so_astore (i : Nat) (d : sf_D) : Option sf_D := match d.2.1 with
  | (1, g, n) :: jt => cond (sf_w d.1 i) (some (d.1.set i (1, g, n), jt, sf_k (fun p => sf_bS jt.length p || sf_bL i p) d.2.2.1, d.2.2.2)) none
  | _ => none
theorem so_astore_ok {W : List (Nat × Nat × Nat)} {i : Nat} {d d' : sf_D} (h : so_astore i d = some d') : sf_nx W (ab_astore i) d d' := by
  obtain ⟨d1, d2, F, U, V⟩ := d
  unfold so_astore at h
  dsimp only at h
  split at h
  · rename_i g n jt
    obtain ⟨hc, h⟩ := ab_cond h
    subst h
    intro t s G
    obtain ⟨lo, stk, u, hp⟩ := s
    obtain ⟨v, st, rfl, hl, h1⟩ := sf_pop1 G
    obtain ⟨w1, w2⟩ := sf_w_ok G hc
    have hF : sf_S (sf_val (lo, v :: st, u, hp)) F := G.2.2.2.1
    have G2 := sf_dr1 G hl
    refine ⟨(lo.set i (some v), st, u, hp), t, ?_, ⟨G.1, sf_setloc G.2.1 h1, G2.2.2.1, sf_k_ok (fun q hq => ?_) hF, G.2.2.2.2⟩, sf_fr_rf⟩
    · rcases h1.2.1 rfl with ⟨q, hx, -⟩ | ⟨-, hx⟩
      · cases hx
        show cond (ab_fr lo i) _ _ = _
        rw [show ab_fr lo i = true from w1]
        rfl
      · cases hx
        show cond (ab_fr lo i) _ _ = _
        rw [show ab_fr lo i = true from w1]
        rfl
    · rw [Bool.or_eq_false_iff] at hq
      rw [sf_val_loc hq.2]
      have := sf_val_stk (lo := lo) (xs := [v]) (ys := []) (st := st) (r := (u, hp)) (p := q) (by rw [hl]; exact hq.1)
      exact this
  · cases h
def so_lstore (i : Nat) (d : sf_D) : Option sf_D := match d.2.1 with
  | (2, _, _) :: jt => cond (sf_w d.1 i) (some ((d.1.set i (2, 0, 0)).set (i + 1) (8, 0, 0), jt, sf_k (fun p => sf_bS jt.length p || sf_bL i p || sf_bL (i + 1) p) d.2.2.1, d.2.2.2)) none
  | _ => none
theorem so_lstore_ok {W : List (Nat × Nat × Nat)} {i : Nat} {d d' : sf_D} (h : so_lstore i d = some d') : sf_nx W (ab_lstore i) d d' := by
  obtain ⟨d1, d2, F, U, V⟩ := d
  unfold so_lstore at h
  dsimp only at h
  split at h
  · rename_i g n jt
    obtain ⟨hc, h⟩ := ab_cond h
    subst h
    intro t s G
    obtain ⟨lo, stk, u, hp⟩ := s
    obtain ⟨v, st, rfl, hl, h1⟩ := sf_pop1 G
    obtain ⟨x, hx⟩ := h1.2.2.1 rfl
    cases hx
    obtain ⟨w1, w2⟩ := sf_w_ok G hc
    have hF : sf_S (sf_val (lo, .long x :: st, u, hp)) F := G.2.2.2.1
    have G2 := sf_dr1 G hl
    have h8 : sf_j t hp.1 (8, 0, 0) none := ⟨fun e => absurd e (by show (8 : Nat) ≠ 0; decide), fun e => absurd e (by show (8 : Nat) ≠ 1; decide), fun e => absurd e (by show (8 : Nat) ≠ 2; decide), fun e => absurd e (by show (8 : Nat) ≠ 3; decide), fun _ => ⟨fun x e => (by cases e), fun x e => (by cases e)⟩⟩
    refine ⟨((lo.set i (some (.long x))).set (i + 1) none, st, u, hp), t, ?_, ⟨G.1, sf_setloc (sf_setloc G.2.1 sf_j2) h8, G2.2.2.1, sf_k_ok (fun q hq => ?_) hF, G.2.2.2.2⟩, sf_fr_rf⟩
    · show cond (ab_fr lo i) _ _ = _
      rw [show ab_fr lo i = true from w1]
      rfl
    · rw [Bool.or_eq_false_iff, Bool.or_eq_false_iff] at hq
      rw [sf_val_loc hq.2, sf_val_loc hq.1.2]
      have := sf_val_stk (lo := lo) (xs := [.long x]) (ys := []) (st := st) (r := (u, hp)) (p := q) (by rw [hl]; exact hq.1.1)
      exact this
  · cases h
def so_iinc (i : Nat) (n : Int32) (d : sf_D) : Option sf_D := match d.1[i]? with
  | some (0, _, _) => cond (sf_w d.1 i) (some (d.1.set i (0, 0, 0), d.2.1, sf_k (sf_bL i) d.2.2.1 ++ sf_rs (3 * i + 1) ((sf_i d.2.2.1 (3 * i + 1)).1 + n.toInt, (sf_i d.2.2.1 (3 * i + 1)).2 + n.toInt), d.2.2.2)) none
  | _ => none
theorem so_iinc_ok {W : List (Nat × Nat × Nat)} {i : Nat} {n : Int32} {d d' : sf_D} (h : so_iinc i n d = some d') : sf_nx W (ab_iinc i n) d d' := by
  obtain ⟨d1, d2, F, U, V⟩ := d
  unfold so_iinc at h
  dsimp only at h
  split at h
  · rename_i a b hi
    obtain ⟨hc, h⟩ := ab_cond h
    subst h
    intro t s G
    obtain ⟨lo, st, u, hp⟩ := s
    obtain ⟨w1, w2⟩ := sf_w_ok G hc
    obtain ⟨hj, w, hw⟩ := sf_loc G hi
    obtain ⟨x, hx⟩ := hj.1 rfl
    rw [hw] at hx
    have hx' : w = some (.int x) := hx
    subst hx'
    have hw' : lo[i]? = some (some (.int x)) := hw
    have vx : sf_val (lo, st, u, hp) (3 * i + 1) = some x.toInt := by
      unfold sf_val
      rw [decide_eq_false (show ¬ (3 * i + 1) % 3 = 0 by omega), decide_eq_true (show (3 * i + 1) % 3 = 1 by omega), show (3 * i + 1) / 3 = i by omega]
      show sf_iv (lo[i]?).join = _
      rw [hw']
      rfl
    have hF : sf_S (sf_val (lo, st, u, hp)) F := G.2.2.2.1
    have rx := sf_i_ok (sf_val_range _) hF vx
    have vn : sf_val (lo.set i (some (.int (x + n))), st, u, hp) (3 * i + 1) = some (x + n).toInt := sf_val_at w2
    refine ⟨(lo.set i (some (.int (x + n))), st, u, hp), t, ?_, ⟨G.1, sf_setloc G.2.1 sf_j0, G.2.2.1, sf_S_app (sf_k_ok (fun q hq => sf_val_loc hq) hF) (sf_rs_ok vn fun hg => ?_), G.2.2.2.2⟩, sf_fr_rf⟩
    · rw [ab_iinc]
      dsimp only
      rw [hw']
      show cond (ab_fr lo i) _ _ = _
      rw [show ab_fr lo i = true from w1]
      rfl
    · unfold sf_bg at hg
      simp only [Bool.and_eq_true, decide_eq_true_eq] at hg
      have r1 : (sf_i F (3 * i + 1)).1 ≤ x.toInt := rx.1
      have r2 : x.toInt ≤ (sf_i F (3 * i + 1)).2 := rx.2
      have g1 : -2147483648 ≤ (sf_i F (3 * i + 1)).1 + n.toInt := hg.1.1
      have g2 : (sf_i F (3 * i + 1)).2 + n.toInt ≤ 2147483647 := hg.1.2
      rw [n_add (by omega) (by omega)]
      constructor
      · show (sf_i F (3 * i + 1)).1 + n.toInt ≤ _
        omega
      · show _ ≤ (sf_i F (3 * i + 1)).2 + n.toInt
        omega
  · cases h
/-- a table's jump: each number its target, and the rest -/
def sf_t1 (d : sf_D) (jt : List sf_J) (j : Nat) (x : Int) : List (Nat × sf_D) := cond (decide ((sf_i d.2.2.1 (3 * jt.length)).1 ≤ x) && decide (x ≤ (sf_i d.2.2.1 (3 * jt.length)).2))
  [(j, (d.1, jt, sf_k (sf_bS jt.length) (d.2.2.1 ++ sf_rf d.2.2.1 3 (3 * jt.length) x x) ++ [], d.2.2.2))] []
def so_tab (lo : Int) (ts : List Nat) (df : Nat) (d : sf_D) : Option (List (Nat × sf_D)) := match d.2.1 with
  | (0, _, _) :: jt => some ((List.range ts.length).flatMap (fun (k : Nat) => sf_t1 d jt (ts.getD k df) (lo + (k : Int))) ++ cond (decide (lo ≤ (sf_i d.2.2.1 (3 * jt.length)).1) && decide ((sf_i d.2.2.1 (3 * jt.length)).2 < lo + (ts.length : Int))) [] [(df, (d.1, jt, sf_k (sf_bS jt.length) d.2.2.1 ++ [], d.2.2.2))])
  | _ => none
theorem so_tab_ok {W : List (Nat × Nat × Nat)} {lo : Int} {ts : List Nat} {df : Nat} {d : sf_D} {out : List (Nat × sf_D)} (h : so_tab lo ts df d = some out) : sf_br W (ab_tab lo ts df) d out := by
  obtain ⟨d1, d2, F, U, V⟩ := d
  unfold so_tab at h
  dsimp only at h
  split at h
  · rename_i a b jt
    obtain rfl := Option.some.inj h
    intro t s G
    obtain ⟨lc, stk, u, hp⟩ := s
    obtain ⟨v, st, rfl, hl, h1⟩ := sf_pop1 G
    obtain ⟨x, hx⟩ := h1.1 rfl
    cases hx
    have vx : sf_val (lc, .int x :: st, u, hp) (3 * jt.length) = some x.toInt := sf_val_py hl
    have hF : sf_S (sf_val (lc, .int x :: st, u, hp)) F := G.2.2.2.1
    have rx := sf_i_ok (sf_val_range _) hF vx
    have dflt : ∀ j, j = df → ¬ (lo ≤ x.toInt ∧ x.toInt < lo + (ts.length : Int)) → ∃ (j' : Nat) (s' : ab_S) (t' : Nat → Nat) (d' : sf_D), some (.inl (j, lc, st, u, hp) : (Nat × ab_S) ⊕ ab_O) = some (.inl (j', s')) ∧ (j', d') ∈ ((List.range ts.length).flatMap (fun (k : Nat) => sf_t1 (d1, (0, a, b) :: jt, F, U, V) jt (ts.getD k df) (lo + (k : Int))) ++ cond (decide (lo ≤ (sf_i F (3 * jt.length)).1) && decide ((sf_i F (3 * jt.length)).2 < lo + (ts.length : Int))) [] [(df, (d1, jt, sf_k (sf_bS jt.length) F ++ [], U, V))]) ∧ sf_g t' d' s' ∧ sf_fr W t hp t' s'.2.2.2 := by
      rintro j rfl hno
      have hc : (decide (lo ≤ (sf_i F (3 * jt.length)).1) && decide ((sf_i F (3 * jt.length)).2 < lo + (ts.length : Int))) = false := by
        cases e : (decide (lo ≤ (sf_i F (3 * jt.length)).1) && decide ((sf_i F (3 * jt.length)).2 < lo + (ts.length : Int))) with
        | false => rfl
        | true =>
          rw [Bool.and_eq_true, decide_eq_true_eq, decide_eq_true_eq] at e
          exact absurd ⟨Int.le_trans e.1 rx.1, Int.lt_of_le_of_lt rx.2 e.2⟩ hno
      rw [hc]
      exact ⟨j, _, t, _, rfl, List.mem_append_right _ List.mem_cons_self, sf_dr1 G hl, sf_fr_rf⟩
    show ∃ (j' : Nat) (s' : ab_S) (t' : Nat → Nat) (d' : sf_D), some (.inl (cond (decide (x.toInt < lo)) df ((ts[(x.toInt - lo).toNat]?).getD df), lc, st, u, hp) : (Nat × ab_S) ⊕ ab_O) = some (.inl (j', s')) ∧ _ ∧ _ ∧ _
    by_cases c : x.toInt < lo
    · rw [decide_eq_true c]
      exact dflt _ rfl (by omega)
    · rw [decide_eq_false c]
      by_cases ck : (x.toInt - lo).toNat < ts.length
      · have G1 := sf_dr1 (sf_add G (sf_rf_ok hF 3 _ _ _ _ vx (Int.le_refl _) (Int.le_refl _))) hl
        refine ⟨_, _, t, _, rfl, List.mem_append_left _ (List.mem_flatMap.mpr ⟨(x.toInt - lo).toNat, List.mem_range.mpr ck, ?_⟩), G1, sf_fr_rf⟩
        unfold sf_t1
        have e : lo + ((x.toInt - lo).toNat : Int) = x.toInt := by omega
        rw [e, decide_eq_true (show (sf_i F (3 * jt.length)).1 ≤ x.toInt from rx.1), decide_eq_true (show x.toInt ≤ (sf_i F (3 * jt.length)).2 from rx.2)]
        exact List.mem_cons_self
      · refine dflt _ ?_ (by omega)
        show (ts[(x.toInt - lo).toNat]?).getD df = df
        rw [List.getElem?_eq_none (Nat.not_lt.mp ck)]
        rfl
  · cases h
