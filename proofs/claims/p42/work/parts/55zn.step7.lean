/-! ===== steps over what is known: writes, arrays ===== -/
theorem sf_val_sh {t : Nat → Nat} {lo : List (Option Value)} {xs st : List Value} {u : Nat × Nat} {hp hp' : ab_H} {g i0 i1 n p : Nat} (H : sf_h t hp) (hl : st.length = n) (hr : ∀ b i, b < hp.1 → (t b = g → ¬ (i0 ≤ i ∧ i ≤ i1)) → sf_rd hp' b i = sf_rd hp b i) (hb : (sf_bS n p || sf_bH g i0 i1 p) = false) : sf_val (lo, st, u, hp') p = sf_val (lo, xs ++ st, u, hp) p := by
  rw [Bool.or_eq_false_iff] at hb
  rw [sf_val_hp H hr hb.2]
  exact sf_val_stk (lo := lo) (xs := xs) (ys := []) (st := st) (r := (u, hp)) (p := p) (by rw [hl]; exact hb.1)
def sf_cv (W : List (Nat × Nat × Nat)) (g i0 i1 : Nat) : Bool := W.any (fun w => decide (w.1 = g) && decide (w.2.1 ≤ i0) && decide (i1 ≤ w.2.2)) && decide (i0 ≤ i1)
theorem sf_cv_ok {W : List (Nat × Nat × Nat)} {g i0 i1 : Nat} (h : sf_cv W g i0 i1 = true) : (∀ i, i0 ≤ i → i ≤ i1 → sf_inW W g i = true) ∧ i0 ≤ i1 := by
  unfold sf_cv at h
  rw [Bool.and_eq_true, decide_eq_true_eq] at h
  refine ⟨fun i h1 h2 => ?_, h.2⟩
  obtain ⟨w, hw, e⟩ := List.any_eq_true.mp h.1
  simp only [Bool.and_eq_true, decide_eq_true_eq] at e
  refine List.any_eq_true.mpr ⟨w, hw, ?_⟩
  simp only [Bool.and_eq_true, decide_eq_true_eq]
  exact ⟨⟨e.1.1, Nat.le_trans e.1.2 h1⟩, Nat.le_trans h2 e.2⟩
/-- what is known after a number came from the stack's place p to the heap -/
def sf_wf (b : Bool) (p g i0 i1 n : Nat) (F : List sf_F) : List sf_F := cond (b && decide (i0 = i1) && sf_un g i0) (sf_rk p (sf_lp g i0) (fun q => sf_bS n q || sf_bH g i0 i1 q) F ++ sf_rs (sf_lp g i0) (sf_i F p)) (sf_k (fun q => sf_bS n q || sf_bH g i0 i1 q) F)
theorem sf_wf_ok {t : Nat → Nat} {lo : List (Option Value)} {xs st : List Value} {u : Nat × Nat} {hp hp' : ab_H} {g i0 i1 n p a : Nat} {b : Bool} {F : List sf_F} (H : sf_h t hp) (H' : sf_h t hp') (hn : hp'.1 = hp.1) (ha : a < hp.1) (ht : t a = g) (hl : st.length = n) (hr : ∀ b i, b < hp.1 → (t b = g → ¬ (i0 ≤ i ∧ i ≤ i1)) → sf_rd hp' b i = sf_rd hp b i) (hF : sf_S (sf_val (lo, xs ++ st, u, hp)) F)
    (hx : b = true → ∃ x : Int32, sf_val (lo, xs ++ st, u, hp) p = some x.toInt ∧ (i0 = i1 → sf_rd hp' a i0 = some x.toInt)) : sf_S (sf_val (lo, st, u, hp')) (sf_wf b p g i0 i1 n F) := by
  unfold sf_wf
  cases hc : (b && decide (i0 = i1) && sf_un g i0) with
  | false => exact sf_k_ok (fun q hq => sf_val_sh H hl hr hq) hF
  | true =>
    simp only [Bool.and_eq_true, decide_eq_true_eq] at hc
    obtain ⟨x, h1, h2⟩ := hx hc.1.1
    have vn : sf_val (lo, st, u, hp') (sf_lp g i0) = some x.toInt := (sf_val_lp H' (by rw [hn]; exact ha) ht hc.2).trans (h2 hc.1.2)
    exact sf_S_app (sf_rk_ok (vn.trans h1.symm) (fun q hq => sf_val_sh H hl hr hq) hF) (sf_rs_ok vn fun _ => sf_i_ok (sf_val_range _) hF h1)
def sf_fk (kd : Nat) (j : sf_J) (i : Int × Int) : Bool := (decide (kd = 0) && decide (j.1 = 0)) || (decide (kd = 3) && decide (j.1 = 0) && decide (0 ≤ i.1) && decide (i.2 ≤ 1)) || (decide (kd = 1) && decide (j.1 = 2)) || (decide (kd = 2) && decide (j.1 = 1))
theorem sf_fk_ok {t : Nat → Nat} {n kd : Nat} {j : sf_J} {i : Int × Int} {v : Value} (h : sf_fk kd j i = true) (hj : sf_j t n j (some v)) (hi : ∀ x, v = .int x → i.1 ≤ x.toInt ∧ x.toInt ≤ i.2) : ab_fit kd v = true := by
  unfold sf_fk at h
  simp only [Bool.or_eq_true, Bool.and_eq_true, decide_eq_true_eq] at h
  rcases h with ((h | h) | h) | h
  · obtain ⟨rfl, h⟩ := h
    obtain ⟨x, hx⟩ := hj.1 h
    cases hx
    rfl
  · obtain ⟨⟨⟨rfl, h1⟩, h2⟩, h3⟩ := h
    obtain ⟨x, hx⟩ := hj.1 h1
    cases hx
    have := hi x rfl
    have e : x = 0 ∨ x = 1 := by
      rcases (show x.toInt = 0 ∨ x.toInt = 1 by omega) with e | e
      · exact .inl (Int32.toInt_inj.mp e)
      · exact .inr (Int32.toInt_inj.mp e)
    rcases e with rfl | rfl <;> rfl
  · obtain ⟨rfl, h⟩ := h
    obtain ⟨x, hx⟩ := hj.2.2.1 h
    cases hx
    rfl
  · obtain ⟨rfl, h⟩ := h
    rcases hj.2.1 h with ⟨q, hx, -⟩ | ⟨-, hx⟩
    · cases hx
      rfl
    · cases hx
      rfl
def so_putf (W : List (Nat × Nat × Nat)) (ci i kd : Nat) (d : sf_D) : Option sf_D := match d.2.1 with
  | j :: (1, g, n) :: jt => match (sf_C g)[i]? with
    | some k => cond (decide (sf_o g = ci) && decide (g < 100) && decide (n ≠ 1) && sf_ft k j (sf_i d.2.2.1 (3 * (jt.length + 1))) && sf_fk kd j (sf_i d.2.2.1 (3 * (jt.length + 1))) && sf_cv W g i i && (decide (g ≠ 5) || decide (2 ≤ i)) && (sf_mk W || decide (g ≠ 11) || (decide (i ≠ 4) && decide (i ≠ 11))))
        (some (d.1, jt, sf_wf (decide (j.1 = 0)) (3 * (jt.length + 1)) g i i jt.length d.2.2.1, d.2.2.2)) none
    | none => none
  | _ => none
theorem so_putf_ok {W : List (Nat × Nat × Nat)} {ci i kd : Nat} {d d' : sf_D} (h : so_putf W ci i kd d = some d') : sf_nx W (ab_putf ci i kd) d d' := by
  obtain ⟨d1, d2, F, U, V⟩ := d
  unfold so_putf at h
  dsimp only at h
  split at h
  · rename_i j g n jt
    split at h
    · rename_i k hk
      obtain ⟨hc, h⟩ := ab_cond h
      subst h
      simp only [Bool.and_eq_true, Bool.or_eq_true, decide_eq_true_eq] at hc
      obtain ⟨⟨⟨⟨⟨⟨⟨rfl, hc2⟩, hc3⟩, hc4⟩, hc5⟩, hc6⟩, hc7⟩, hc8⟩ := hc
      intro t s G
      obtain ⟨lo, stk, u, hp⟩ := s
      obtain ⟨v, w, st, rfl, hl, h1, h2⟩ := sf_pop2 G
      have hF : sf_S (sf_val (lo, v :: w :: st, u, hp)) F := G.2.2.2.1
      have vv : sf_val (lo, v :: w :: st, u, hp) (3 * (jt.length + 1)) = sf_iv (some v) := sf_val_py1 hl
      have hi : ∀ x, v = .int x → (sf_i F (3 * (jt.length + 1))).1 ≤ x.toInt ∧ x.toInt ≤ (sf_i F (3 * (jt.length + 1))).2 := fun x e => by
        subst e
        exact sf_i_ok (sf_val_range _) hF vv
      rcases h2.2.1 rfl with ⟨a, hx, ha, hta⟩ | ⟨hx, -⟩
      · cases hx
        have H : sf_h t hp := G.1
        have ha' : a < hp.1 := ha
        have hta' : t a = g := hta
        obtain ⟨fs, w, e1, e2, e3⟩ := sf_get H ha' hta' hc2 hk
        have hilt : i < fs.length := (List.getElem?_eq_some_iff.mp e2).1
        have hv : sf_v t hp.1 k v := sf_ft_ok hc4 h1 hi
        have hr : ∀ b q, b < hp.1 → (t b = g → ¬ (i ≤ q ∧ q ≤ i)) → sf_rd (ab_up hp a (.inr (sf_o g, fs.set i v))) b q = sf_rd hp b q := by
          intro b q _ hq
          by_cases e : b = a
          · subst e
            rw [sf_rd_up_obj, List.getElem?_set_ne (by have := hq hta'; omega)]
            unfold sf_rd
            rw [e1]
          · exact sf_rd_up_ne e
        have H' := sf_put H ha' hta' e1 hk hv (sf_I_up H (i0 := i) (i1 := i) (by rw [hta']; unfold sf_sp; rw [decide_eq_false (show ¬ g = 103 by omega), decide_eq_false (show ¬ g = 104 by omega), decide_eq_false (show ¬ g = 106 by omega), decide_eq_false (show ¬ g = 107 by omega), decide_eq_false (show ¬ g = 145 by omega), decide_eq_false (show ¬ g = 132 by omega)]; rfl) (fun q hq => hr a q ha' (fun _ => hq)) (fun h5 => by
          have h2 : 2 ≤ i := hc7.resolve_left (fun e => e (hta'.symm.trans h5))
          unfold sf_rr
          rw [ab_up_eq, e1]
          dsimp only
          rw [List.getElem?_set_ne (by omega), List.getElem?_set_ne (by omega)]
          exact ⟨rfl, rfl⟩))
        obtain ⟨cv1, cv2⟩ := sf_cv_ok hc6
        refine ⟨(lo, st, u, ab_up hp a (.inr (sf_o g, fs.set i v))), t, ?_, ⟨H', G.2.1, (sf_dr2 G hl).2.2.1, ?_, G.2.2.2.2⟩, sf_fr_up (i0 := i) (i1 := i) (by rw [hta']; exact cv1) cv2 (fun q hq => hr a q ha' (fun _ => hq)) ?_⟩
        · show cond (decide (a < hp.1) && ab_fit kd v) _ _ = _
          rw [decide_eq_true ha', sf_fk_ok hc5 h1 hi]
          show (match hp.2 a with
            | .inr o => cond (o.1 == sf_o g && decide (i < o.2.length)) (some (lo, st, u, ab_up hp a (.inr (sf_o g, o.2.set i v)))) none
            | _ => none) = _
          rw [e1]
          show cond (sf_o g == sf_o g && decide (i < fs.length)) _ _ = _
          rw [beq_self_eq_true, decide_eq_true hilt]
          rfl
        · refine sf_wf_ok (xs := [v, .ref a]) H H' rfl ha' hta' hl hr hF fun hb => ?_
          rw [decide_eq_true_eq] at hb
          obtain ⟨x, hx⟩ := h1.1 hb
          cases hx
          refine ⟨x, vv, fun _ => ?_⟩
          rw [sf_rd_up_obj, List.getElem?_set_self hilt]
          rfl
        · rcases hc8 with (h | h) | h
          · exact Or.inl h
          · exact Or.inr (Or.inl fun e => h (by rw [← hta', e]; exact (H.2.2.1 11 69 rfl).2))
          · exact Or.inr (Or.inr ⟨by omega, by omega⟩)
      · exact absurd hx hc3
    · cases h
  · cases h
/-- the least range about the kinds of the elements lo .. hi -/
def sf_hu : List (Nat × sf_K) → Nat → Nat → Int × Int
  | [], _, _ => (2147483647, -2147483648)
  | q :: r, lo, hi => cond (decide (lo < q.1)) (cond (decide (hi < q.1)) (q.2.2.1, q.2.2.2) (min q.2.2.1 (sf_hu r q.1 hi).1, max q.2.2.2 (sf_hu r q.1 hi).2)) (sf_hu r lo hi)
theorem sf_hu_ok {t : Nat → Nat} {n : Nat} {x : Int32} : ∀ {l : List (Nat × sf_K)} {lo hi j : Nat}, lo ≤ j → j ≤ hi → sf_v t n (sf_e l j) (.int x) → (sf_hu l lo hi).1 ≤ x.toInt ∧ x.toInt ≤ (sf_hu l lo hi).2
  | [], lo, hi, j, _, _, h => absurd h.1 (by show (9 : Nat) ≠ 0; decide)
  | q :: r, lo, hi, j, h1, h2, h => by
    rw [sf_e] at h
    rw [sf_hu]
    by_cases c1 : lo < q.1
    · rw [decide_eq_true c1]
      by_cases c2 : hi < q.1
      · rw [decide_eq_true c2]
        rw [decide_eq_true (Nat.lt_of_le_of_lt h2 c2)] at h
        exact ⟨h.2.1, h.2.2⟩
      · rw [decide_eq_false c2]
        by_cases c3 : j < q.1
        · rw [decide_eq_true c3] at h
          have a1 : q.2.2.1 ≤ x.toInt := h.2.1
          have a2 : x.toInt ≤ q.2.2.2 := h.2.2
          exact ⟨by show min _ _ ≤ _; omega, by show _ ≤ max _ _; omega⟩
        · rw [decide_eq_false c3] at h
          have ih := sf_hu_ok (l := r) (lo := q.1) (hi := hi) (Nat.not_lt.mp c3) h2 h
          exact ⟨by show min _ _ ≤ _; omega, by show _ ≤ max _ _; omega⟩
    · rw [decide_eq_false c1]
      rw [decide_eq_false (show ¬ j < q.1 by omega)] at h
      exact sf_hu_ok h1 h2 h
/-- numbers of a range may lie in all elements lo .. hi -/
def sf_al : List (Nat × sf_K) → Nat → Nat → Int × Int → Bool
  | [], _, _, _ => false
  | q :: r, lo, hi, i => cond (decide (lo < q.1)) (decide (q.2.1 = 0) && decide (q.2.2.1 ≤ i.1) && decide (i.2 ≤ q.2.2.2) && cond (decide (hi < q.1)) true (sf_al r q.1 hi i)) (sf_al r lo hi i)
theorem sf_al_ok {t : Nat → Nat} {n : Nat} {x : Int32} {i : Int × Int} (hx : i.1 ≤ x.toInt ∧ x.toInt ≤ i.2) : ∀ {l : List (Nat × sf_K)} {lo hi j : Nat}, lo ≤ j → j ≤ hi → sf_al l lo hi i = true → sf_v t n (sf_e l j) (.int x)
  | [], lo, hi, j, _, _, h => by cases h
  | q :: r, lo, hi, j, h1, h2, h => by
    rw [sf_al] at h
    rw [sf_e]
    by_cases c1 : lo < q.1
    · rw [decide_eq_true c1] at h
      replace h : (decide (q.2.1 = 0) && decide (q.2.2.1 ≤ i.1) && decide (i.2 ≤ q.2.2.2) && cond (decide (hi < q.1)) true (sf_al r q.1 hi i)) = true := h
      rw [Bool.and_eq_true, Bool.and_eq_true, Bool.and_eq_true, decide_eq_true_eq, decide_eq_true_eq, decide_eq_true_eq] at h
      by_cases c3 : j < q.1
      · rw [decide_eq_true c3]
        exact ⟨h.1.1.1, Int.le_trans h.1.1.2 hx.1, Int.le_trans hx.2 h.1.2⟩
      · rw [decide_eq_false c3]
        have h4 := h.2
        rw [decide_eq_false (show ¬ hi < q.1 by omega)] at h4
        exact sf_al_ok hx (Nat.not_lt.mp c3) h2 h4
    · rw [decide_eq_false c1] at h
      rw [decide_eq_false (show ¬ j < q.1 by omega)]
      exact sf_al_ok hx h1 h2 h
def sf_ok0 (g kd : Nat) (n : Nat) : Bool := decide (n ≠ 1) && decide (100 ≤ g) && decide ((sf_A g).1 = kd) && decide (kd < 4) && decide (kd ≠ 2)
def sf_ix (g : Nat) (i : Int × Int) : Bool := decide (0 ≤ i.1) && decide (i.2 < ((sf_A g).2.1 : Int))
def so_ald (kd : Nat) (d : sf_D) : Option sf_D := match d.2.1 with
  | (0, _, _) :: (1, g, n) :: jt => cond (sf_ok0 g kd n && sf_ix g (sf_i d.2.2.1 (3 * (jt.length + 1))))
      (some (d.1, (0, 0, 0) :: jt, sf_k (sf_bS jt.length) d.2.2.1 ++ ((1, 3 * jt.length, 0, (sf_hu (sf_A g).2.2 (sf_i d.2.2.1 (3 * (jt.length + 1))).1.toNat (sf_i d.2.2.1 (3 * (jt.length + 1))).2.toNat).1, (sf_hu (sf_A g).2.2 (sf_i d.2.2.1 (3 * (jt.length + 1))).1.toNat (sf_i d.2.2.1 (3 * (jt.length + 1))).2.toNat).2, 0) ::
        cond (decide ((sf_i d.2.2.1 (3 * (jt.length + 1))).1 = (sf_i d.2.2.1 (3 * (jt.length + 1))).2) && sf_un g (sf_i d.2.2.1 (3 * (jt.length + 1))).1.toNat) [(2, 3 * jt.length, sf_lp g (sf_i d.2.2.1 (3 * (jt.length + 1))).1.toNat, 1, 0, 0)] []), d.2.2.2)) none
  | _ => none
theorem sf_rd_arr {hp : ab_H} {a kd len i : Nat} {f : Nat → Int32} (h : hp.2 a = .inl (kd, len, .inl f)) (hi : i < len) : sf_rd hp a i = some (f i).toInt := by
  unfold sf_rd
  rw [h]
  show cond (decide (i < len)) _ _ = _
  rw [decide_eq_true hi]
  rfl
theorem so_ald_ok {W : List (Nat × Nat × Nat)} {kd : Nat} {d d' : sf_D} (h : so_ald kd d = some d') : sf_nx W (ab_ald kd) d d' := by
  obtain ⟨d1, d2, F, U, V⟩ := d
  unfold so_ald at h
  dsimp only at h
  split at h
  · rename_i a0 b0 g n jt
    obtain ⟨hc, h⟩ := ab_cond h
    subst h
    unfold sf_ok0 sf_ix at hc
    simp only [Bool.and_eq_true, decide_eq_true_eq] at hc
    obtain ⟨⟨⟨⟨⟨hn, hg⟩, rfl⟩, hk4⟩, hk2⟩, hx0, hx1⟩ := hc
    intro t s G
    obtain ⟨lo, stk, u, hp⟩ := s
    obtain ⟨v, w, st, rfl, hl, h1, h2⟩ := sf_pop2 G
    obtain ⟨x, hx⟩ := h1.1 rfl
    cases hx
    have hF : sf_S (sf_val (lo, .int x :: w :: st, u, hp)) F := G.2.2.2.1
    have vx : sf_val (lo, .int x :: w :: st, u, hp) (3 * (jt.length + 1)) = some x.toInt := sf_val_py1 hl
    have rx := sf_i_ok (sf_val_range _) hF vx
    rcases h2.2.1 rfl with ⟨a, hq, ha, hta⟩ | ⟨hq, -⟩
    · cases hq
      have H : sf_h t hp := G.1
      have ha' : a < hp.1 := ha
      have hta' : t a = g := hta
      obtain ⟨f, e1, e2⟩ := sf_arr H ha' hta' hg hk4 hk2
      have x0 : 0 ≤ x.toInt := Int.le_trans hx0 rx.1
      have x1 : x.toInt < ((sf_A g).2.1 : Int) := Int.lt_of_le_of_lt rx.2 hx1
      have hin := n_in x0 x1
      have hidx := n_idx x0
      have hj : x.toNatClampNeg < (sf_A g).2.1 := by omega
      have vr : sf_val (lo, .int (f x.toNatClampNeg) :: st, u, hp) (3 * jt.length) = some (f x.toNatClampNeg).toInt := sf_val_py hl
      have hh := sf_hu_ok (lo := (sf_i F (3 * (jt.length + 1))).1.toNat) (hi := (sf_i F (3 * (jt.length + 1))).2.toNat) (by have := rx.1; omega) (by have := rx.2; omega) (e2 _ hj)
      refine ⟨(lo, .int (f x.toNatClampNeg) :: st, u, hp), t, ?_, sf_two G hl sf_j0 (sf_S_cons (sf_s1 vr hh.1 hh.2) ?_), sf_fr_rf⟩
      · simp [ab_ald, ha', e1, hin]
      · cases hu : (decide ((sf_i F (3 * (jt.length + 1))).1 = (sf_i F (3 * (jt.length + 1))).2) && sf_un g (sf_i F (3 * (jt.length + 1))).1.toNat) with
        | false => exact sf_S_nil
        | true =>
          rw [Bool.and_eq_true, decide_eq_true_eq] at hu
          refine sf_S_cons (sf_s2 vr (y := (f x.toNatClampNeg).toInt) ?_ (by omega)) sf_S_nil
          have ei : (sf_i F (3 * (jt.length + 1))).1.toNat = x.toNatClampNeg := by
            have r1 := rx.1
            have r2 := rx.2
            have := hu.1
            omega
          rw [ei] at hu ⊢
          rw [sf_val_lp H ha' hta' hu.2]
          exact sf_rd_arr e1 hj
    · exact absurd hq hn
  · cases h
