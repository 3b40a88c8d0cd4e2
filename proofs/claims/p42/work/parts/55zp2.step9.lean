/-! ===== steps over what is known: arraycopy, arrays of references ===== -/
theorem sf_pop5 {t : Nat → Nat} {d1 jt : List sf_J} {j k m n o : sf_J} {F : List sf_F} {U V : Nat} {lo : List (Option Value)} {stk : List Value} {r : (Nat × Nat) × ab_H} (G : sf_g t (d1, j :: k :: m :: n :: o :: jt, F, U, V) (lo, stk, r)) : ∃ v w z x y st, stk = v :: w :: z :: x :: y :: st ∧ st.length = jt.length ∧ sf_j t r.2.1 j (some v) ∧ sf_j t r.2.1 k (some w) ∧ sf_j t r.2.1 m (some z) ∧ sf_j t r.2.1 n (some x) ∧ sf_j t r.2.1 o (some y) := by
  obtain ⟨v, w, z, st, rfl, hl, hj, hk, hm⟩ := sf_pop3 G
  cases st with
  | nil => cases hl
  | cons x st =>
    cases st with
    | nil => cases hl
    | cons y st => exact ⟨v, w, z, x, y, st, rfl, Nat.succ.inj (Nat.succ.inj hl), hj, hk, hm, G.2.2.1.2 3 n rfl, G.2.2.1.2 4 o rfl⟩
theorem sf_dr5 {t : Nat → Nat} {d1 jt : List sf_J} {j k m n o : sf_J} {F : List sf_F} {U V : Nat} {lo : List (Option Value)} {v w z x y : Value} {st : List Value} {u : Nat × Nat} {hp : ab_H} (G : sf_g t (d1, j :: k :: m :: n :: o :: jt, F, U, V) (lo, v :: w :: z :: x :: y :: st, u, hp)) (hl : st.length = jt.length) : sf_g t (d1, jt, sf_k (sf_bS jt.length) F ++ [], U, V) (lo, st, u, hp) := by
  have := sf_stk (d := (d1, [], [], 0, 0)) (xs := [v, w, z, x, y]) (ys := []) (js := [j, k, m, n, o]) (js' := []) (A := []) G rfl rfl sf_none sf_S_nil
  rw [hl] at this
  exact this
theorem sf_const {F : List sf_F} {v : Nat → Option Int} {p : Nat} {x : Int32} {c : Int} (hv : ∀ q y, v q = some y → -2147483648 ≤ y ∧ y ≤ 2147483647) (hF : sf_S v F) (hx : v p = some x.toInt) (h : sf_i F p = (c, c)) : x.toInt = c := by
  have := sf_i_ok hv hF hx
  rw [h] at this
  exact Int.le_antisymm this.2 this.1
def so_copyC (W : List (Nat × Nat × Nat)) (g n g0 n0 U : Nat) (F : List sf_F) (jt : List sf_J) : Bool := decide (n ≠ 1) && decide (n0 ≠ 1) && decide (sf_A g0 = sf_A g) && decide (100 ≤ g0) && decide (100 ≤ g) && (decide ((sf_A g).1 = 1) || decide ((sf_A g).1 = 2)) && decide (sf_i F (3 * (jt.length + 4)) = (((sf_A g).2.1 : Int), ((sf_A g).2.1 : Int))) &&
        decide (sf_i F (3 * (jt.length + 3)) = (0, 0)) && decide (sf_i F (3 * (jt.length + 1)) = (0, 0)) && sf_cok jt && decide (sf_cat jt ≤ 8) && decide (U = 0) && sf_cv W g 0 ((sf_A g).2.1 - 1) && !sf_sp g ((sf_A g).2.1 - 1)
def so_copy (W : List (Nat × Nat × Nat)) (d : sf_D) : Option sf_D := match d.2.1 with
  | j1 :: j2 :: j3 :: j4 :: j5 :: jt => cond (decide (j1.1 = 0) && decide (j2.1 = 0) && decide (j3.1 = 1) && decide (j4.1 = 0) && decide (j5.1 = 1) && so_copyC W j3.2.1 j3.2.2 j5.2.1 j5.2.2 d.2.2.2.1 d.2.2.1 jt)
      (some (d.1, jt, sf_k (fun q => sf_bS jt.length q || sf_bH j3.2.1 0 ((sf_A j3.2.1).2.1 - 1) q) d.2.2.1, d.2.2.2)) none
  | _ => none
theorem cp_i {lo : List (Option Value)} {st : List Value} {u : Nat × Nat} {hp : ab_H} {a b len : Nat} {f f' : Nat → Int32} {c dp sp : Int32} (ha : a < hp.1) (hb : b < hp.1) (hcat : ab_cats st ≤ 8) (hsp : ¬ sp < 0) (hdp : ¬ dp < 0) (hc : ¬ c < 0) (hu : u.1 = 0) (e1 : hp.2 b = .inl (1, len, .inl f)) (e3 : hp.2 a = .inl (1, len, .inl f')) (s0 : sp.toNatClampNeg = 0) (d0 : dp.toNatClampNeg = 0) (c0 : c.toNatClampNeg = len) : ab_copy (lo, .int c :: .int dp :: .ref a :: .int sp :: .ref b :: st, u, hp) = some (lo, st, u, ab_up hp a (.inl (1, len, .inl (va_cpy f f' 0 0 len)))) := by
  simp [ab_copy, ha, hb, hcat, hsp, hdp, hc, hu, e1, e3, s0, d0, c0]
theorem cp_l {lo : List (Option Value)} {st : List Value} {u : Nat × Nat} {hp : ab_H} {a b len : Nat} {f f' : Nat → Int64} {c dp sp : Int32} (ha : a < hp.1) (hb : b < hp.1) (hcat : ab_cats st ≤ 8) (hsp : ¬ sp < 0) (hdp : ¬ dp < 0) (hc : ¬ c < 0) (hu : u.1 = 0) (e1 : hp.2 b = .inl (2, len, .inr (.inl f))) (e3 : hp.2 a = .inl (2, len, .inr (.inl f'))) (s0 : sp.toNatClampNeg = 0) (d0 : dp.toNatClampNeg = 0) (c0 : c.toNatClampNeg = len) : ab_copy (lo, .int c :: .int dp :: .ref a :: .int sp :: .ref b :: st, u, hp) = some (lo, st, u, ab_up hp a (.inl (2, len, .inr (.inl (va_cpy f f' 0 0 len))))) := by
  simp [ab_copy, ha, hb, hcat, hsp, hdp, hc, hu, e1, e3, s0, d0, c0]
theorem n_nn {x : Int32} (h : 0 ≤ x.toInt) : ¬ x < 0 := fun e => by
  have := Int32.lt_iff_toInt_lt.mp e
  have e0 : (0 : Int32).toInt = 0 := rfl
  omega
theorem n_z {x : Int32} (h : x.toInt = 0) : x.toNatClampNeg = 0 := by
  have := n_idx (x := x) (by omega)
  omega
theorem sf_val_p14 {lo : List (Option Value)} {a b c d e : Value} {st : List Value} {r : (Nat × Nat) × ab_H} {n : Nat} (h : st.length = n) : sf_val (lo, a :: b :: c :: d :: e :: st, r) (3 * (n + 1)) = sf_iv (some d) := by
  rw [sf_val_k]
  have hlen : (e :: st).length = n + 1 := congrArg (· + 1) h
  have e2 : (a :: b :: c :: d :: e :: st).reverse = (e :: st).reverse ++ [d, c, b, a] := by simp
  rw [e2, List.getElem?_append_right (by rw [List.length_reverse, hlen]; exact Nat.le_refl _), List.length_reverse, hlen, Nat.sub_self]
  rfl
theorem cp_put {t : Nat → Nat} {hp : ab_H} (H : sf_h t hp) {a g : Nat} {f f' : Nat → Int32} (ha : a < hp.1) (ht : t a = g) (hg : 100 ≤ g) (hk : (sf_A g).1 = 1) (hf : ∀ j, j < (sf_A g).2.1 → sf_v t hp.1 (sf_e (sf_A g).2.2 j) (.int (f j))) (hI : sf_IV t (ab_up hp a (.inl (1, (sf_A g).2.1, .inl (va_cpy f f' 0 0 (sf_A g).2.1))))) : sf_h t (ab_up hp a (.inl (1, (sf_A g).2.1, .inl (va_cpy f f' 0 0 (sf_A g).2.1)))) := by
  have h := sf_arr_put H ha ht hg (by rw [hk]; decide) (by rw [hk]; decide) (f := va_cpy f f' 0 0 (sf_A g).2.1) (fun j hj => by
    have e : va_cpy f f' 0 0 (sf_A g).2.1 j = f j := by
      unfold va_cpy
      rw [if_pos ⟨Nat.zero_le _, by rw [Nat.zero_add]; exact hj⟩, Nat.zero_add, Nat.sub_zero]
    rw [e]
    exact hf j hj) (by rw [hk]; exact hI)
  rw [hk] at h
  exact h
theorem cp_rd {t : Nat → Nat} {hp : ab_H} {a g n : Nat} {f f' : Nat → Int32} (ht : t a = g) (e : hp.2 a = .inl (1, n, .inl f')) : ∀ b i, b < hp.1 → (t b = g → ¬ (0 ≤ i ∧ i ≤ n - 1)) → sf_rd (ab_up hp a (.inl (1, n, .inl (va_cpy f f' 0 0 n)))) b i = sf_rd hp b i := by
  intro b i _ hq
  by_cases eb : b = a
  · subst eb
    have hge : ¬ i < n := by
      have := hq ht
      omega
    rw [sf_rd_up_arr, decide_eq_false hge, cond_false]
    unfold sf_rd
    rw [e]
    dsimp only
    rw [decide_eq_false hge, cond_false]
  · exact sf_rd_up_ne eb
theorem so_copy_core {W : List (Nat × Nat × Nat)} {d1 jt : List sf_J} {F : List sf_F} {U V a0 b0 a1 b1 a2 b2 g n g0 n0 : Nat} (hc : so_copyC W g n g0 n0 U F jt = true) : sf_nx W ab_copy (d1, (0, a0, b0) :: (0, a1, b1) :: (1, g, n) :: (0, a2, b2) :: (1, g0, n0) :: jt, F, U, V) (d1, jt, sf_k (fun q => sf_bS jt.length q || sf_bH g 0 ((sf_A g).2.1 - 1) q) F, U, V) := by
  unfold so_copyC at hc
  simp only [Bool.and_eq_true, Bool.or_eq_true, Bool.not_eq_true', decide_eq_true_eq] at hc
  obtain ⟨⟨⟨⟨⟨⟨⟨⟨⟨⟨⟨⟨⟨hn, hn0⟩, hAA⟩, hg0⟩, hg⟩, hkd⟩, hcnt⟩, hdp⟩, hsp⟩, hck⟩, hct⟩, hU⟩, hcv⟩, hspc⟩ := hc
  intro t s G
  obtain ⟨lo, stk, u, hp⟩ := s
  obtain ⟨v, w, z, x, y, st, rfl, hl, h1, h2, h3, h4, h5⟩ := sf_pop5 G
  obtain ⟨c, hc⟩ := h1.1 rfl
  obtain ⟨dp, hd⟩ := h2.1 rfl
  obtain ⟨sp, hs⟩ := h4.1 rfl
  cases hc
  cases hd
  cases hs
  have hF : sf_S (sf_val (lo, .int c :: .int dp :: z :: .int sp :: y :: st, u, hp)) F := G.2.2.2.1
  have vc : sf_val (lo, .int c :: .int dp :: z :: .int sp :: y :: st, u, hp) (3 * (jt.length + 4)) = some c.toInt := sf_val_py (st := .int dp :: z :: .int sp :: y :: st) (congrArg (· + 4) hl)
  have vd : sf_val (lo, .int c :: .int dp :: z :: .int sp :: y :: st, u, hp) (3 * (jt.length + 3)) = some dp.toInt := sf_val_px (st := z :: .int sp :: y :: st) (congrArg (· + 3) hl)
  have vs : sf_val (lo, .int c :: .int dp :: z :: .int sp :: y :: st, u, hp) (3 * (jt.length + 1)) = some sp.toInt := sf_val_p14 hl
  have ec := sf_const (sf_val_range _) hF vc hcnt
  have ed := sf_const (sf_val_range _) hF vd hdp
  have es := sf_const (sf_val_range _) hF vs hsp
  rcases h3.2.1 rfl with ⟨a, hq, ha, hta⟩ | ⟨hq, -⟩
  · cases hq
    rcases h5.2.1 rfl with ⟨b, hq, hb, htb⟩ | ⟨hq, -⟩
    · cases hq
      have H : sf_h t hp := G.1
      have ha' : a < hp.1 := ha
      have hb' : b < hp.1 := hb
      have hta' : t a = g := hta
      have htb' : t b = g0 := htb
      have hcc : c.toNatClampNeg = (sf_A g).2.1 := by
        have := n_idx (x := c) (by omega)
        omega
      have hcat : ab_cats st ≤ 8 := Nat.le_trans (sf_cat_ok hl (sf_stail (js := [(0, a0, b0), (0, a1, b1), (1, g, n), (0, a2, b2), (1, g0, n0)]) (xs := [.int c, .int dp, .ref a, .int sp, .ref b]) G rfl) hck) hct
      have hu0 : u.1 = 0 := by
        have : u.1 ≤ U := G.2.2.2.2.1
        have hU' : U = 0 := hU
        omega
      obtain ⟨cv1, cv2⟩ := sf_cv_ok hcv
      rcases hkd with hk1 | hk2
      · obtain ⟨f, e1, e2⟩ := sf_arr H hb' htb' hg0 (by rw [hAA, hk1]; decide) (by rw [hAA, hk1]; decide)
        rw [hAA] at e1 e2
        obtain ⟨f', e3, -⟩ := sf_arr H ha' hta' hg (by rw [hk1]; decide) (by rw [hk1]; decide)
        rw [hk1] at e1 e3
        have hr := cp_rd (f := f) (t := t) hta' e3
        have H' := cp_put H ha' hta' hg hk1 (f' := f') e2 (sf_I_up H (by rw [hta']; exact hspc) (fun q hq => hr a q ha' (fun _ => hq)) (fun h5 => absurd (hta'.symm.trans h5) (by omega)))
        exact ⟨(lo, st, u, ab_up hp a (.inl (1, (sf_A g).2.1, .inl (va_cpy f f' 0 0 (sf_A g).2.1)))), t, cp_i ha' hb' hcat (n_nn (by omega)) (n_nn (by omega)) (n_nn (by omega)) hu0 e1 e3 (n_z es) (n_z ed) hcc, ⟨H', G.2.1, (sf_dr5 G hl).2.2.1, sf_k_ok (fun q hq => sf_val_sh (xs := [.int c, .int dp, .ref a, .int sp, .ref b]) H hl hr hq) hF, G.2.2.2.2⟩, sf_fr_up (by rw [hta']; exact cv1) cv2 (fun q hq => hr a q ha' (fun _ => hq)) (Or.inr (Or.inl (sf_n69 H hta' hg)))⟩
      · obtain ⟨f, e1⟩ := sf_larr H hb' htb' hg0 (by rw [hAA]; exact hk2)
        rw [hAA] at e1
        obtain ⟨f', e3⟩ := sf_larr H ha' hta' hg hk2
        have hr : ∀ q i, q < hp.1 → (t q = g → ¬ (0 ≤ i ∧ i ≤ (sf_A g).2.1 - 1)) → sf_rd (ab_up hp a (.inl (2, (sf_A g).2.1, .inr (.inl (va_cpy f f' 0 0 (sf_A g).2.1))))) q i = sf_rd hp q i := by
          intro q i _ hq
          by_cases e : q = a
          · subst e
            rw [sf_rd_up_larr]
            unfold sf_rd
            rw [e3]
          · exact sf_rd_up_ne e
        have H' := sf_larr_put H ha' hta' hg hk2 (f := va_cpy f f' 0 0 (sf_A g).2.1) (sf_I_up H (by rw [hta']; exact sf_sp2 hk2) (fun q hq => hr a q ha' (fun _ => hq)) (fun h5 => absurd (hta'.symm.trans h5) (by omega)))
        refine ⟨(lo, st, u, ab_up hp a (.inl (2, (sf_A g).2.1, .inr (.inl (va_cpy f f' 0 0 (sf_A g).2.1))))), t, ?_, ⟨H', G.2.1, (sf_dr5 G hl).2.2.1, sf_k_ok (fun q hq => sf_val_sh (xs := [.int c, .int dp, .ref a, .int sp, .ref b]) H hl hr hq) hF, G.2.2.2.2⟩, sf_fr_up (by rw [hta']; exact cv1) cv2 (fun q hq => hr a q ha' (fun _ => hq)) (Or.inr (Or.inl (sf_n69 H hta' hg)))⟩
        exact cp_l ha' hb' hcat (n_nn (by omega)) (n_nn (by omega)) (n_nn (by omega)) hu0 e1 e3 (n_z es) (n_z ed) hcc
    · exact absurd hq hn0
  · exact absurd hq hn
theorem so_copy_ok {W : List (Nat × Nat × Nat)} {d d' : sf_D} (h : so_copy W d = some d') : sf_nx W ab_copy d d' := by
  obtain ⟨d1, d2, F, U, V⟩ := d
  unfold so_copy at h
  dsimp only at h
  split at h
  · rename_i j1 j2 j3 j4 j5 jt
    obtain ⟨hc, h⟩ := ab_cond h
    subst h
    rw [Bool.and_eq_true, Bool.and_eq_true, Bool.and_eq_true, Bool.and_eq_true, Bool.and_eq_true, decide_eq_true_eq, decide_eq_true_eq, decide_eq_true_eq, decide_eq_true_eq, decide_eq_true_eq] at hc
    obtain ⟨⟨⟨⟨⟨e1, e2⟩, e3⟩, e4⟩, e5⟩, hc⟩ := hc
    obtain ⟨x1, y1, z1⟩ := j1
    obtain ⟨x2, y2, z2⟩ := j2
    obtain ⟨x3, y3, z3⟩ := j3
    obtain ⟨x4, y4, z4⟩ := j4
    obtain ⟨x5, y5, z5⟩ := j5
    have e1' : x1 = 0 := e1
    have e2' : x2 = 0 := e2
    have e3' : x3 = 1 := e3
    have e4' : x4 = 0 := e4
    have e5' : x5 = 1 := e5
    subst e1' e2' e3' e4' e5'
    exact so_copy_core hc
  · cases h
theorem sf_rd_up_rarr {hp : ab_H} {a kd len i : Nat} {f : Nat → Option Nat} : sf_rd (ab_up hp a (.inl (kd, len, .inr (.inr (.inr (.inr f)))))) a i = none := by
  unfold sf_rd
  rw [ab_up_eq]
def so_aast (W : List (Nat × Nat × Nat)) (kd ci : Nat) (d : sf_D) : Option sf_D := match d.2.1 with
  | (1, gv, nv) :: (0, _, _) :: (1, g, n) :: jt => match (sf_A g).2.2 with
    | [(m, k)] => cond (decide (n ≠ 1) && decide (100 ≤ g) && decide ((sf_A g).1 = kd) && decide (4 ≤ kd) && decide (k.1 = 1) && decide (k.2.1 = (gv : Int)) && (decide (nv ≠ 1) || decide (k.2.2 = 1)) && decide (sf_o gv = ci) && decide (gv < 100) && sf_ix g (sf_i d.2.2.1 (3 * (jt.length + 1))) && decide ((sf_A g).2.1 ≤ m) && sf_cv W g 0 0)
      (some (d.1, jt, sf_k (fun q => sf_bS jt.length q || sf_bH g 0 0 q) d.2.2.1, d.2.2.2)) none
    | _ => none
  | _ => none
theorem so_aast_ok {W : List (Nat × Nat × Nat)} {kd ci : Nat} {d d' : sf_D} (h : so_aast W kd ci d = some d') : sf_nx W (ab_aast kd ci) d d' := by
  obtain ⟨d1, d2, F, U, V⟩ := d
  unfold so_aast at h
  dsimp only at h
  split at h
  · rename_i gv nv a1 b1 g n jt
    split at h
    · rename_i m k hseg
      obtain ⟨hc, h⟩ := ab_cond h
      subst h
      unfold sf_ix at hc
      simp only [Bool.and_eq_true, Bool.or_eq_true, decide_eq_true_eq] at hc
      obtain ⟨⟨⟨⟨⟨⟨⟨⟨⟨⟨⟨hn, hg⟩, rfl⟩, hk4⟩, hk1⟩, hk2⟩, hk3⟩, rfl⟩, hci⟩, hx0, hx1⟩, hm⟩, hcv⟩ := hc
      intro t s G
      obtain ⟨lo, stk, u, hp⟩ := s
      obtain ⟨v, w, z, st, rfl, hl, h1, h2, h3⟩ := sf_pop3 G
      obtain ⟨x, hx⟩ := h2.1 rfl
      cases hx
      have hF : sf_S (sf_val (lo, v :: .int x :: z :: st, u, hp)) F := G.2.2.2.1
      have vx : sf_val (lo, v :: .int x :: z :: st, u, hp) (3 * (jt.length + 1)) = some x.toInt := sf_val_p1 hl
      have rx := sf_i_ok (sf_val_range _) hF vx
      rcases h3.2.1 rfl with ⟨a, hq, ha, hta⟩ | ⟨hq, -⟩
      · cases hq
        have H : sf_h t hp := G.1
        have ha' : a < hp.1 := ha
        have hta' : t a = g := hta
        obtain ⟨f, e1, e6, e2⟩ := sf_rarr H ha' hta' hg hk4
        have hin := n_in (Int.le_trans hx0 rx.1) (Int.lt_of_le_of_lt rx.2 hx1)
        have hek : ∀ j, j < (sf_A g).2.1 → sf_e (sf_A g).2.2 j = k := fun j hj => by
          rw [hseg]
          show cond (decide (j < m)) k _ = k
          rw [decide_eq_true (show j < m by omega)]
          rfl
        obtain ⟨cv1, cv2⟩ := sf_cv_ok hcv
        have main : ∀ o : Option Nat, sf_v t hp.1 k (ab_rf o) → ab_aast (sf_A g).1 (sf_o gv) (lo, v :: .int x :: .ref a :: st, u, hp) = some (lo, st, u, ab_up hp a (.inl ((sf_A g).1, (sf_A g).2.1, .inr (.inr (.inr (.inr (va_up f x.toNatClampNeg o))))))) → ∃ (s' : ab_S) (t' : Nat → Nat), ab_aast (sf_A g).1 (sf_o gv) (lo, v :: .int x :: .ref a :: st, u, hp) = some s' ∧ sf_g t' (d1, jt, sf_k (fun q => sf_bS jt.length q || sf_bH g 0 0 q) F, U, V) s' ∧ sf_fr W t hp t' s'.2.2.2 := by
          intro o ho hstep
          have hr : ∀ q i, q < hp.1 → (t q = g → ¬ (0 ≤ i ∧ i ≤ 0)) → sf_rd (ab_up hp a (.inl ((sf_A g).1, (sf_A g).2.1, .inr (.inr (.inr (.inr (va_up f x.toNatClampNeg o))))))) q i = sf_rd hp q i := by
            intro q i _ hq
            by_cases e : q = a
            · subst e
              rw [sf_rd_up_rarr]
              unfold sf_rd
              rw [e1]
            · exact sf_rd_up_ne e
          have H' := sf_rarr_put H ha' hta' hg hk4 e6 (f := va_up f x.toNatClampNeg o) (fun j hj => by
            rw [hek j hj]
            show sf_v t hp.1 k (ab_rf (if j = x.toNatClampNeg then o else f j))
            by_cases e : j = x.toNatClampNeg
            · rw [if_pos e]
              exact ho
            · rw [if_neg e]
              have := e2 j hj
              rw [hek j hj] at this
              exact this) (sf_I_up H (by rw [hta']; exact sf_sp4 hk4) (fun q hq => hr a q ha' (fun _ => hq)) (fun h5 => absurd (hta'.symm.trans h5) (by omega)))
          exact ⟨_, t, hstep, ⟨H', G.2.1, (sf_dr3 G hl).2.2.1, sf_k_ok (fun q hq => sf_val_sh (xs := [v, .int x, .ref a]) H hl hr hq) hF, G.2.2.2.2⟩, sf_fr_up (by rw [hta']; exact cv1) cv2 (fun q hq => hr a q ha' (fun _ => hq)) (Or.inr (Or.inl (sf_n69 H hta' hg)))⟩
        rcases h1.2.1 rfl with ⟨b, hq, hb, htb⟩ | ⟨hq1, hq⟩
        · cases hq
          have hb' : b < hp.1 := hb
          have htb' : t b = gv := htb
          have hcell := H.1 b hb'
          rw [htb'] at hcell
          refine main (some b) ⟨hk1, hb', by rw [htb']; exact hk2.symm⟩ ?_
          cases hcb : hp.2 b with
          | inl y =>
            rw [hcb] at hcell
            exact absurd hcell.1 (by omega)
          | inr y =>
            rw [hcb] at hcell
            have e9 : y.1 = sf_o gv := hcell.1
            simp [ab_aast, ha', hb', e1, hin, hcb, e9]
        · cases hq
          refine main none ⟨hk1, hk3.resolve_left (fun e => e hq1)⟩ ?_
          simp [ab_aast, ha', e1, hin]
      · exact absurd hq hn
    · cases h
  · cases h
