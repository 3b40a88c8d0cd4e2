/-! ===== whole copies: arrays that hold a sentence ===== -/
theorem cd_run_same {c c' : Nat → Int} : ∀ n, (∀ j, 1 ≤ j → j ≤ 3 * n → c j = c' j) → cd_run c n = cd_run c' n
  | 0, _ => rfl
  | n + 1, h => by
    have e := cd_run_same n fun j h0 hj => h j h0 (by omega)
    have h1 : c (1 + 3 * n) = c' (1 + 3 * n) := h _ (by omega) (by omega)
    have h2 : c (3 + 3 * n) = c' (3 + 3 * n) := h _ (by omega) (by omega)
    simp only [cd_run, e, h1, h2]
theorem cd_ok_same {c c' : Nat → Int} (h : ∀ j, j ≤ 132 → c' j = c j) (hc : cd_ok c) : cd_ok c' := by
  obtain ⟨h1, h2, h3⟩ := hc
  have e0 := h 0 (by omega)
  unfold cd_ok
  rw [e0]
  refine ⟨h1, h2, ?_⟩
  rw [cd_run_same (c := c') (c' := c) (c 0).toNat fun j _ hj => h j (by omega)]
  exact h3
theorem cd_ok_0 {c : Nat → Int} (h : c 0 = 0) : cd_ok c := by
  unfold cd_ok
  rw [h]
  exact ⟨by decide, by decide, fun e => by cases e⟩
theorem IV_of {t : Nat → Nat} {hp : ab_H} (H : sf_h t hp) {a g : Nat} {c : ab_E} (hR : bs_R t hp a g) (hg : g = 132 ∨ g = 145) (h3 : sf_I3 (ab_up hp a c)) : sf_IV t (ab_up hp a c) := by
  obtain ⟨i1, i2, -⟩ := H.2.2.2
  have hRa := hR.2
  have n5 : ∀ b, t b = 5 ∨ t b = 106 ∨ t b = 107 → b ≠ a := fun b hb e => by
    rw [e] at hb
    omega
  have p37 : (37 : Nat) ≠ a := fun e => by
    have h1 := (H.2.2.1 103 37 rfl).2
    rw [← e] at hRa
    omega
  have p38 : (38 : Nat) ≠ a := fun e => by
    have h1 := (H.2.2.1 104 38 rfl).2
    rw [← e] at hRa
    omega
  refine ⟨fun b hb h5 => ?_, fun i hi hx => ?_, h3⟩
  · obtain ⟨q1, q2, q3, q4, q5, q6⟩ := i1 b hb h5
    refine ⟨q1, q2, q3, (sf_rr_up_ne (n5 b (Or.inl h5))).trans q4, (sf_rr_up_ne (n5 b (Or.inl h5))).trans q5, fun i hi x hx hx2 => ?_⟩
    rw [sf_rd_up_ne (n5 _ (Or.inr (Or.inl q2)))] at hx
    rw [sf_rd_up_ne (n5 _ (Or.inr (Or.inr q3)))]
    exact q6 i hi x hx hx2
  · rw [sf_rd_up_ne p37] at hx
    rw [sf_rd_up_ne p38]
    exact i2 i hi hx
theorem fl_get {t : Nat → Nat} {hp : ab_H} (H : sf_h t hp) : 69 < hp.1 ∧ ∃ fl : List Value, hp.2 69 = .inr (11, fl) ∧ ∀ (i g p : Nat), (sf_C 11)[i]? = some (1, (g : Int), 0) → sf_P g = some p → fl[i]? = some (.ref p) := by
  obtain ⟨h1, h2⟩ := H.2.2.1 11 69 rfl
  have hc := H.1 69 h1
  rw [h2] at hc
  cases e : hp.2 69 with
  | inl x =>
    rw [e] at hc
    exact absurd hc.1 (by decide)
  | inr o =>
    rw [e] at hc
    obtain ⟨c1, c2, c3⟩ := hc
    obtain ⟨o1, o2⟩ := o
    have c1' : o1 = 11 := c1
    subst c1'
    refine ⟨h1, o2, rfl, fun i g p hi hq => ?_⟩
    obtain ⟨v, hv, hs⟩ := c3 i _ hi
    rw [show o2[i]? = some v from hv]
    cases v with
    | ref b =>
      obtain ⟨-, s1, s2⟩ := hs
      have s3 : t b = g := by
        have s4 : (t b : Int) = (g : Int) := s2
        omega
      rw [H.2.1 b p s1 (by rw [s3]; exact hq)]
    | int x => exact absurd hs.1 (by show (1 : Nat) ≠ 0; decide)
    | null => exact absurd hs.2 (by show (0 : Int) ≠ 1; decide)
    | long x => exact absurd hs (by show (1 : Nat) ≠ 2; decide)
    | _ => exact hs.elim
theorem fl_int {hp : ab_H} {fl : List Value} {i : Nat} {v : Int} (h : hp.2 69 = .inr (11, fl)) (hr : sf_rd hp 69 i = some v) : ∃ c : Int32, fl[i]? = some (.int c) ∧ c.toInt = v := by
  unfold sf_rd at hr
  rw [h] at hr
  have hr' : sf_iv (fl[i]?) = some v := hr
  unfold sf_iv at hr'
  split at hr'
  · rename_i x hx
    exact ⟨x, hx, Option.some.inj hr'⟩
  · cases hr'
theorem ar_get {t : Nat → Nat} {hp : ab_H} (H : sf_h t hp) (g p n : Nat) (hP : sf_P g = some p) (hg : 100 ≤ g) (h1 : (sf_A g).1 = 1) (hn : (sf_A g).2.1 = n) : p < hp.1 ∧ ∃ f : Nat → Int32, hp.2 p = .inl (1, n, .inl f) ∧ ∀ j, j < n → sf_v t hp.1 (sf_e (sf_A g).2.2 j) (.int (f j)) := by
  obtain ⟨a1, a2⟩ := H.2.2.1 g p hP
  obtain ⟨f, e1, e2⟩ := sf_arr H a1 a2 hg (by rw [h1]; decide) (by rw [h1]; decide)
  subst hn
  rw [h1] at e1
  exact ⟨a1, f, e1, e2⟩
def cpf (f g : Nat → Int32) (o n : Nat) : Nat → Int32 := fun q => if o ≤ q ∧ q < o + n then g (q - o) else f q
theorem cpf_0 (f g : Nat → Int32) (o : Nat) : cpf f g o 0 = f := funext fun q => if_neg (by omega)
theorem cpf_in {f g : Nat → Int32} {o n q : Nat} (h1 : o ≤ q) (h2 : q < o + n) : cpf f g o n q = g (q - o) := if_pos ⟨h1, h2⟩
theorem cpf_out {f g : Nat → Int32} {o n q : Nat} (h : q < o ∨ o + n ≤ q) : cpf f g o n q = f q := if_neg (by omega)
theorem cpf_s {f g : Nat → Int32} {o n i : Nat} {y : Int32} (hi : i = o + n) (hy : y = g n) : upd (cpf f g o n) i y = cpf f g o (n + 1) := funext fun q => by
  subst hi hy
  show (if q = o + n then g n else (if o ≤ q ∧ q < o + n then g (q - o) else f q)) = if o ≤ q ∧ q < o + (n + 1) then g (q - o) else f q
  by_cases h1 : q = o + n
  · rw [if_pos h1, if_pos (by omega), show q - o = n by omega]
  · rw [if_neg h1]
    by_cases h2 : o ≤ q ∧ q < o + n
    · rw [if_pos h2, if_pos (by omega)]
    · rw [if_neg h2, if_neg (by omega)]
theorem cpf_up {hp : ab_H} {a len : Nat} {f g : Nat → Int32} {o n i : Nat} {y : Int32} (hi : i = o + n) (hy : y = g n) : ab_up (ab_up hp a (.inl (1, len, .inl (cpf f g o n)))) a (.inl (1, len, .inl (upd (cpf f g o n) i (ab_nar 1 y)))) = ab_up hp a (.inl (1, len, .inl (cpf f g o (n + 1)))) := by
  rw [ab_up_up, show ab_nar 1 y = y from rfl, cpf_s hi hy]
theorem n_at {z : Int32} {n : Nat} (h : z.toInt = n) : z.toNatClampNeg = n := by
  have h1 := n_idx (x := z) (by omega)
  omega
theorem cp_loop {T : Nat → Option ab_A} {i : Nat} {Q : ab_O → Prop} {N : Nat} (S : Int32 → Nat → ab_S) (hs : ∀ (n : Nat) (z : Int32), n < N → z.toInt = n → (∀ z' : Int32, z'.toInt = ((n + 1 : Nat) : Int) → Ev T i (S z' (n + 1)) Q) → Ev T i (S z n) Q) (he : ∀ z : Int32, z.toInt = N → Ev T i (S z N) Q) : ∀ z : Int32, z.toInt = 0 → Ev T i (S z 0) Q := by
  have key : ∀ (d n : Nat), n + d = N → ∀ z : Int32, z.toInt = n → Ev T i (S z n) Q := by
    intro d
    induction d with
    | zero =>
      intro n hn z hz
      have e : n = N := by omega
      rw [e] at hz ⊢
      exact he z hz
    | succ d ih =>
      intro n hn z hz
      exact hs n z (by omega) hz fun z' hz' => ih (n + 1) (by omega) z' hz'
  exact fun z hz => key N 0 (by omega) z (by rw [hz]; rfl)
theorem cp_end {t : Nat → Nat} {hp : ab_H} (H : sf_h t hp) {a g len i0 i1 : Nat} {f f' : Nat → Int32} (hR : bs_R t hp a g) (hg : g = 132 ∨ g = 145) (h1 : (sf_A g).1 = 1) (hl : (sf_A g).2.1 = len) (he : hp.2 a = .inl (1, len, .inl f)) (hk : ∀ q, q < len → sf_v t hp.1 (sf_e (sf_A g).2.2 q) (.int (f' q))) (hi : i0 ≤ i1) (ho : ∀ q, q < i0 ∨ i1 < q → f' q = f q) (h3 : sf_I3 (ab_up hp a (.inl (1, len, .inl f')))) : sf_h t (ab_up hp a (.inl (1, len, .inl f'))) ∧ sf_fr [(g, i0, i1)] t hp t (ab_up hp a (.inl (1, len, .inl f'))) := by
  subst hl
  refine ⟨?_, ?_⟩
  · have hI := IV_of H hR hg h3
    have h := sf_arr_put H hR.1 hR.2 (by omega) (by rw [h1]; decide) (by rw [h1]; decide) (f := f') hk (by rw [h1]; exact hI)
    rw [h1] at h
    exact h
  · refine sf_fr_up (i0 := i0) (i1 := i1) (fun i a1 a2 => bs_in (g, i0, i1) (List.mem_cons_self) hR.2.symm a1 a2) hi (fun i hi' => ?_) (Or.inr (Or.inl (sf_n69 H hR.2 (by omega))))
    rw [sf_rd_up_arr]
    unfold sf_rd
    rw [he]
    show _ = cond (decide (i < (sf_A g).2.1)) (some (f i).toInt) none
    rw [ho i (by omega)]
theorem cd_up {hp : ab_H} {a len i : Nat} {f : Nat → Int32} {j : Nat} (h : i + j < len) : sf_cd (ab_up hp a (.inl (1, len, .inl f))) a i j = (f (i + j)).toInt := by
  unfold sf_cd
  rw [sf_rd_up_arr, decide_eq_true h]
  rfl
theorem cd_at {hp : ab_H} {a len i : Nat} {f : Nat → Int32} {j : Nat} (he : hp.2 a = .inl (1, len, .inl f)) (h : i + j < len) : sf_cd hp a i j = (f (i + j)).toInt := by
  unfold sf_cd
  rw [sf_rd_arr he h]
  rfl
theorem cd_ne {hp : ab_H} {a b i : Nat} {c : ab_E} (h : b ≠ a) : sf_cd (ab_up hp a c) b i = sf_cd hp b i := funext fun j => by
  unfold sf_cd
  rw [sf_rd_up_ne h]
/-- the kinds of the state, of its images and of what is told are alike -/
theorem sg_145 : ∀ k, k < 868 → sf_e (sf_A 145).2.2 k = sf_e (sf_A 132).2.2 (k % 434) := by decide +kernel
theorem sg_133 : ∀ k, k < 120 → sf_e (sf_A 132).2.2 k = sf_e (sf_A 133).2.2 k := by decide +kernel
theorem sg_z : ∀ k, k < 434 → (sf_e (sf_A 132).2.2 k).1 = 0 ∧ (sf_e (sf_A 132).2.2 k).2.1 ≤ 0 ∧ 0 ≤ (sf_e (sf_A 132).2.2 k).2.2 := by decide +kernel
theorem sg_t : ∀ k, k < 434 → 254 ≤ k → sf_e (sf_A 132).2.2 k = (0, -2147483648, 2147483647) := by decide +kernel
/-! ===== contracts that say more ===== -/
def sf_cE (K : sf_Q) (X : List Value → ab_H → Option ab_O) (E : List Value → ab_H → Option Value → ab_H → Prop) : Prop := ∀ (t : Nat → Nat) (hp : ab_H) (as : List Value), sf_h t hp → as.length = K.1.length → (∀ (i : Nat) (j : sf_J), K.1[i]? = some j → sf_j t hp.1 j as[i]?) → sf_S (sf_v0 as hp) K.2.1 →
  ∃ (r : Option Value) (hp' : ab_H) (t' : Nat → Nat), X as hp = some (r, hp') ∧ sf_h t' hp' ∧ sf_fr K.2.2.2.2 t hp t' hp' ∧ sf_an t' hp'.1 K.2.2.1 r ∧ sf_S (sf_v1 r as hp') K.2.2.2.1 ∧ E as hp r hp'
theorem sf_cE.ct {K : sf_Q} {X : List Value → ab_H → Option ab_O} {E : List Value → ab_H → Option Value → ab_H → Prop} (h : sf_cE K X E) : sf_ct K X := fun t hp as a1 a2 a3 a4 => by
  obtain ⟨r, hp', t', h1, h2, h3, h4, h5, -⟩ := h t hp as a1 a2 a3 a4
  exact ⟨r, hp', t', h1, h2, h3, h4, h5⟩
theorem bs_finx {K : sf_Q} {E : List Value → ab_H → Option Value → ab_H → Prop} {L : List (Nat × ab_A)} {nL : Nat} {as : List Value} {t : Nat → Nat} {hp : ab_H} (hl : (ab_ent as).length ≤ nL) (h : Ev (ab_T L) 0 (ab_en nL as, [], (0, 0), hp) (fun o => ∃ t', sf_h t' o.2 ∧ sf_fr K.2.2.2.2 t hp t' o.2 ∧ sf_an t' o.2.1 K.2.2.1 o.1 ∧ sf_S (sf_v1 o.1 as o.2) K.2.2.2.1 ∧ E as hp o.1 o.2)) :
    ∃ (r : Option Value) (hp' : ab_H) (t' : Nat → Nat), ab_X (ab_T L) nL as hp = some (r, hp') ∧ sf_h t' hp' ∧ sf_fr K.2.2.2.2 t hp t' hp' ∧ sf_an t' hp'.1 K.2.2.1 r ∧ sf_S (sf_v1 r as hp') K.2.2.2.1 ∧ E as hp r hp' := by
  obtain ⟨o, h1, t', h2, h3, h4, h5, h6⟩ := ab_X_ev hl h
  exact ⟨o.1, o.2, t', h1, h2, h3, h4, h5, h6⟩
theorem bs_callx {T : Nat → Option ab_A} {i j : Nat} {lo : List (Option Value)} {st : List Value} {u : Nat × Nat} {hp : ab_H} {Q : ab_O → Prop} {t : Nat → Nat} {K : sf_Q} {X : List Value → ab_H → Option ab_O} {E : List Value → ab_H → Option Value → ab_H → Prop} {nA ci mc ms MC MS : Nat} (as rest : List Value) (hT : T i = some (ab_nx j (ab_callV nA ci X mc ms MC MS))) (hK : sf_cE K X E) (H : sf_h t hp) (hst : st = as.reverse ++ rest) (hn : as.length = nA) (hl : as.length = K.1.length) (hrc : ab_rcv ci as hp = true) (hcat : (decide (ab_cats rest ≤ 8) && decide (u.1 + mc ≤ MC) && decide (u.2 + ms ≤ MS)) = true)
    (hj : ∀ (q : Nat) (k : sf_J), K.1[q]? = some k → sf_j t hp.1 k as[q]?) (hpre : sf_S (sf_v0 as hp) K.2.1) (h : ∀ r hp' t', sf_h t' hp' → sf_fr K.2.2.2.2 t hp t' hp' → sf_an t' hp'.1 K.2.2.1 r → sf_S (sf_v1 r as hp') K.2.2.2.1 → E as hp r hp' → Ev T j (lo, r.toList ++ rest, (u.1 + mc, u.2 + ms), hp') Q) : Ev T i (lo, st, u, hp) Q := by
  subst hst
  obtain ⟨r, hp', t', h1, h2, h3, h4, h5, h6⟩ := hK t hp as H hl hj hpre
  have e1 : ((as.reverse ++ rest).take nA).reverse = as := by rw [List.take_left' (by rw [List.length_reverse]; exact hn), List.reverse_reverse]
  have e2 : (as.reverse ++ rest).drop nA = rest := List.drop_left' (by rw [List.length_reverse]; exact hn)
  have hh := h r hp' t' h2 h3 h4 h5 h6
  refine Ev.callV hT (by rw [e1]; exact hrc) ?_ (by rw [e1]; exact h1) (by rw [e2]; exact hh)
  rw [e2, decide_eq_true (show nA ≤ (as.reverse ++ rest).length by rw [List.length_append, List.length_reverse, hn]; exact Nat.le_add_right _ _), Bool.true_and]
  exact hcat
/-! ===== bits of any number ===== -/
theorem n_bit {x : Int32} (h : x.toInt ≠ 0) : (x &&& (x - 1)).toBitVec.toNat < x.toBitVec.toNat := by
  have e : (x &&& (x - 1)).toBitVec = x.toBitVec &&& (x.toBitVec - 1#32) := rfl
  rw [e, BitVec.toNat_and]
  have h1 : x.toBitVec.toNat &&& (x.toBitVec - 1#32).toNat ≤ (x.toBitVec - 1#32).toNat := Nat.and_le_right
  have h2 : x.toBitVec.toNat ≠ 0 := fun q => h (by
    have q2 : x.toBitVec = 0#32 := BitVec.eq_of_toNat_eq q
    show x.toBitVec.toInt = 0
    rw [q2]
    rfl)
  have h3 : (x.toBitVec - 1#32).toNat < x.toBitVec.toNat := by
    rw [BitVec.toNat_sub, show (1#32).toNat = 1 from rfl]
    have h4 := x.toBitVec.isLt
    omega
  omega
section BS
variable {T : Nat → Option ab_A} {i j : Nat} {lo : List (Option Value)} {st : List Value} {u : Nat × Nat} {hp : ab_H} {Q : ab_O → Prop} {t : Nat → Nat} {x y : Int32}
/-- a byte or a boolean into an array that takes any -/
theorem bs_stT {W : List (Nat × Nat × Nat)} {a g kd : Nat} (i0 i1 : Nat) (hT : T i = some (ab_nx j (ab_ast kd))) (H : sf_h t hp) (hR : bs_R t hp a g) (hg : 100 ≤ g) (hk : (sf_A g).1 = kd) (h4 : kd < 4) (h2 : kd ≠ 2) (hal : sf_al (sf_A g).2.2 i0 i1 (-2147483648, 2147483647) = true) (hl : i1 < (sf_A g).2.1) (hW : sf_cv W g i0 i1 = true) (hsp : sf_sp g i1 = false)
    (x0 : (i0 : Int) ≤ x.toInt) (x1 : x.toInt ≤ (i1 : Int)) (h : ∀ hp', sf_h t hp' → sf_fr W t hp t hp' → sf_rd hp' a x.toInt.toNat = some (ab_nar kd y).toInt → (∀ b q, b ≠ a ∨ q ≠ x.toInt.toNat → sf_rd hp' b q = sf_rd hp b q) → (∀ b q, sf_rr hp' b q = sf_rr hp b q) → hp'.1 = hp.1 → Ev T j (lo, st, u, hp') Q) : Ev T i (lo, .int y :: .int x :: .ref a :: st, u, hp) Q := by
  subst hk
  obtain ⟨f, e1, e2⟩ := sf_arr H hR.1 hR.2 hg h4 h2
  obtain ⟨cv1, cv2⟩ := sf_cv_ok hW
  have x0' : 0 ≤ x.toInt := by omega
  have x1' : x.toInt < ((sf_A g).2.1 : Int) := by omega
  have hidx := n_idx x0'
  have en : x.toNatClampNeg = x.toInt.toNat := by omega
  have hj : x.toInt.toNat < (sf_A g).2.1 := by omega
  obtain ⟨w, hw⟩ : ∃ w, w = ab_nar (sf_A g).1 y := ⟨_, rfl⟩
  have hr : ∀ b q, b ≠ a ∨ q ≠ x.toInt.toNat → sf_rd (ab_up hp a (.inl ((sf_A g).1, (sf_A g).2.1, .inl (upd f x.toInt.toNat w)))) b q = sf_rd hp b q := by
    intro b q hq
    by_cases e : b = a
    · subst e
      rw [sf_rd_up_arr]
      unfold sf_rd
      rw [e1]
      show cond (decide (q < (sf_A g).2.1)) (some (if q = x.toInt.toNat then w else f q).toInt) none = cond (decide (q < (sf_A g).2.1)) (some (f q).toInt) none
      rw [if_neg (by rcases hq with h | h; exact absurd rfl h; exact h)]
    · exact sf_rd_up_ne e
  have hrr : ∀ b q, sf_rr (ab_up hp a (.inl ((sf_A g).1, (sf_A g).2.1, .inl (upd f x.toInt.toNat w)))) b q = sf_rr hp b q := by
    intro b q
    by_cases e : b = a
    · subst e
      unfold sf_rr
      rw [ab_up_eq, e1]
    · exact sf_rr_up_ne e
  have hI := sf_I_up H (i0 := i0) (i1 := i1) (c := .inl ((sf_A g).1, (sf_A g).2.1, .inl (upd f x.toInt.toNat w))) (by rw [hR.2]; exact hsp) (fun q hq => hr a q (Or.inr (by omega))) (fun h5 => absurd (hR.2.symm.trans h5) (by omega))
  have H' : sf_h t (ab_up hp a (.inl ((sf_A g).1, (sf_A g).2.1, .inl (upd f x.toInt.toNat w)))) :=
    sf_arr_put H hR.1 hR.2 hg h4 h2 (f := upd f x.toInt.toNat w) (fun q hq => by
      show sf_v t hp.1 _ (.int (if q = x.toInt.toNat then w else f q))
      by_cases e : q = x.toInt.toNat
      · rw [if_pos e, e]
        exact sf_al_ok ⟨(n_range w).1, (n_range w).2⟩ (by omega) (by omega) hal
      · rw [if_neg e]
        exact e2 q hq) hI
  refine Ev.ast hT hR.1 e1 (n_in x0' x1') ?_
  rw [en, ← hw]
  exact h _ H' (sf_fr_up (by rw [hR.2]; exact cv1) cv2 (fun q hq => hr a q (Or.inr (by omega))) (Or.inr (Or.inl (sf_n69 H hR.2 hg)))) (by
    rw [sf_rd_up_arr, decide_eq_true hj, ← hw]
    show some (if x.toInt.toNat = x.toInt.toNat then w else f _).toInt = _
    rw [if_pos rfl]) hr hrr rfl
theorem nar3 (h0 : 0 ≤ y.toInt) (h1 : y.toInt ≤ 1) : ab_nar 3 y = y := by
  rcases (show y.toInt = 0 ∨ y.toInt = 1 by omega) with h | h
  · rw [show y = 0 from Int32.toInt_inj.mp h]
    rfl
  · rw [show y = 1 from Int32.toInt_inj.mp h]
    rfl
end BS
/-! ===== what becomes of the tape's length ===== -/
def fd_z (v : Int) : Int := if 940 < v + 20 then -1 else v + 20
def fd_n (v : Int) : Int := if 940 < v + 20 then v else v + 20
def en_n (v x : Int) : Int := if 0 ≤ x ∧ x ≤ v then x else v
theorem bs_q3 {v : Nat → Option Int} {p q : Nat} {x y lo hi c : Int} (hv : v p = some x) (hy : v q = some y) (hs : sf_s v (3, p, q, lo, hi, c)) : x = c ∨ (lo ≤ y ∧ y ≤ hi) := by
  obtain ⟨x', ex, hd⟩ := hs.2.2 rfl
  have e : x = x' := Option.some.inj (hv.symm.trans ex)
  subst e
  rcases hd with h | ⟨y', ey, h1, h2⟩
  · exact Or.inl h
  · have e2 : y = y' := Option.some.inj (hy.symm.trans ey)
    subst e2
    exact Or.inr ⟨h1, h2⟩
/-! ===== a log's lines as the reference keeps them ===== -/
def lg_ok (hp : ab_H) (d : Nat) : Prop := ∀ w, sf_rd hp 73 (4 * d) = some w → 0 ≤ w ∧ w ≤ 4 ∧ (∀ g, sf_rd hp 73 (4 * d + 1) = some g → (w ≤ 2 → 0 ≤ g ∧ g ≤ 5) ∧ (w = 3 → 0 ≤ g ∧ g ≤ 7) ∧ (w = 4 → 0 ≤ g ∧ g ≤ 60)) ∧ (∀ s, sf_rd hp 73 (4 * d + 2) = some s → w ≤ 2 → 0 ≤ s ∧ s ≤ 1) ∧ (∀ n, sf_rd hp 73 (4 * d + 3) = some n → w ≤ 2 → 1 ≤ n ∧ n ≤ 250)
theorem lg_same {hp hp' : ab_H} {d : Nat} (h : lg_ok hp d) (e : ∀ q, 4 * d ≤ q → q ≤ 4 * d + 3 → sf_rd hp' 73 q = sf_rd hp 73 q) : lg_ok hp' d := by
  intro w hw
  rw [e _ (by omega) (by omega)] at hw
  obtain ⟨h1, h2, h3, h4, h5⟩ := h w hw
  refine ⟨h1, h2, fun g hg => h3 g ?_, fun s hs => h4 s ?_, fun n hn => h5 n ?_⟩
  · rw [← e _ (by omega) (by omega)]; exact hg
  · rw [← e _ (by omega) (by omega)]; exact hs
  · rw [← e _ (by omega) (by omega)]; exact hn
theorem lg_mk2 {hp : ab_H} {d : Nat} {w g : Int} (hw : sf_rd hp 73 (4 * d) = some w) (hg : sf_rd hp 73 (4 * d + 1) = some g) (h : (w = 3 ∧ 0 ≤ g ∧ g ≤ 7) ∨ (w = 4 ∧ 0 ≤ g ∧ g ≤ 60)) : lg_ok hp d := by
  intro w' hw'
  have e1 : w' = w := Option.some.inj (hw'.symm.trans hw)
  refine ⟨by omega, by omega, fun g' hg' => ?_, fun s _ h3 => by omega, fun n _ h3 => by omega⟩
  have e2 : g' = g := Option.some.inj (hg'.symm.trans hg)
  exact ⟨fun _ => by omega, fun _ => by omega, fun _ => by omega⟩
theorem lg_mk4 {hp : ab_H} {d : Nat} {w g s n : Int} (hw : sf_rd hp 73 (4 * d) = some w) (hg : sf_rd hp 73 (4 * d + 1) = some g) (hs : sf_rd hp 73 (4 * d + 2) = some s) (hn : sf_rd hp 73 (4 * d + 3) = some n) (h : 0 ≤ w ∧ w ≤ 2 ∧ 0 ≤ g ∧ g ≤ 5 ∧ 0 ≤ s ∧ s ≤ 1 ∧ 1 ≤ n ∧ n ≤ 250) : lg_ok hp d := by
  intro w' hw'
  have e1 : w' = w := Option.some.inj (hw'.symm.trans hw)
  refine ⟨by omega, by omega, fun g' hg' => ?_, fun s' hs' _ => ?_, fun n' hn' _ => ?_⟩
  · have e2 : g' = g := Option.some.inj (hg'.symm.trans hg)
    exact ⟨fun _ => by omega, fun _ => by omega, fun _ => by omega⟩
  · have e2 : s' = s := Option.some.inj (hs'.symm.trans hs)
    omega
  · have e2 : n' = n := Option.some.inj (hn'.symm.trans hn)
    omega
/-! ===== a sentence's codes ===== -/
theorem cd_none {c : Nat → Int} {n : Nat} (h : cd_run c n = none) : cd_run c (n + 1) = none := by simp only [cd_run, h]
theorem cd_le {c : Nat → Int} {i n : Nat} (h : cd_run c n ≠ none) (hi : i ≤ n) : cd_run c i ≠ none := by
  intro q
  obtain ⟨k, rfl⟩ := Nat.exists_eq_add_of_le hi
  apply h
  clear h hi
  induction k with
  | zero => exact q
  | succ k ih => exact cd_none ih
theorem cd_step {c : Nat → Int} {i d : Nat} (h : cd_run c i = some d) (hn : cd_run c (i + 1) ≠ none) : (c (1 + 3 * i) = 20 ∧ 1 ≤ d ∧ cd_run c (i + 1) = some d) ∨ ((c (1 + 3 * i) = 21 ∨ c (1 + 3 * i) = 22) ∧ 2 ≤ d ∧ cd_run c (i + 1) = some (d - 1)) ∨ (0 ≤ c (1 + 3 * i) ∧ c (1 + 3 * i) ≤ 8 ∧ (5 ≤ c (1 + 3 * i) ∨ (0 ≤ c (3 + 3 * i) ∧ c (3 + 3 * i) ≤ 1)) ∧ cd_run c (i + 1) = some (d + 1)) := by
  have e : cd_run c (i + 1) = cond (decide (c (1 + 3 * i) = 20)) (cond (decide (1 ≤ d)) (some d) none) (cond (decide (c (1 + 3 * i) = 21) || decide (c (1 + 3 * i) = 22)) (cond (decide (2 ≤ d)) (some (d - 1)) none) (cond (decide (0 ≤ c (1 + 3 * i)) && decide (c (1 + 3 * i) ≤ 8) && (decide (5 ≤ c (1 + 3 * i)) || (decide (0 ≤ c (3 + 3 * i)) && decide (c (3 + 3 * i) ≤ 1)))) (some (d + 1)) none)) := by simp only [cd_run, h]
  rw [e] at hn ⊢
  by_cases h1 : c (1 + 3 * i) = 20
  · rw [decide_eq_true h1] at hn ⊢
    by_cases h2 : 1 ≤ d
    · rw [decide_eq_true h2]
      exact Or.inl ⟨h1, h2, rfl⟩
    · rw [decide_eq_false h2] at hn
      exact absurd rfl hn
  · rw [decide_eq_false h1] at hn ⊢
    by_cases h2 : c (1 + 3 * i) = 21 ∨ c (1 + 3 * i) = 22
    · have e2 : (decide (c (1 + 3 * i) = 21) || decide (c (1 + 3 * i) = 22)) = true := by simpa using h2
      rw [e2] at hn ⊢
      by_cases h3 : 2 ≤ d
      · rw [decide_eq_true h3]
        exact Or.inr (Or.inl ⟨h2, h3, rfl⟩)
      · rw [decide_eq_false h3] at hn
        exact absurd rfl hn
    · have e2 : (decide (c (1 + 3 * i) = 21) || decide (c (1 + 3 * i) = 22)) = false := by simpa using h2
      rw [e2] at hn ⊢
      by_cases h3 : 0 ≤ c (1 + 3 * i) ∧ c (1 + 3 * i) ≤ 8 ∧ (5 ≤ c (1 + 3 * i) ∨ (0 ≤ c (3 + 3 * i) ∧ c (3 + 3 * i) ≤ 1))
      · have e3 : (decide (0 ≤ c (1 + 3 * i)) && decide (c (1 + 3 * i) ≤ 8) && (decide (5 ≤ c (1 + 3 * i)) || (decide (0 ≤ c (3 + 3 * i)) && decide (c (3 + 3 * i) ≤ 1)))) = true := by simpa [and_assoc] using h3
        rw [e3]
        exact Or.inr (Or.inr ⟨h3.1, h3.2.1, h3.2.2, rfl⟩)
      · have e3 : (decide (0 ≤ c (1 + 3 * i)) && decide (c (1 + 3 * i) ≤ 8) && (decide (5 ≤ c (1 + 3 * i)) || (decide (0 ≤ c (3 + 3 * i)) && decide (c (3 + 3 * i) ≤ 1)))) = false := by
          rw [← Bool.not_eq_true]
          intro q
          apply h3
          simpa [and_assoc] using q
        rw [e3] at hn
        exact absurd rfl hn
/-- a code more -/
theorem cd_not {c : Nat → Int} {i d : Nat} (h : cd_run c i = some d) (h1 : c (1 + 3 * i) = 20) (hd : 1 ≤ d) : cd_run c (i + 1) = some d := by
  simp only [cd_run, h, h1, decide_eq_true hd]
  rfl
theorem cd_bin {c : Nat → Int} {i d : Nat} (h : cd_run c i = some d) (h1 : c (1 + 3 * i) = 21 ∨ c (1 + 3 * i) = 22) (hd : 2 ≤ d) : cd_run c (i + 1) = some (d - 1) := by
  rcases h1 with h1 | h1
  · simp only [cd_run, h, h1, decide_eq_true hd]
    rfl
  · simp only [cd_run, h, h1, decide_eq_true hd]
    rfl
theorem cd_leaf {c : Nat → Int} {i d : Nat} (h : cd_run c i = some d) (h1 : 0 ≤ c (1 + 3 * i)) (h2 : c (1 + 3 * i) ≤ 8) (h3 : 5 ≤ c (1 + 3 * i) ∨ (0 ≤ c (3 + 3 * i) ∧ c (3 + 3 * i) ≤ 1)) : cd_run c (i + 1) = some (d + 1) := by
  have a1 : ¬ c (1 + 3 * i) = 20 := by omega
  have a2 : ¬ c (1 + 3 * i) = 21 := by omega
  have a3 : ¬ c (1 + 3 * i) = 22 := by omega
  have e3 : (decide (0 ≤ c (1 + 3 * i)) && decide (c (1 + 3 * i) ≤ 8) && (decide (5 ≤ c (1 + 3 * i)) || (decide (0 ≤ c (3 + 3 * i)) && decide (c (3 + 3 * i) ≤ 1)))) = true := by simpa [and_assoc] using And.intro h1 (And.intro h2 h3)
  simp only [cd_run, h, decide_eq_false a1, decide_eq_false a2, decide_eq_false a3, e3]
  rfl
theorem cd_of {hp hp' : ab_H} {i k : Nat} {z : Int} (h : sf_rd hp' 71 k = some z) (hf : sf_rd hp' 71 k = sf_rd hp 71 k) (hk : k = 253 + i) : sf_cd hp 71 253 i = z := by
  subst hk
  unfold sf_cd
  rw [← hf, h]
  rfl
