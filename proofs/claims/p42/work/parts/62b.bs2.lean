/-! ===== by hand: writes, calls, loops ===== -/
theorem bs_loop {T : Nat → Option ab_A} {i : Nat} {Q : ab_O → Prop} {ι : Type} (S : ι → ab_S) (P : ι → Prop) (m : ι → Nat) (hs : ∀ x, P x → (∀ y, P y → m y < m x → Ev T i (S y) Q) → Ev T i (S x) Q) : ∀ x, P x → Ev T i (S x) Q := by
  have key : ∀ (n : Nat) (x : ι), m x < n → P x → Ev T i (S x) Q := by
    intro n
    induction n with
    | zero => intro x hx _; exact absurd hx (Nat.not_lt_zero _)
    | succ n ih => intro x hx hP; exact hs x hP fun y hy hm => ih y (by omega) hy
  exact fun x hP => key (m x + 1) x (Nat.lt_succ_self _) hP
theorem bs_fin {K : sf_Q} {L : List (Nat × ab_A)} {nL : Nat} {as : List Value} {t : Nat → Nat} {hp : ab_H} (hl : (ab_ent as).length ≤ nL) (h : Ev (ab_T L) 0 (ab_en nL as, [], (0, 0), hp) (fun o => ∃ t', sf_h t' o.2 ∧ sf_fr K.2.2.2.2 t hp t' o.2 ∧ sf_an t' o.2.1 K.2.2.1 o.1 ∧ sf_S (sf_v1 o.1 as o.2) K.2.2.2.1)) :
    ∃ (r : Option Value) (hp' : ab_H) (t' : Nat → Nat), ab_X (ab_T L) nL as hp = some (r, hp') ∧ sf_h t' hp' ∧ sf_fr K.2.2.2.2 t hp t' hp' ∧ sf_an t' hp'.1 K.2.2.1 r ∧ sf_S (sf_v1 r as hp') K.2.2.2.1 := by
  obtain ⟨o, h1, t', h2, h3, h4, h5⟩ := ab_X_ev hl h
  exact ⟨o.1, o.2, t', h1, h2, h3, h4, h5⟩
theorem bs_aR {t : Nat → Nat} {hp : ab_H} {g : Nat} {v : Value} (h : sf_j t hp.1 (1, g, 0) (some v)) : ∃ a, v = .ref a ∧ bs_R t hp a g := by
  rcases h.2.1 rfl with ⟨a, h1, h2, h3⟩ | ⟨h1, -⟩
  · cases h1
    exact ⟨a, rfl, h2, h3⟩
  · exact absurd h1 (by show (0 : Nat) ≠ 1; decide)
theorem bs_aI {t : Nat → Nat} {n a b : Nat} {v : Value} (h : sf_j t n (0, a, b) (some v)) : ∃ x, v = .int x := by
  obtain ⟨x, hx⟩ := h.1 rfl
  cases hx
  exact ⟨x, rfl⟩
theorem bs_jR {t : Nat → Nat} {hp : ab_H} {a g : Nat} (h : bs_R t hp a g) : sf_j t hp.1 (1, g, 0) (some (.ref a)) :=
  ⟨fun e => absurd e (by show (1 : Nat) ≠ 0; decide), fun _ => Or.inl ⟨a, rfl, h.1, h.2⟩, fun e => absurd e (by show (1 : Nat) ≠ 2; decide), fun e => absurd e (by show (1 : Nat) ≠ 3; decide), fun e => absurd e (by show (1 : Nat) ≠ 8; decide)⟩
theorem bs_s1 {v : Nat → Option Int} {p : Nat} {x l h : Int} (hv : v p = some x) (hs : sf_s v (1, p, 0, l, h, 0)) : l ≤ x ∧ x ≤ h := by
  obtain ⟨y, h1, h2, h3⟩ := hs.1 rfl
  have : x = y := Option.some.inj (hv.symm.trans h1)
  subst this
  exact ⟨h2, h3⟩
theorem bs_s3 {v : Nat → Option Int} {p q : Nat} {x y l h c : Int} (hv : v p = some x) (hw : v q = some y) (hs : sf_s v (3, p, q, l, h, c)) : x = c ∨ (l ≤ y ∧ y ≤ h) := by
  obtain ⟨z, h1, h2⟩ := hs.2.2 rfl
  have e : x = z := Option.some.inj (hv.symm.trans h1)
  subst e
  rcases h2 with h2 | ⟨w, h3, h4, h5⟩
  · exact Or.inl h2
  · have : y = w := Option.some.inj (hw.symm.trans h3)
    subst this
    exact Or.inr ⟨h4, h5⟩
theorem bs_anI {t : Nat → Nat} {n a b : Nat} {r : Option Value} (h : sf_an t n (some (0, a, b)) r) : ∃ z, r = some (.int z) := by
  obtain ⟨v, h1, h2⟩ := h.2 _ rfl
  obtain ⟨z, hz⟩ := h2.1 rfl
  cases hz
  exact ⟨z, h1⟩
theorem bs_an0 {t : Nat → Nat} {n : Nat} {z : Int32} : sf_an t n (some (0, 0, 0)) (some (.int z)) := ⟨fun e => (by cases e), fun k e => by cases e; exact ⟨_, rfl, sf_j0⟩⟩
theorem bs_anU {t : Nat → Nat} {n : Nat} : sf_an t n none none := ⟨fun _ => rfl, fun k e => by cases e⟩
theorem bs_rcv {t : Nat → Nat} {hp : ab_H} {a g ci : Nat} {As : List Value} (H : sf_h t hp) (hR : bs_R t hp a g) (hg : g < 100) (hci : ci = sf_o g) : ab_rcv ci (.ref a :: As) hp = true := by
  subst hci
  have hcell := H.1 a hR.1
  rw [hR.2] at hcell
  cases hc : hp.2 a with
  | inl x =>
    rw [hc] at hcell
    exact absurd hcell.1 (by omega)
  | inr o =>
    rw [hc] at hcell
    have e1 : o.1 = sf_o g := hcell.1
    show (decide (a < hp.1) && _) = true
    rw [decide_eq_true hR.1, hc]
    show (true && (o.1 == sf_o g)) = true
    rw [e1, beq_self_eq_true]
    rfl
theorem n_remc {x y : Int32} {c : Int} (hy : y.toInt = c) (hc : 0 < c) (hx : 0 ≤ x.toInt) : (x - x / y * y).toInt = x.toInt % c := by
  rw [n_rem (by omega), hy, Int.tmod_eq_emod_of_nonneg hx]
section BS
variable {T : Nat → Option ab_A} {i j : Nat} {lo : List (Option Value)} {st : List Value} {u : Nat × Nat} {hp : ab_H} {Q : ab_O → Prop} {t : Nat → Nat} {x y : Int32}
theorem bs_rem (c : Int) (hT : T i = some (ab_nx j ab_irem)) (hy : y.toInt = c) (hc : 0 < c) (hx : 0 ≤ x.toInt) (h : ∀ z : Int32, z.toInt = x.toInt % c → Ev T j (lo, .int z :: st, u, hp) Q) : Ev T i (lo, .int y :: .int x :: st, u, hp) Q := by
  have y0 : y ≠ 0 := fun e => by
    rw [e] at hy
    have e0 : (0 : Int32).toInt = 0 := rfl
    omega
  refine Ev.step hT (s' := (lo, .int (x - x / y * y) :: st, u, hp)) ?_ (h _ (n_remc hy hc hx))
  unfold ab_nx ab_irem
  dsimp only
  rw [decide_eq_false y0]
  rfl
theorem bs_and (hT : T i = some (ab_nx j (ab_bin (fun x y => x &&& y)))) (hy : 0 ≤ y.toInt) (h : ∀ z : Int32, 0 ≤ z.toInt → z.toInt ≤ y.toInt → Ev T j (lo, .int z :: st, u, hp) Q) : Ev T i (lo, .int y :: .int x :: st, u, hp) Q := Ev.step hT rfl (h _ (n_and hy).1 (n_and hy).2)
theorem bs_iinc {k : Nat} {n : Int32} (c : Int) (hT : T i = some (ab_nx j (ab_iinc k n))) (hc : n.toInt = c) (hx : lo[k]? = some (some (.int x))) (hf : ab_fr lo k = true) (h1 : -2147483648 ≤ x.toInt + c) (h2 : x.toInt + c ≤ 2147483647) (h : ∀ z : Int32, z.toInt = x.toInt + c → Ev T j (lo.set k (some (.int z)), st, u, hp) Q) : Ev T i (lo, st, u, hp) Q := by
  refine Ev.step hT (s' := (lo.set k (some (.int (x + n))), st, u, hp)) ?_ (h _ (by rw [← hc]; exact n_add (by omega) (by omega)))
  unfold ab_nx ab_iinc
  dsimp only
  rw [hx]
  dsimp only
  rw [hf]
  rfl
theorem bs_max {MC MS : Nat} (hT : T i = some (ab_nx j (ab_mm ab_max MC MS))) (hc : (decide (ab_cats st ≤ 8) && decide (u.1 ≤ MC) && decide (u.2 ≤ MS)) = true) (h : ∀ z : Int32, z.toInt = max x.toInt y.toInt → Ev T j (lo, .int z :: st, u, hp) Q) : Ev T i (lo, .int y :: .int x :: st, u, hp) Q := by
  refine Ev.step hT (s' := (lo, .int (ab_max x y) :: st, u, hp)) ?_ (h _ ?_)
  · unfold ab_nx ab_mm
    dsimp only
    rw [hc]
    rfl
  · unfold ab_max
    by_cases e : x < y
    · rw [if_pos e]
      have := Int32.lt_iff_toInt_lt.mp e
      omega
    · rw [if_neg e]
      have : ¬ x.toInt < y.toInt := fun h => e (Int32.lt_iff_toInt_lt.mpr h)
      omega
theorem bs_min {MC MS : Nat} (hT : T i = some (ab_nx j (ab_mm ab_min MC MS))) (hc : (decide (ab_cats st ≤ 8) && decide (u.1 ≤ MC) && decide (u.2 ≤ MS)) = true) (h : ∀ z : Int32, z.toInt = min x.toInt y.toInt → Ev T j (lo, .int z :: st, u, hp) Q) : Ev T i (lo, .int y :: .int x :: st, u, hp) Q := by
  refine Ev.step hT (s' := (lo, .int (ab_min x y) :: st, u, hp)) ?_ (h _ ?_)
  · unfold ab_nx ab_mm
    dsimp only
    rw [hc]
    rfl
  · unfold ab_min
    by_cases e : y < x
    · rw [if_pos e]
      have := Int32.lt_iff_toInt_lt.mp e
      omega
    · rw [if_neg e]
      have : ¬ y.toInt < x.toInt := fun h => e (Int32.lt_iff_toInt_lt.mpr h)
      omega
theorem bs_zret {MC MS : Nat} (hT : T i = some (ab_zret MC MS)) (hu : (decide (u.1 ≤ MC) && decide (u.2 ≤ MS)) = true) (h0 : 0 ≤ x.toInt) (h1 : x.toInt ≤ 1) (h : Q (some (.int x), hp)) : Ev T i (lo, [.int x], u, hp) Q := by
  refine Ev.ret hT (o := (some (.int x), hp)) ?_ h
  have e : (decide (x = 0) || decide (x = 1)) = true := by
    rcases (show x.toInt = 0 ∨ x.toInt = 1 by omega) with h | h
    · rw [decide_eq_true (show x = 0 from Int32.toInt_inj.mp h)]
      rfl
    · rw [decide_eq_true (show x = 1 from Int32.toInt_inj.mp h), Bool.or_true]
  unfold ab_zret
  dsimp only
  rw [hu, e]
  rfl
theorem bs_putI {W : List (Nat × Nat × Nat)} {a g k kd ci : Nat} {l0 h0 : Int} (hT : T i = some (ab_nx j (ab_putf ci k kd))) (hci : ci = sf_o g) (H : sf_h t hp) (hR : bs_R t hp a g) (hg : g < 100) (hk : (sf_C g)[k]? = some (0, l0, h0)) (hW : sf_cv W g k k = true) (hs : (decide (g ≠ 5) || decide (2 ≤ k)) = true) (hm : (sf_mk W || decide (g ≠ 11) || (decide (k ≠ 4) && decide (k ≠ 11))) = true)
    (hf : kd = 0 ∨ (kd = 3 ∧ 0 ≤ x.toInt ∧ x.toInt ≤ 1)) (x0 : l0 ≤ x.toInt) (x1 : x.toInt ≤ h0) (h : ∀ hp', sf_h t hp' → sf_fr W t hp t hp' → sf_rd hp' a k = some x.toInt → (∀ b q, b ≠ a ∨ q ≠ k → sf_rd hp' b q = sf_rd hp b q) → (∀ b q, sf_rr hp' b q = sf_rr hp b q) → hp'.1 = hp.1 → Ev T j (lo, st, u, hp') Q) : Ev T i (lo, .int x :: .ref a :: st, u, hp) Q := by
  subst hci
  obtain ⟨fs, v, e1, e2, e3⟩ := sf_get H hR.1 hR.2 hg hk
  have hilt : k < fs.length := (List.getElem?_eq_some_iff.mp e2).1
  simp only [Bool.or_eq_true, Bool.and_eq_true, decide_eq_true_eq] at hs hm
  obtain ⟨cv1, cv2⟩ := sf_cv_ok hW
  have hr : ∀ b q, b ≠ a ∨ q ≠ k → sf_rd (ab_up hp a (.inr (sf_o g, fs.set k (.int x)))) b q = sf_rd hp b q := by
    intro b q hq
    by_cases e : b = a
    · subst e
      rw [sf_rd_up_obj, List.getElem?_set_ne (by rcases hq with h | h; exact absurd rfl h; exact Ne.symm h)]
      unfold sf_rd
      rw [e1]
    · exact sf_rd_up_ne e
  have hrr : ∀ b q, sf_rr (ab_up hp a (.inr (sf_o g, fs.set k (.int x)))) b q = sf_rr hp b q := by
    intro b q
    by_cases e : b = a
    · subst e
      unfold sf_rr
      rw [ab_up_eq, e1]
      dsimp only
      by_cases e : q = k
      · subst e
        rw [List.getElem?_set_self hilt, e2]
        cases v with
        | ref c => exact absurd e3.1 (by show (0 : Nat) ≠ 1; decide)
        | _ => rfl
      · rw [List.getElem?_set_ne (Ne.symm e)]
    · exact sf_rr_up_ne e
  have sp : sf_sp (t a) k = false := by
    rw [hR.2]
    unfold sf_sp
    rw [decide_eq_false (show ¬ g = 103 by omega), decide_eq_false (show ¬ g = 104 by omega), decide_eq_false (show ¬ g = 106 by omega), decide_eq_false (show ¬ g = 107 by omega), decide_eq_false (show ¬ g = 145 by omega), decide_eq_false (show ¬ g = 132 by omega)]
    rfl
  refine Ev.putf hT hR.1 e1 hilt ?_ (h _ (sf_put H hR.1 hR.2 e1 hk ⟨rfl, x0, x1⟩ (sf_I_up H (i0 := k) (i1 := k) sp (fun q hq => hr a q (Or.inr (by omega))) (fun _ => ⟨hrr a 0, hrr a 1⟩))) (sf_fr_up (i0 := k) (i1 := k) (by rw [hR.2]; exact cv1) cv2 (fun q hq => hr a q (Or.inr (by omega))) ?_) ?_ hr hrr rfl)
  · rcases hf with rfl | ⟨rfl, h1, h2⟩
    · rfl
    · show (decide (x = 0) || decide (x = 1)) = true
      rcases (show x.toInt = 0 ∨ x.toInt = 1 by omega) with h | h
      · rw [decide_eq_true (show x = 0 from Int32.toInt_inj.mp h)]
        rfl
      · rw [decide_eq_true (show x = 1 from Int32.toInt_inj.mp h), Bool.or_true]
  · rcases hm with (h | h) | h
    · exact Or.inl h
    · exact Or.inr (Or.inl fun e => h (by rw [← hR.2, e]; exact (H.2.2.1 11 69 rfl).2))
    · exact Or.inr (Or.inr ⟨by omega, by omega⟩)
  · rw [sf_rd_up_obj, List.getElem?_set_self hilt]
    rfl
theorem bs_st {W : List (Nat × Nat × Nat)} {a g : Nat} (i0 i1 : Nat) (r : Int × Int) (hT : T i = some (ab_nx j (ab_ast 1))) (H : sf_h t hp) (hR : bs_R t hp a g) (hg : 100 ≤ g) (hk : (sf_A g).1 = 1) (hal : sf_al (sf_A g).2.2 i0 i1 r = true) (hl : i1 < (sf_A g).2.1) (hW : sf_cv W g i0 i1 = true) (hsp : sf_sp g i1 = false)
    (x0 : (i0 : Int) ≤ x.toInt) (x1 : x.toInt ≤ (i1 : Int)) (y0 : r.1 ≤ y.toInt) (y1 : y.toInt ≤ r.2) (h : ∀ hp', sf_h t hp' → sf_fr W t hp t hp' → sf_rd hp' a x.toInt.toNat = some y.toInt → (∀ b q, b ≠ a ∨ q ≠ x.toInt.toNat → sf_rd hp' b q = sf_rd hp b q) → (∀ b q, sf_rr hp' b q = sf_rr hp b q) → hp'.1 = hp.1 → Ev T j (lo, st, u, hp') Q) : Ev T i (lo, .int y :: .int x :: .ref a :: st, u, hp) Q := by
  obtain ⟨f, e1, e2⟩ := sf_arr H hR.1 hR.2 hg (by rw [hk]; decide) (by rw [hk]; decide)
  obtain ⟨cv1, cv2⟩ := sf_cv_ok hW
  have x0' : 0 ≤ x.toInt := by omega
  have x1' : x.toInt < ((sf_A g).2.1 : Int) := by omega
  have hidx := n_idx x0'
  have en : x.toNatClampNeg = x.toInt.toNat := by omega
  have hj : x.toInt.toNat < (sf_A g).2.1 := by omega
  rw [hk] at e1
  have hr : ∀ b q, b ≠ a ∨ q ≠ x.toInt.toNat → sf_rd (ab_up hp a (.inl (1, (sf_A g).2.1, .inl (upd f x.toInt.toNat y)))) b q = sf_rd hp b q := by
    intro b q hq
    by_cases e : b = a
    · subst e
      rw [sf_rd_up_arr]
      unfold sf_rd
      rw [e1]
      show cond (decide (q < (sf_A g).2.1)) (some (if q = x.toInt.toNat then y else f q).toInt) none = cond (decide (q < (sf_A g).2.1)) (some (f q).toInt) none
      rw [if_neg (by rcases hq with h | h; exact absurd rfl h; exact h)]
    · exact sf_rd_up_ne e
  have hrr : ∀ b q, sf_rr (ab_up hp a (.inl (1, (sf_A g).2.1, .inl (upd f x.toInt.toNat y)))) b q = sf_rr hp b q := by
    intro b q
    by_cases e : b = a
    · subst e
      unfold sf_rr
      rw [ab_up_eq, e1]
    · exact sf_rr_up_ne e
  have hI := sf_I_up H (i0 := i0) (i1 := i1) (c := .inl (1, (sf_A g).2.1, .inl (upd f x.toInt.toNat y))) (by rw [hR.2]; exact hsp) (fun q hq => hr a q (Or.inr (by omega))) (fun h5 => absurd (hR.2.symm.trans h5) (by omega))
  have H' : sf_h t (ab_up hp a (.inl (1, (sf_A g).2.1, .inl (upd f x.toInt.toNat y)))) := by
    have := sf_arr_put H hR.1 hR.2 hg (by rw [hk]; decide) (by rw [hk]; decide) (f := upd f x.toInt.toNat y) (fun q hq => by
      show sf_v t hp.1 _ (.int (if q = x.toInt.toNat then y else f q))
      by_cases e : q = x.toInt.toNat
      · rw [if_pos e, e]
        exact sf_al_ok ⟨y0, y1⟩ (by omega) (by omega) hal
      · rw [if_neg e]
        exact e2 q hq) (by rw [hk]; exact hI)
    rw [hk] at this
    exact this
  refine Ev.ast hT hR.1 e1 (n_in x0' x1') ?_
  rw [en]
  refine h _ H' (sf_fr_up (by rw [hR.2]; exact cv1) cv2 (fun q hq => hr a q (Or.inr (by omega))) (Or.inr (Or.inl (sf_n69 H hR.2 hg)))) ?_ hr hrr rfl
  rw [sf_rd_up_arr, decide_eq_true hj]
  show some (if x.toInt.toNat = x.toInt.toNat then y else f _).toInt = _
  rw [if_pos rfl]
theorem bs_last {W : List (Nat × Nat × Nat)} {a g : Nat} {w : Int64} (hT : T i = some (ab_nx j ab_last)) (H : sf_h t hp) (hR : bs_R t hp a g) (hg : 100 ≤ g) (hk : (sf_A g).1 = 2) (hW : sf_cv W g 0 0 = true) (x0 : 0 ≤ x.toInt) (x1 : x.toInt < ((sf_A g).2.1 : Int))
    (h : ∀ hp', sf_h t hp' → sf_fr W t hp t hp' → (∀ b q, sf_rd hp' b q = sf_rd hp b q) → (∀ b q, sf_rr hp' b q = sf_rr hp b q) → hp'.1 = hp.1 → Ev T j (lo, st, u, hp') Q) : Ev T i (lo, .long w :: .int x :: .ref a :: st, u, hp) Q := by
  obtain ⟨f, e1⟩ := sf_larr H hR.1 hR.2 hg hk
  obtain ⟨cv1, cv2⟩ := sf_cv_ok hW
  have hr : ∀ b q, sf_rd (ab_up hp a (.inl (2, (sf_A g).2.1, .inr (.inl (vp_updL f x.toNatClampNeg w))))) b q = sf_rd hp b q := by
    intro b q
    by_cases e : b = a
    · subst e
      rw [sf_rd_up_larr]
      unfold sf_rd
      rw [e1]
    · exact sf_rd_up_ne e
  have hrr : ∀ b q, sf_rr (ab_up hp a (.inl (2, (sf_A g).2.1, .inr (.inl (vp_updL f x.toNatClampNeg w))))) b q = sf_rr hp b q := by
    intro b q
    by_cases e : b = a
    · subst e
      unfold sf_rr
      rw [ab_up_eq, e1]
    · exact sf_rr_up_ne e
  refine Ev.last hT hR.1 e1 (n_in x0 x1) (h _ (sf_larr_put H hR.1 hR.2 hg hk (sf_I_up H (i0 := 0) (i1 := 0) (by rw [hR.2]; exact sf_sp2 hk) (fun q _ => hr a q) (fun h5 => absurd (hR.2.symm.trans h5) (by omega)))) (sf_fr_up (i0 := 0) (i1 := 0) (by rw [hR.2]; exact cv1) cv2 (fun q _ => hr a q) (Or.inr (Or.inl (sf_n69 H hR.2 hg)))) hr hrr rfl)
theorem bs_call {K : sf_Q} {X : List Value → ab_H → Option ab_O} {nA ci mc ms MC MS : Nat} (as rest : List Value) (hT : T i = some (ab_nx j (ab_callV nA ci X mc ms MC MS))) (hK : sf_ct K X) (H : sf_h t hp) (hst : st = as.reverse ++ rest) (hn : as.length = nA) (hl : as.length = K.1.length) (hrc : ab_rcv ci as hp = true) (hcat : (decide (ab_cats rest ≤ 8) && decide (u.1 + mc ≤ MC) && decide (u.2 + ms ≤ MS)) = true)
    (hj : ∀ (q : Nat) (k : sf_J), K.1[q]? = some k → sf_j t hp.1 k as[q]?) (hpre : sf_S (sf_v0 as hp) K.2.1) (h : ∀ r hp' t', sf_h t' hp' → sf_fr K.2.2.2.2 t hp t' hp' → sf_an t' hp'.1 K.2.2.1 r → sf_S (sf_v1 r as hp') K.2.2.2.1 → Ev T j (lo, r.toList ++ rest, (u.1 + mc, u.2 + ms), hp') Q) : Ev T i (lo, st, u, hp) Q := by
  subst hst
  obtain ⟨r, hp', t', h1, h2, h3, h4, h5⟩ := hK t hp as H hl hj hpre
  have e1 : ((as.reverse ++ rest).take nA).reverse = as := by rw [List.take_left' (by rw [List.length_reverse]; exact hn), List.reverse_reverse]
  have e2 : (as.reverse ++ rest).drop nA = rest := List.drop_left' (by rw [List.length_reverse]; exact hn)
  have hh := h r hp' t' h2 h3 h4 h5
  refine Ev.callV hT (by rw [e1]; exact hrc) ?_ (by rw [e1]; exact h1) (by rw [e2]; exact hh)
  rw [e2, decide_eq_true (show nA ≤ (as.reverse ++ rest).length by rw [List.length_append, List.length_reverse, hn]; exact Nat.le_add_right _ _), Bool.true_and]
  exact hcat
theorem bs_callS {K : sf_Q} {X : List Value → ab_H → Option ab_O} {nA mc ms MC MS : Nat} (as rest : List Value) (hT : T i = some (ab_nx j (ab_call nA X mc ms MC MS))) (hK : sf_ct K X) (H : sf_h t hp) (hst : st = as.reverse ++ rest) (hn : as.length = nA) (hl : as.length = K.1.length) (hcat : (decide (ab_cats rest ≤ 8) && decide (u.1 + mc ≤ MC) && decide (u.2 + ms ≤ MS)) = true)
    (hj : ∀ (q : Nat) (k : sf_J), K.1[q]? = some k → sf_j t hp.1 k as[q]?) (hpre : sf_S (sf_v0 as hp) K.2.1) (h : ∀ r hp' t', sf_h t' hp' → sf_fr K.2.2.2.2 t hp t' hp' → sf_an t' hp'.1 K.2.2.1 r → sf_S (sf_v1 r as hp') K.2.2.2.1 → Ev T j (lo, r.toList ++ rest, (u.1 + mc, u.2 + ms), hp') Q) : Ev T i (lo, st, u, hp) Q := by
  subst hst
  obtain ⟨r, hp', t', h1, h2, h3, h4, h5⟩ := hK t hp as H hl hj hpre
  have e1 : ((as.reverse ++ rest).take nA).reverse = as := by rw [List.take_left' (by rw [List.length_reverse]; exact hn), List.reverse_reverse]
  have e2 : (as.reverse ++ rest).drop nA = rest := List.drop_left' (by rw [List.length_reverse]; exact hn)
  have hh := h r hp' t' h2 h3 h4 h5
  refine Ev.call hT ?_ (by rw [e1]; exact h1) (by rw [e2]; exact hh)
  rw [e2, decide_eq_true (show nA ≤ (as.reverse ++ rest).length by rw [List.length_append, List.length_reverse, hn]; exact Nat.le_add_right _ _), Bool.true_and]
  exact hcat
end BS
theorem Ev.inlS {T : Nat → Option ab_A} {i j : Nat} {lo : List (Option Value)} {st : List Value} {u : Nat × Nat} {hp : ab_H} {Q : ab_O → Prop} {nA nL mc ms MC MS : Nat} {L : List (Nat × ab_A)} (hT : T i = some (ab_nx j (ab_call nA (ab_X (ab_T L) nL) mc ms MC MS))) (hc : (decide (nA ≤ st.length) && decide (ab_cats (st.drop nA) ≤ 8) && decide (u.1 + mc ≤ MC) && decide (u.2 + ms ≤ MS)) = true)
    (hl : (ab_ent (st.take nA).reverse).length ≤ nL) (h : Ev (ab_T L) 0 (ab_en nL (st.take nA).reverse, [], (0, 0), hp) (fun o => Ev T j (lo, o.1.toList ++ st.drop nA, (u.1 + mc, u.2 + ms), o.2) Q)) : Ev T i (lo, st, u, hp) Q := by
  obtain ⟨o, h1, h2⟩ := ab_X_ev hl h
  exact Ev.call hT hc h1 h2
theorem bs_tab {T : Nat → Option ab_A} {i : Nat} {lo : List (Option Value)} {st : List Value} {u : Nat × Nat} {hp : ab_H} {Q : ab_O → Prop} {x : Int32} {l0 : Int} {ts : List Nat} {d tg : Nat} (k : Nat) (hT : T i = some (ab_tab l0 ts d)) (hx : x.toInt = l0 + (k : Int)) (hts : ts[k]? = some tg) (h : Ev T tg (lo, st, u, hp) Q) : Ev T i (lo, .int x :: st, u, hp) Q := by
  refine Ev.step hT (s' := (lo, st, u, hp)) (j := tg) ?_ h
  unfold ab_tab
  dsimp only
  rw [decide_eq_false (show ¬ x.toInt < l0 by omega), show (x.toInt - l0).toNat = k by omega, hts]
  rfl
theorem bs_tabD {T : Nat → Option ab_A} {i : Nat} {lo : List (Option Value)} {st : List Value} {u : Nat × Nat} {hp : ab_H} {Q : ab_O → Prop} {x : Int32} {l0 : Int} {ts : List Nat} {d : Nat} (hT : T i = some (ab_tab l0 ts d)) (hx : x.toInt < l0 ∨ l0 + (ts.length : Int) ≤ x.toInt) (h : Ev T d (lo, st, u, hp) Q) : Ev T i (lo, .int x :: st, u, hp) Q := by
  refine Ev.step hT (s' := (lo, st, u, hp)) (j := d) ?_ h
  unfold ab_tab
  dsimp only
  by_cases c : x.toInt < l0
  · rw [decide_eq_true c]
    rfl
  · rw [decide_eq_false c, List.getElem?_eq_none (show ts.length ≤ (x.toInt - l0).toNat by omega)]
    rfl
theorem bs_nq {t : Nat → Nat} {hp : ab_H} {a b g g' : Nat} (h1 : bs_R t hp a g) (h2 : bs_R t hp b g') (hg : g ≠ g') : a ≠ b := fun e => hg (by rw [← h1.2, ← h2.2, e])
theorem bs_fld {t : Nat → Nat} {hp : ab_H} {a g k : Nat} {l0 h0 : Int} (H : sf_h t hp) (hR : bs_R t hp a g) (hg : g < 100) (hk : (sf_C g)[k]? = some (0, l0, h0)) : ∃ v : Int, sf_rd hp a k = some v ∧ l0 ≤ v ∧ v ≤ h0 := by
  obtain ⟨fs, v, e1, e2, e3⟩ := sf_get H hR.1 hR.2 hg hk
  cases v with
  | int z => exact ⟨z.toInt, by unfold sf_rd; rw [e1]; show sf_iv fs[k]? = _; rw [e2]; rfl, e3.2.1, e3.2.2⟩
  | ref b => exact absurd e3.1 (by show (0 : Nat) ≠ 1; decide)
  | null => exact absurd e3.1 (by show (0 : Nat) ≠ 1; decide)
  | long b => exact absurd e3 (by show (0 : Nat) ≠ 2; decide)
  | _ => exact e3.elim
theorem bs_elt {t : Nat → Nat} {hp : ab_H} {a g k : Nat} (i0 i1 : Nat) (r : Int × Int) (H : sf_h t hp) (hR : bs_R t hp a g) (hg : 100 ≤ g) (hk4 : (sf_A g).1 < 4) (hk2 : (sf_A g).1 ≠ 2) (hr : sf_hu (sf_A g).2.2 i0 i1 = r) (hl : i1 < (sf_A g).2.1) (x0 : i0 ≤ k) (x1 : k ≤ i1) : ∃ v : Int, sf_rd hp a k = some v ∧ r.1 ≤ v ∧ v ≤ r.2 := by
  subst hr
  obtain ⟨f, e1, e2⟩ := sf_arr H hR.1 hR.2 hg hk4 hk2
  have hh := sf_hu_ok x0 x1 (e2 k (by omega))
  refine ⟨(f k).toInt, ?_, hh.1, hh.2⟩
  unfold sf_rd
  rw [e1]
  dsimp only
  rw [decide_eq_true (show k < (sf_A g).2.1 by omega)]
  rfl
