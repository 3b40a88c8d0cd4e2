/-! ===== longs with their values ===== -/
def sf_rl (hp : ab_H) (a i : Nat) : Option Int64 := match hp.2 a with
  | .inr o => match o.2[i]? with
    | some (.long w) => some w
    | _ => none
  | .inl x => match x.2.2 with
    | .inr (.inl f) => cond (decide (i < x.2.1)) (some (f i)) none
    | _ => none
theorem sf_rl_cell {hp hp' : ab_H} {a i : Nat} (h : hp'.2 a = hp.2 a) : sf_rl hp' a i = sf_rl hp a i := by
  unfold sf_rl
  rw [h]
theorem sf_rl_up_ne {hp : ab_H} {a b i : Nat} {c : ab_E} (h : b ≠ a) : sf_rl (ab_up hp a c) b i = sf_rl hp b i := sf_rl_cell (ab_up_ne h)
theorem sf_rd_cell {hp hp' : ab_H} {a i : Nat} (h : hp'.2 a = hp.2 a) : sf_rd hp' a i = sf_rd hp a i := by
  unfold sf_rd
  rw [h]
theorem sf_rr_cell {hp hp' : ab_H} {a i : Nat} (h : hp'.2 a = hp.2 a) : sf_rr hp' a i = sf_rr hp a i := by
  unfold sf_rr
  rw [h]
/-- an element of a long array lies there -/
theorem sf_rl_at {hp : ab_H} {a i n : Nat} {f : Nat → Int64} (h : hp.2 a = .inl (2, n, .inr (.inl f))) (hi : i < n) : sf_rl hp a i = some (f i) := by
  unfold sf_rl
  rw [h]
  dsimp only
  rw [decide_eq_true hi]
  rfl
theorem l_add {x y : Int64} (h1 : -9223372036854775808 ≤ x.toInt + y.toInt) (h2 : x.toInt + y.toInt ≤ 9223372036854775807) : (x + y).toInt = x.toInt + y.toInt := by
  rw [Int64.toInt_add]
  exact Int.bmod_eq_of_le (by omega) (by omega)
theorem l_sub {x y : Int64} (h1 : -9223372036854775808 ≤ x.toInt - y.toInt) (h2 : x.toInt - y.toInt ≤ 9223372036854775807) : (x - y).toInt = x.toInt - y.toInt := by
  rw [Int64.toInt_sub]
  exact Int.bmod_eq_of_le (by omega) (by omega)
theorem l_mul {x y : Int64} (h1 : -9223372036854775808 ≤ x.toInt * y.toInt) (h2 : x.toInt * y.toInt ≤ 9223372036854775807) : (x * y).toInt = x.toInt * y.toInt := by
  rw [Int64.toInt_mul]
  exact Int.bmod_eq_of_le (by omega) (by omega)
theorem l_l2i {x : Int64} (h1 : -2147483648 ≤ x.toInt) (h2 : x.toInt ≤ 2147483647) : x.toInt32.toInt = x.toInt := by
  rw [Int64.toInt_toInt32]
  exact Int.bmod_eq_of_le (by omega) (by omega)
theorem n_and255 (x : Int32) : (x &&& 255).toInt = x.toInt % 256 := by
  have e : ∀ z : Int32, z.toInt = if 2 * z.toBitVec.toNat < 2 ^ 32 then (z.toBitVec.toNat : Int) else (z.toBitVec.toNat : Int) - (2 ^ 32 : Nat) := fun z => BitVec.toInt_eq_toNat_cond _
  have hx := e x
  have hz := e (x &&& 255)
  have hn : (x &&& 255).toBitVec.toNat = x.toBitVec.toNat % 256 := by
    rw [Int32.toBitVec_and, BitVec.toNat_and]
    exact Nat.and_two_pow_sub_one_eq_mod _ 8
  have hl := x.toBitVec.isLt
  split at hx <;> split at hz <;> omega
section BS
variable {T : Nat → Option ab_A} {i j : Nat} {lo : List (Option Value)} {st : List Value} {u : Nat × Nat} {hp : ab_H} {Q : ab_O → Prop} {t : Nat → Nat} {x y : Int32}
theorem bs_getLv {a g k : Nat} {ci : Nat} {l0 h0 : Int} (hT : T i = some (ab_nx j (ab_getf ci k))) (hci : ci = sf_o g) (H : sf_h t hp) (hR : bs_R t hp a g) (hg : g < 100) (hk : (sf_C g)[k]? = some (2, l0, h0)) (h : ∀ z : Int64, sf_rl hp a k = some z → Ev T j (lo, .long z :: st, u, hp) Q) : Ev T i (lo, .ref a :: st, u, hp) Q := by
  subst hci
  obtain ⟨fs, v, e1, e2, e3⟩ := sf_get H hR.1 hR.2 hg hk
  cases v with
  | int z => exact absurd e3.1 (by show (2 : Nat) ≠ 0; decide)
  | ref b => exact absurd e3.1 (by show (2 : Nat) ≠ 1; decide)
  | null => exact absurd e3.1 (by show (2 : Nat) ≠ 1; decide)
  | long b => exact Ev.getf hT hR.1 e1 e2 (h b (by unfold sf_rl; rw [e1]; dsimp only; rw [e2]))
  | _ => exact e3.elim
theorem bs_fldL {a g k : Nat} {l0 h0 : Int} (H : sf_h t hp) (hR : bs_R t hp a g) (hg : g < 100) (hk : (sf_C g)[k]? = some (2, l0, h0)) : ∃ w : Int64, sf_rl hp a k = some w := by
  obtain ⟨fs, v, e1, e2, e3⟩ := sf_get H hR.1 hR.2 hg hk
  cases v with
  | int z => exact absurd e3.1 (by show (2 : Nat) ≠ 0; decide)
  | ref b => exact absurd e3.1 (by show (2 : Nat) ≠ 1; decide)
  | null => exact absurd e3.1 (by show (2 : Nat) ≠ 1; decide)
  | long b => exact ⟨b, by unfold sf_rl; rw [e1]; dsimp only; rw [e2]⟩
  | _ => exact e3.elim
theorem bs_laldv {a g : Nat} (hT : T i = some (ab_nx j ab_lald)) (H : sf_h t hp) (hR : bs_R t hp a g) (hg : 100 ≤ g) (hk : (sf_A g).1 = 2) (x0 : 0 ≤ x.toInt) (x1 : x.toInt < ((sf_A g).2.1 : Int)) (h : ∀ z : Int64, sf_rl hp a x.toInt.toNat = some z → Ev T j (lo, .long z :: st, u, hp) Q) : Ev T i (lo, .int x :: .ref a :: st, u, hp) Q := by
  obtain ⟨f, e1⟩ := sf_larr H hR.1 hR.2 hg hk
  have hidx := n_idx x0
  have en : x.toNatClampNeg = x.toInt.toNat := by omega
  refine Ev.lald hT hR.1 e1 (n_in x0 x1) ?_
  rw [en]
  exact h _ (sf_rl_at e1 (by omega))
theorem bs_putLv {W : List (Nat × Nat × Nat)} {a g k ci : Nat} {w : Int64} {l0 h0 : Int} (hT : T i = some (ab_nx j (ab_putf ci k 1))) (hci : ci = sf_o g) (H : sf_h t hp) (hR : bs_R t hp a g) (hg : g < 100) (hk : (sf_C g)[k]? = some (2, l0, h0)) (hW : sf_cv W g k k = true) (hs : (decide (g ≠ 5) || decide (2 ≤ k)) = true) (hm : (sf_mk W || decide (g ≠ 11) || (decide (k ≠ 4) && decide (k ≠ 11))) = true)
    (h : ∀ hp', sf_h t hp' → sf_fr W t hp t hp' → sf_rl hp' a k = some w → (∀ b q, b ≠ a ∨ q ≠ k → sf_rl hp' b q = sf_rl hp b q) → (∀ b q, sf_rd hp' b q = sf_rd hp b q) → (∀ b q, sf_rr hp' b q = sf_rr hp b q) → Ev T j (lo, st, u, hp') Q) : Ev T i (lo, .long w :: .ref a :: st, u, hp) Q := by
  subst hci
  obtain ⟨fs, v, e1, e2, e3⟩ := sf_get H hR.1 hR.2 hg hk
  have hilt : k < fs.length := (List.getElem?_eq_some_iff.mp e2).1
  simp only [Bool.or_eq_true, Bool.and_eq_true, decide_eq_true_eq] at hs hm
  obtain ⟨cv1, cv2⟩ := sf_cv_ok hW
  have hvl : ∃ w' : Int64, v = .long w' := by
    cases v with
    | long w' => exact ⟨w', rfl⟩
    | int z => exact absurd (show (2 : Nat) = 0 from e3.1) (by decide)
    | ref z => exact absurd (show (2 : Nat) = 1 from e3.1) (by decide)
    | null => exact absurd (show (2 : Nat) = 1 from e3.1) (by decide)
    | _ => exact e3.elim
  obtain ⟨w', rfl⟩ := hvl
  have hr : ∀ b q, sf_rd (ab_up hp a (.inr (sf_o g, fs.set k (.long w)))) b q = sf_rd hp b q := by
    intro b q
    by_cases e : b = a
    · subst e
      rw [sf_rd_up_obj]
      unfold sf_rd
      rw [e1]
      dsimp only
      by_cases e : q = k
      · subst e
        rw [List.getElem?_set_self hilt, e2]
        rfl
      · rw [List.getElem?_set_ne (Ne.symm e)]
    · exact sf_rd_up_ne e
  have hrr : ∀ b q, sf_rr (ab_up hp a (.inr (sf_o g, fs.set k (.long w)))) b q = sf_rr hp b q := by
    intro b q
    by_cases e : b = a
    · subst e
      unfold sf_rr
      rw [ab_up_eq, e1]
      dsimp only
      by_cases e : q = k
      · subst e
        rw [List.getElem?_set_self hilt, e2]
      · rw [List.getElem?_set_ne (Ne.symm e)]
    · exact sf_rr_up_ne e
  have sp : sf_sp (t a) k = false := by
    rw [hR.2]
    unfold sf_sp
    rw [decide_eq_false (show ¬ g = 103 by omega), decide_eq_false (show ¬ g = 104 by omega), decide_eq_false (show ¬ g = 106 by omega), decide_eq_false (show ¬ g = 107 by omega), decide_eq_false (show ¬ g = 145 by omega), decide_eq_false (show ¬ g = 132 by omega)]
    rfl
  refine Ev.putf hT hR.1 e1 hilt rfl (h _ (sf_put H hR.1 hR.2 e1 hk rfl (sf_I_up H (i0 := k) (i1 := k) sp (fun q _ => hr a q) (fun _ => ⟨hrr a 0, hrr a 1⟩))) (sf_fr_up (i0 := k) (i1 := k) (by rw [hR.2]; exact cv1) cv2 (fun q _ => hr a q) ?_) ?_ ?_ hr hrr)
  · rcases hm with (h | h) | h
    · exact Or.inl h
    · exact Or.inr (Or.inl fun e => h (by rw [← hR.2, e]; exact (H.2.2.1 11 69 rfl).2))
    · exact Or.inr (Or.inr ⟨by omega, by omega⟩)
  · unfold sf_rl
    rw [ab_up_eq]
    dsimp only
    rw [List.getElem?_set_self hilt]
  · intro b q hq
    by_cases e : b = a
    · subst e
      unfold sf_rl
      rw [ab_up_eq, e1]
      dsimp only
      rw [List.getElem?_set_ne (by rcases hq with h | h; exact absurd rfl h; exact Ne.symm h)]
    · exact sf_rl_up_ne e
theorem bs_putIv {W : List (Nat × Nat × Nat)} {a g k kd ci : Nat} {l0 h0 : Int} (hT : T i = some (ab_nx j (ab_putf ci k kd))) (hci : ci = sf_o g) (H : sf_h t hp) (hR : bs_R t hp a g) (hg : g < 100) (hk : (sf_C g)[k]? = some (0, l0, h0)) (hW : sf_cv W g k k = true) (hs : (decide (g ≠ 5) || decide (2 ≤ k)) = true) (hm : (sf_mk W || decide (g ≠ 11) || (decide (k ≠ 4) && decide (k ≠ 11))) = true)
    (hf : kd = 0 ∨ (kd = 3 ∧ 0 ≤ x.toInt ∧ x.toInt ≤ 1)) (x0 : l0 ≤ x.toInt) (x1 : x.toInt ≤ h0) (h : ∀ hp', sf_h t hp' → sf_fr W t hp t hp' → sf_rd hp' a k = some x.toInt → (∀ b q, b ≠ a ∨ q ≠ k → sf_rd hp' b q = sf_rd hp b q) → (∀ b q, sf_rr hp' b q = sf_rr hp b q) → (∀ b q, sf_rl hp' b q = sf_rl hp b q) → Ev T j (lo, st, u, hp') Q) : Ev T i (lo, .int x :: .ref a :: st, u, hp) Q := by
  subst hci
  obtain ⟨fs, v, e1, e2, e3⟩ := sf_get H hR.1 hR.2 hg hk
  have hilt : k < fs.length := (List.getElem?_eq_some_iff.mp e2).1
  simp only [Bool.or_eq_true, Bool.and_eq_true, decide_eq_true_eq] at hs hm
  obtain ⟨cv1, cv2⟩ := sf_cv_ok hW
  have hr : ∀ b q, b ≠ a ∨ q ≠ k → sf_rd (ab_up hp a (.inr (sf_o g, fs.set k (.int x)))) b q = sf_rd hp b q := by
    intro b q hq
    by_cases e : b = a
    · subst e
      rw [sf_rd_up_obj, List.getElem?_set_ne (by rcases hq with h | h; exact absurd rfl h; exact Ne.symm h)]
      unfold sf_rd
      rw [e1]
    · exact sf_rd_up_ne e
  have hrr : ∀ b q, sf_rr (ab_up hp a (.inr (sf_o g, fs.set k (.int x)))) b q = sf_rr hp b q := by
    intro b q
    by_cases e : b = a
    · subst e
      unfold sf_rr
      rw [ab_up_eq, e1]
      dsimp only
      by_cases e : q = k
      · subst e
        rw [List.getElem?_set_self hilt, e2]
        cases v with
        | ref c => exact absurd e3.1 (by show (0 : Nat) ≠ 1; decide)
        | _ => rfl
      · rw [List.getElem?_set_ne (Ne.symm e)]
    · exact sf_rr_up_ne e
  have hrl : ∀ b q, sf_rl (ab_up hp a (.inr (sf_o g, fs.set k (.int x)))) b q = sf_rl hp b q := by
    intro b q
    by_cases e : b = a
    · subst e
      unfold sf_rl
      rw [ab_up_eq, e1]
      dsimp only
      by_cases e : q = k
      · subst e
        rw [List.getElem?_set_self hilt, e2]
        cases v with
        | long c => exact absurd (show (0 : Nat) = 2 from e3) (by decide)
        | _ => rfl
      · rw [List.getElem?_set_ne (Ne.symm e)]
    · exact sf_rl_up_ne e
  have sp : sf_sp (t a) k = false := by
    rw [hR.2]
    unfold sf_sp
    rw [decide_eq_false (show ¬ g = 103 by omega), decide_eq_false (show ¬ g = 104 by omega), decide_eq_false (show ¬ g = 106 by omega), decide_eq_false (show ¬ g = 107 by omega), decide_eq_false (show ¬ g = 145 by omega), decide_eq_false (show ¬ g = 132 by omega)]
    rfl
  refine Ev.putf hT hR.1 e1 hilt ?_ (h _ (sf_put H hR.1 hR.2 e1 hk ⟨rfl, x0, x1⟩ (sf_I_up H (i0 := k) (i1 := k) sp (fun q hq => hr a q (Or.inr (by omega))) (fun _ => ⟨hrr a 0, hrr a 1⟩))) (sf_fr_up (i0 := k) (i1 := k) (by rw [hR.2]; exact cv1) cv2 (fun q hq => hr a q (Or.inr (by omega))) ?_) ?_ hr hrr hrl)
  · rcases hf with rfl | ⟨rfl, h1, h2⟩
    · rfl
    · show (decide (x = 0) || decide (x = 1)) = true
      rcases (show x.toInt = 0 ∨ x.toInt = 1 by omega) with h | h
      · rw [decide_eq_true (show x = 0 from Int32.toInt_inj.mp h)]
        rfl
      · rw [decide_eq_true (show x = 1 from Int32.toInt_inj.mp h), Bool.or_true]
  · rcases hm with (h | h) | h
    · exact Or.inl h
    · exact Or.inr (Or.inl fun e => h (by rw [← hR.2, e]; exact (H.2.2.1 11 69 rfl).2))
    · exact Or.inr (Or.inr ⟨by omega, by omega⟩)
  · rw [sf_rd_up_obj, List.getElem?_set_self hilt]
    rfl
theorem bs_lastv {W : List (Nat × Nat × Nat)} {a g : Nat} {w : Int64} (hT : T i = some (ab_nx j ab_last)) (H : sf_h t hp) (hR : bs_R t hp a g) (hg : 100 ≤ g) (hk : (sf_A g).1 = 2) (hW : sf_cv W g 0 0 = true) (x0 : 0 ≤ x.toInt) (x1 : x.toInt < ((sf_A g).2.1 : Int))
    (h : ∀ hp', sf_h t hp' → sf_fr W t hp t hp' → sf_rl hp' a x.toInt.toNat = some w → (∀ b q, b ≠ a ∨ q ≠ x.toInt.toNat → sf_rl hp' b q = sf_rl hp b q) → (∀ b q, sf_rd hp' b q = sf_rd hp b q) → (∀ b q, sf_rr hp' b q = sf_rr hp b q) → Ev T j (lo, st, u, hp') Q) : Ev T i (lo, .long w :: .int x :: .ref a :: st, u, hp) Q := by
  obtain ⟨f, e1⟩ := sf_larr H hR.1 hR.2 hg hk
  obtain ⟨cv1, cv2⟩ := sf_cv_ok hW
  have hidx := n_idx x0
  have en : x.toNatClampNeg = x.toInt.toNat := by omega
  have hj : x.toInt.toNat < (sf_A g).2.1 := by omega
  have hr : ∀ b q, sf_rd (ab_up hp a (.inl (2, (sf_A g).2.1, .inr (.inl (vp_updL f x.toNatClampNeg w))))) b q = sf_rd hp b q := by
    intro b q
    by_cases e : b = a
    · subst e
      rw [sf_rd_up_larr]
      unfold sf_rd
      rw [e1]
    · exact sf_rd_up_ne e
  have hrr : ∀ b q, sf_rr (ab_up hp a (.inl (2, (sf_A g).2.1, .inr (.inl (vp_updL f x.toNatClampNeg w))))) b q = sf_rr hp b q := by
    intro b q
    by_cases e : b = a
    · subst e
      unfold sf_rr
      rw [ab_up_eq, e1]
    · exact sf_rr_up_ne e
  refine Ev.last hT hR.1 e1 (n_in x0 x1) (h _ (sf_larr_put H hR.1 hR.2 hg hk (sf_I_up H (i0 := 0) (i1 := 0) (by rw [hR.2]; exact sf_sp2 hk) (fun q _ => hr a q) (fun h5 => absurd (hR.2.symm.trans h5) (by omega)))) (sf_fr_up (i0 := 0) (i1 := 0) (by rw [hR.2]; exact cv1) cv2 (fun q _ => hr a q) (Or.inr (Or.inl (sf_n69 H hR.2 hg)))) ?_ ?_ hr hrr)
  · rw [sf_rl_at (ab_up_eq _ _ _) hj, en]
    show some (if x.toInt.toNat = x.toInt.toNat then w else f _) = _
    rw [if_pos rfl]
  · intro b q hq
    by_cases e : b = a
    · subst e
      unfold sf_rl
      rw [ab_up_eq, e1]
      dsimp only
      rw [en]
      show cond (decide (q < (sf_A g).2.1)) (some (if q = x.toInt.toNat then w else f q)) none = _
      rw [if_neg (by rcases hq with h | h; exact absurd rfl h; exact h)]
    · exact sf_rl_up_ne e
/-- steps of longs, exactly -/
theorem bs_lcmpv {v w : Int64} (hT : T i = some (ab_nx j ab_lcmp)) (h : ∀ z : Int32, (z.toInt = 0 ↔ v = w) → Ev T j (lo, .int z :: st, u, hp) Q) : Ev T i (lo, .long w :: .long v :: st, u, hp) Q :=
  Ev.step hT rfl (h (lg_cmp v w) ⟨fun e => (lg_cmp_eq v w).mp (Int32.toInt_inj.mp e), fun e => by rw [(lg_cmp_eq v w).mpr e]; rfl⟩)
theorem bs_l2iv {w : Int64} (hT : T i = some (ab_nx j ab_l2i)) (h : ∀ z : Int32, (0 ≤ w.toInt → w.toInt ≤ 999 → z.toInt = w.toInt) → Ev T j (lo, .int z :: st, u, hp) Q) : Ev T i (lo, .long w :: st, u, hp) Q :=
  Ev.step hT rfl (h w.toInt32 fun h1 h2 => l_l2i (by omega) (by omega))
theorem bs_and255 (hT : T i = some (ab_nx j (ab_bin (fun x y => x &&& y)))) (hy : y.toInt = 255) (h : ∀ z : Int32, z.toInt = x.toInt % 256 → Ev T j (lo, .int z :: st, u, hp) Q) : Ev T i (lo, .int y :: .int x :: st, u, hp) Q := by
  obtain rfl : y = 255 := Int32.toInt_inj.mp hy
  exact Ev.step hT rfl (h _ (n_and255 x))
end BS
theorem bs_aL {t : Nat → Nat} {n a b : Nat} {v : Value} (h : sf_j t n (2, a, b) (some v)) : ∃ x, v = .long x := by
  obtain ⟨x, hx⟩ := h.2.2.1 rfl
  cases hx
  exact ⟨x, rfl⟩
/-- what a number is that isn't written -/
theorem l_lit {k : Int} {w : Int64} (h : w.toInt = k) : w.toInt = k := h
theorem l_or8 {w c : Int64} {y : Int32} (hy : y.toInt = 8) (h0 : 0 ≤ w.toInt) (h1 : w.toInt < 281474976710656) (c0 : 0 ≤ c.toInt) (c1 : c.toInt < 256) : ((w <<< (y.toInt64 &&& 63)) ||| c).toInt = w.toInt * 256 + c.toInt := by
  obtain rfl : y = 8 := Int32.toInt_inj.mp hy
  have e : ∀ z : Int64, z.toInt = if 2 * z.toBitVec.toNat < 2 ^ 64 then (z.toBitVec.toNat : Int) else (z.toBitVec.toNat : Int) - (2 ^ 64 : Nat) := fun z => BitVec.toInt_eq_toNat_cond _
  have ew := e w
  have ec := e c
  have eo := e ((w <<< ((8 : Int32).toInt64 &&& 63)) ||| c)
  have lw := w.toBitVec.isLt
  have lc := c.toBitVec.isLt
  have nw : (w.toBitVec.toNat : Int) = w.toInt := by
    split at ew <;> omega
  have nc : (c.toBitVec.toNat : Int) = c.toInt := by
    split at ec <;> omega
  have es : (w <<< ((8 : Int32).toInt64 &&& 63)).toBitVec = w.toBitVec <<< (((8 : Int32).toInt64 &&& 63).toBitVec.smod 64) := rfl
  have hn : (((8 : Int32).toInt64 &&& 63).toBitVec.smod 64).toNat = 8 := by decide
  have ns : (w <<< ((8 : Int32).toInt64 &&& 63)).toBitVec.toNat = 2 ^ 8 * w.toBitVec.toNat := by
    rw [es, BitVec.shiftLeft_eq', BitVec.toNat_shiftLeft, hn, Nat.shiftLeft_eq]
    omega
  have no : ((w <<< ((8 : Int32).toInt64 &&& 63)) ||| c).toBitVec.toNat = 2 ^ 8 * w.toBitVec.toNat + c.toBitVec.toNat := by
    rw [Int64.toBitVec_or, BitVec.toNat_or, ns]
    exact (Nat.two_pow_add_eq_or_of_lt (by omega) _).symm
  split at eo <;> omega
section BS
variable {T : Nat → Option ab_A} {i j : Nat} {lo : List (Option Value)} {st : List Value} {u : Nat × Nat} {hp : ab_H} {Q : ab_O → Prop} {t : Nat → Nat} {x y : Int32}
theorem bs_getLe {a g k : Nat} {ci : Nat} {l0 h0 : Int} {w : Int64} (hT : T i = some (ab_nx j (ab_getf ci k))) (hci : ci = sf_o g) (H : sf_h t hp) (hR : bs_R t hp a g) (hg : g < 100) (hk : (sf_C g)[k]? = some (2, l0, h0)) (hw : sf_rl hp a k = some w) (h : Ev T j (lo, .long w :: st, u, hp) Q) : Ev T i (lo, .ref a :: st, u, hp) Q :=
  bs_getLv hT hci H hR hg hk fun z hz => by
    rw [Option.some.inj (hz.symm.trans hw)]
    exact h
theorem bs_lalde {a g : Nat} {w : Int64} (hT : T i = some (ab_nx j ab_lald)) (H : sf_h t hp) (hR : bs_R t hp a g) (hg : 100 ≤ g) (hk : (sf_A g).1 = 2) (x0 : 0 ≤ x.toInt) (x1 : x.toInt < ((sf_A g).2.1 : Int)) (hw : sf_rl hp a x.toInt.toNat = some w) (h : Ev T j (lo, .long w :: st, u, hp) Q) : Ev T i (lo, .int x :: .ref a :: st, u, hp) Q :=
  bs_laldv hT H hR hg hk x0 x1 fun z hz => by
    rw [Option.some.inj (hz.symm.trans hw)]
    exact h
theorem bs_stv {W : List (Nat × Nat × Nat)} {a g : Nat} (i0 i1 : Nat) (r : Int × Int) (hT : T i = some (ab_nx j (ab_ast 1))) (H : sf_h t hp) (hR : bs_R t hp a g) (hg : 100 ≤ g) (hk : (sf_A g).1 = 1) (hal : sf_al (sf_A g).2.2 i0 i1 r = true) (hl : i1 < (sf_A g).2.1) (hW : sf_cv W g i0 i1 = true) (hsp : sf_sp g i1 = false)
    (x0 : (i0 : Int) ≤ x.toInt) (x1 : x.toInt ≤ (i1 : Int)) (y0 : r.1 ≤ y.toInt) (y1 : y.toInt ≤ r.2) (h : ∀ hp', sf_h t hp' → sf_fr W t hp t hp' → sf_rd hp' a x.toInt.toNat = some y.toInt → (∀ b q, b ≠ a ∨ q ≠ x.toInt.toNat → sf_rd hp' b q = sf_rd hp b q) → (∀ b q, sf_rr hp' b q = sf_rr hp b q) → (∀ b q, sf_rl hp' b q = sf_rl hp b q) → Ev T j (lo, st, u, hp') Q) : Ev T i (lo, .int y :: .int x :: .ref a :: st, u, hp) Q := by
  obtain ⟨f, e1, e2⟩ := sf_arr H hR.1 hR.2 hg (by rw [hk]; decide) (by rw [hk]; decide)
  obtain ⟨cv1, cv2⟩ := sf_cv_ok hW
  have x0' : 0 ≤ x.toInt := by omega
  have x1' : x.toInt < ((sf_A g).2.1 : Int) := by omega
  have hidx := n_idx x0'
  have en : x.toNatClampNeg = x.toInt.toNat := by omega
  have hj : x.toInt.toNat < (sf_A g).2.1 := by omega
  rw [hk] at e1
  have hr : ∀ b q, b ≠ a ∨ q ≠ x.toInt.toNat → sf_rd (ab_up hp a (.inl (1, (sf_A g).2.1, .inl (upd f x.toInt.toNat y)))) b q = sf_rd hp b q := by
    intro b q hq
    by_cases e : b = a
    · subst e
      rw [sf_rd_up_arr]
      unfold sf_rd
      rw [e1]
      show cond (decide (q < (sf_A g).2.1)) (some (if q = x.toInt.toNat then y else f q).toInt) none = cond (decide (q < (sf_A g).2.1)) (some (f q).toInt) none
      rw [if_neg (by rcases hq with h | h; exact absurd rfl h; exact h)]
    · exact sf_rd_up_ne e
  have hrr : ∀ b q, sf_rr (ab_up hp a (.inl (1, (sf_A g).2.1, .inl (upd f x.toInt.toNat y)))) b q = sf_rr hp b q := by
    intro b q
    by_cases e : b = a
    · subst e
      unfold sf_rr
      rw [ab_up_eq, e1]
    · exact sf_rr_up_ne e
  have hrl : ∀ b q, sf_rl (ab_up hp a (.inl (1, (sf_A g).2.1, .inl (upd f x.toInt.toNat y)))) b q = sf_rl hp b q := by
    intro b q
    by_cases e : b = a
    · subst e
      unfold sf_rl
      rw [ab_up_eq, e1]
    · exact sf_rl_up_ne e
  have hI := sf_I_up H (i0 := i0) (i1 := i1) (c := .inl (1, (sf_A g).2.1, .inl (upd f x.toInt.toNat y))) (by rw [hR.2]; exact hsp) (fun q hq => hr a q (Or.inr (by omega))) (fun h5 => absurd (hR.2.symm.trans h5) (by omega))
  have H' : sf_h t (ab_up hp a (.inl (1, (sf_A g).2.1, .inl (upd f x.toInt.toNat y)))) := by
    have := sf_arr_put H hR.1 hR.2 hg (by rw [hk]; decide) (by rw [hk]; decide) (f := upd f x.toInt.toNat y) (fun q hq => by
      show sf_v t hp.1 _ (.int (if q = x.toInt.toNat then y else f q))
      by_cases e : q = x.toInt.toNat
      · rw [if_pos e, e]
        exact sf_al_ok ⟨y0, y1⟩ (by omega) (by omega) hal
      · rw [if_neg e]
        exact e2 q hq) (by rw [hk]; exact hI)
    rw [hk] at this
    exact this
  refine Ev.ast hT hR.1 e1 (n_in x0' x1') ?_
  rw [en]
  refine h _ H' (sf_fr_up (by rw [hR.2]; exact cv1) cv2 (fun q hq => hr a q (Or.inr (by omega))) (Or.inr (Or.inl (sf_n69 H hR.2 hg)))) ?_ hr hrr hrl
  rw [sf_rd_up_arr, decide_eq_true hj]
  show some (if x.toInt.toNat = x.toInt.toNat then y else f _).toInt = _
  rw [if_pos rfl]
end BS
