/-! ===== new cells ===== -/
theorem sf_ext {t t' : Nat → Nat} {hp hp' : ab_H} (H : sf_h t hp) (hn : hp.1 ≤ hp'.1) (hs : ∀ j, j < hp.1 → hp'.2 j = hp.2 j) (ht : ∀ j, j < hp.1 → t' j = t j) (hc : ∀ j, hp.1 ≤ j → j < hp'.1 → sf_c t' hp'.1 (t' j) (hp'.2 j) ∧ sf_P (t' j) = none)
    (h5 : ∀ j, hp.1 ≤ j → j < hp'.1 → t' j = 5 → j + 2 < hp'.1 ∧ t' (j + 1) = 106 ∧ t' (j + 2) = 107 ∧ sf_rr hp' j 0 = some (j + 1) ∧ sf_rr hp' j 1 = some (j + 2) ∧ ∀ i, i < 40 → ∀ x, sf_rd hp' (j + 1) i = some x → x ≤ 84 → ∃ y, sf_rd hp' (j + 2) i = some y ∧ 0 ≤ y ∧ y ≤ 1) : sf_h t' hp' ∧ sf_fr [] t hp t' hp' := by
  have h88 : 88 ≤ hp.1 := (H.2.2.1 148 87 rfl).1
  have hrd : ∀ j i, j < hp.1 → sf_rd hp' j i = sf_rd hp j i := fun j i hj => by
    unfold sf_rd
    rw [hs j hj]
  have hrr : ∀ j i, j < hp.1 → sf_rr hp' j i = sf_rr hp j i := fun j i hj => by
    unfold sf_rr
    rw [hs j hj]
  refine ⟨⟨fun j hj => ?_, fun j q hj hq => ?_, fun g q hq => ?_, ?_⟩, hn, ht, fun a ha i _ => hrd a i ha, fun a ha _ => hs a ha, fun _ => ?_⟩
  · by_cases c : j < hp.1
    · rw [hs j c, ht j c]
      exact sf_c_mono (H.1 j c) hn ht
    · exact (hc j (by omega) hj).1
  · by_cases c : j < hp.1
    · rw [ht j c] at hq
      exact H.2.1 j q c hq
    · rw [(hc j (by omega) hj).2] at hq
      cases hq
  · obtain ⟨h1, h2⟩ := H.2.2.1 g q hq
    exact ⟨by omega, (ht q h1).trans h2⟩
  · obtain ⟨i1, i2, i3, i4, i5⟩ := H.2.2.2
    refine ⟨fun a ha h5' => ?_, fun i hi hx => ?_, ?_, ?_, ?_⟩
    · by_cases c : a < hp.1
      · rw [ht a c] at h5'
        obtain ⟨q1, q2, q3, q4, q5, q6⟩ := i1 a c h5'
        have l1 : a + 1 < hp.1 := by omega
        refine ⟨by omega, (ht _ l1).trans q2, (ht _ q1).trans q3, (hrr a 0 c).trans q4, (hrr a 1 c).trans q5, fun i hi x hx hx2 => ?_⟩
        rw [hrd _ i l1] at hx
        rw [hrd _ i q1]
        exact q6 i hi x hx hx2
      · exact h5 a (by omega) ha h5'
    · rw [hrd 37 i (by omega)] at hx
      rw [hrd 38 i (by omega)]
      exact i2 i hi hx
    · have e : sf_cd hp' 71 253 = sf_cd hp 71 253 := funext fun j => by
        unfold sf_cd
        rw [hrd 71 _ (by omega)]
      rw [e]
      exact i3
    · have e : sf_cd hp' 84 253 = sf_cd hp 84 253 := funext fun j => by
        unfold sf_cd
        rw [hrd 84 _ (by omega)]
      rw [e]
      exact i4
    · have e : sf_cd hp' 84 687 = sf_cd hp 84 687 := funext fun j => by
        unfold sf_cd
        rw [hrd 84 _ (by omega)]
      rw [e]
      exact i5
  · unfold sf_psi
    rw [hrd 69 4 (by omega), hrd 69 11 (by omega)]
    exact Int.le_refl _
/-- the heap with some cells more -/
def al_L (hp : ab_H) (cs : List ab_E) : ab_H := (hp.1 + cs.length, fun j => if j < hp.1 then hp.2 j else (cs[j - hp.1]?).getD (hp.2 j))
def al_t (t : Nat → Nat) (n : Nat) (gs : List Nat) (j : Nat) : Nat := if j < n then t j else gs.getD (j - n) 0
theorem al_tk {t : Nat → Nat} {n d : Nat} {gs : List Nat} : al_t t n gs (n + d) = gs.getD d 0 := by
  unfold al_t
  rw [if_neg (by omega), Nat.add_sub_cancel_left]
theorem al_at {hp : ab_H} {cs : List ab_E} {d : Nat} {c : ab_E} (h : cs[d]? = some c) : (al_L hp cs).2 (hp.1 + d) = c := by
  show (if hp.1 + d < hp.1 then _ else (cs[hp.1 + d - hp.1]?).getD _) = c
  rw [if_neg (by omega), Nat.add_sub_cancel_left, h]
  rfl
theorem al_new {hp : ab_H} {c : ab_E} : ab_push hp c = al_L hp [c] := by
  refine Prod.ext rfl (funext fun j => ?_)
  show (if j = hp.1 then c else hp.2 j) = (if j < hp.1 then hp.2 j else ([c][j - hp.1]?).getD (hp.2 j))
  by_cases e : j = hp.1
  · rw [if_pos e, if_neg (by omega), show j - hp.1 = 0 by omega]
    rfl
  · rw [if_neg e]
    by_cases e2 : j < hp.1
    · rw [if_pos e2]
    · rw [if_neg e2, List.getElem?_eq_none (by show 1 ≤ _; omega)]
      rfl
theorem al_push {hp : ab_H} {cs : List ab_E} {c : ab_E} : ab_push (al_L hp cs) c = al_L hp (cs ++ [c]) := by
  refine Prod.ext (by show hp.1 + cs.length + 1 = hp.1 + (cs ++ [c]).length; rw [List.length_append]; rfl) (funext fun j => ?_)
  show (if j = hp.1 + cs.length then c else (if j < hp.1 then hp.2 j else (cs[j - hp.1]?).getD (hp.2 j))) = (if j < hp.1 then hp.2 j else ((cs ++ [c])[j - hp.1]?).getD (hp.2 j))
  by_cases e : j = hp.1 + cs.length
  · rw [if_pos e, if_neg (by omega), show j - hp.1 = cs.length by omega, List.getElem?_append_right (Nat.le_refl _), Nat.sub_self]
    rfl
  · rw [if_neg e]
    by_cases e2 : j < hp.1
    · rw [if_pos e2, if_pos e2]
    · rw [if_neg e2, if_neg e2]
      by_cases e3 : j - hp.1 < cs.length
      · rw [List.getElem?_append_left e3]
      · rw [List.getElem?_eq_none (by omega), List.getElem?_eq_none (by rw [List.length_append]; show cs.length + 1 ≤ _; omega)]
theorem al_up {hp : ab_H} {cs : List ab_E} {k : Nat} {c : ab_E} (hk : k < cs.length) : ab_up (al_L hp cs) (hp.1 + k) c = al_L hp (cs.set k c) := by
  refine Prod.ext (by show hp.1 + cs.length = hp.1 + (cs.set k c).length; rw [List.length_set]) (funext fun j => ?_)
  show (if j = hp.1 + k then c else (if j < hp.1 then hp.2 j else (cs[j - hp.1]?).getD (hp.2 j))) = (if j < hp.1 then hp.2 j else ((cs.set k c)[j - hp.1]?).getD (hp.2 j))
  by_cases e : j = hp.1 + k
  · rw [if_pos e, if_neg (by omega), show j - hp.1 = k by omega, List.getElem?_set_self hk]
    rfl
  · rw [if_neg e]
    by_cases e2 : j < hp.1
    · rw [if_pos e2, if_pos e2]
    · rw [if_neg e2, if_neg e2, List.getElem?_set_ne (by omega)]
theorem al_nest {hp : ab_H} {cs ds : List ab_E} : al_L (al_L hp cs) ds = al_L hp (cs ++ ds) := by
  refine Prod.ext (by show hp.1 + cs.length + ds.length = hp.1 + (cs ++ ds).length; rw [List.length_append]; omega) (funext fun j => ?_)
  show (if j < hp.1 + cs.length then (if j < hp.1 then hp.2 j else (cs[j - hp.1]?).getD (hp.2 j)) else (ds[j - (hp.1 + cs.length)]?).getD (if j < hp.1 then hp.2 j else (cs[j - hp.1]?).getD (hp.2 j))) = (if j < hp.1 then hp.2 j else ((cs ++ ds)[j - hp.1]?).getD (hp.2 j))
  by_cases e2 : j < hp.1
  · rw [if_pos e2, if_pos e2, if_pos (by omega)]
  · rw [if_neg e2, if_neg e2]
    by_cases e3 : j < hp.1 + cs.length
    · rw [if_pos e3, List.getElem?_append_left (by omega)]
    · rw [if_neg e3, List.getElem?_append_right (by omega), show j - hp.1 - cs.length = j - (hp.1 + cs.length) by omega, List.getElem?_eq_none (show cs.length ≤ j - hp.1 by omega)]
      rfl
abbrev al_i (n : Nat) : ab_E := .inl (1, n, .inl (fun _ => 0))
abbrev al_l (n : Nat) : ab_E := .inl (2, n, .inr (.inl (fun _ => 0)))
theorem al_e0 {t : Nat → Nat} {n g m : Nat} {l h : Int} {j : Nat} (he : (sf_A g).2.2 = [(m, (0, l, h))]) (hl : l ≤ 0) (hh : 0 ≤ h) (hj : j < m) : sf_v t n (sf_e (sf_A g).2.2 j) (.int 0) := by
  rw [he]
  show sf_v t n (cond (decide (j < m)) (0, l, h) _) _
  rw [decide_eq_true hj]
  exact ⟨rfl, hl, hh⟩
/-- one array more, put into a field -/
theorem al_step {T : Nat → Option ab_A} {p0 p1 p2 p3 p4 : Nat} {u : Nat × Nat} {hp : ab_H} {Q : ab_O → Prop} {ci k t0 MC MS len : Nat} {fs : List Value} {cs : List ab_E} {v : Int32} {a0 : Nat → vp_A} (h0 : T p0 = some (ab_nx p1 (ab_aload 0))) (h1 : T p1 = some (ab_nx p2 (ab_lit (.int v)))) (h2 : T p2 = some (ab_nx p3 (ab_newa t0 a0 MC MS))) (h3 : T p3 = some (ab_nx p4 (ab_putf ci k 2)))
    (hv : v.toNatClampNeg = len) (hb : (!(decide (v < 0)) && decide (v.toNatClampNeg ≤ 1000000) && decide (u.1 + 1 ≤ MC) && decide (u.2 + v.toNatClampNeg ≤ MS)) = true) (hk : k < fs.length) (h : Ev T p4 ([some (.ref hp.1)], [], (u.1 + 1, u.2 + len), al_L hp (.inr (ci, fs.set k (.ref (hp.1 + (cs.length + 1)))) :: (cs ++ [.inl (t0, a0 len)]))) Q) : Ev T p0 ([some (.ref hp.1)], [], u, al_L hp (.inr (ci, fs) :: cs)) Q := by
  subst hv
  refine Ev.step h0 rfl ?_
  refine Ev.step h1 rfl ?_
  refine Ev.nx (s' := ([some (.ref hp.1)], [.ref (al_L hp (.inr (ci, fs) :: cs)).1, .ref hp.1], (u.1 + 1, u.2 + v.toNatClampNeg), ab_push (al_L hp (.inr (ci, fs) :: cs)) (.inl (t0, a0 v.toNatClampNeg)))) h2 ?_ ?_
  · unfold ab_newa
    dsimp only
    rw [hb]
    rfl
  · rw [al_push]
    refine Ev.putf (fs := fs) h3 (show hp.1 < hp.1 + _ by rw [List.length_append]; show hp.1 < hp.1 + (cs.length + 1 + 1); omega) (al_at (d := 0) rfl) hk rfl ?_
    have e := al_up (hp := hp) (cs := .inr (ci, fs) :: cs ++ [.inl (t0, a0 v.toNatClampNeg)]) (k := 0) (c := .inr (ci, fs.set k (.ref (al_L hp (.inr (ci, fs) :: cs)).1))) (by show 0 < _ + 1; omega)
    rw [show hp.1 + 0 = hp.1 from rfl] at e
    rw [e]
    exact h
theorem al_putf {T : Nat → Option ab_A} {p0 p1 : Nat} {u : Nat × Nat} {hp : ab_H} {Q : ab_O → Prop} {ci k kd : Nat} {fs : List Value} {cs : List ab_E} {v : Value} {lo : List (Option Value)} {st : List Value} (h0 : T p0 = some (ab_nx p1 (ab_putf ci k kd))) (hk : k < fs.length) (hf : ab_fit kd v = true) (h : Ev T p1 (lo, st, u, al_L hp (.inr (ci, fs.set k v) :: cs)) Q) : Ev T p0 (lo, v :: .ref hp.1 :: st, u, al_L hp (.inr (ci, fs) :: cs)) Q := by
  refine Ev.putf (fs := fs) h0 (show hp.1 < hp.1 + (cs.length + 1) by omega) (al_at (d := 0) rfl) hk hf ?_
  have e := al_up (hp := hp) (cs := .inr (ci, fs) :: cs) (k := 0) (c := .inr (ci, fs.set k v)) (by show 0 < _ + 1; omega)
  rw [show hp.1 + 0 = hp.1 from rfl] at e
  rw [e]
  exact h
/-- new, dup, init -/
theorem al_call {T : Nat → Option ab_A} {p0 p1 p2 p3 MC MS ci N mc ms : Nat} {X : List Value → ab_H → Option ab_O} {fs : List Value} {lo : List (Option Value)} {st : List Value} {u : Nat × Nat} {hp : ab_H} {cs ds : List ab_E} {Q : ab_O → Prop} (h0 : T p0 = some (ab_nx p1 (ab_new ci N fs MC MS))) (h1 : T p1 = some (ab_nx p2 ab_dup)) (h2 : T p2 = some (ab_nx p3 (ab_call 1 X mc ms MC MS))) (hu : (decide (u.1 + 1 ≤ MC) && decide (u.2 + N ≤ MS)) = true) (hu2 : (decide (1 ≤ st.length + 1 + 1) && decide (ab_cats (.ref (al_L hp cs).1 :: st) ≤ 8) && decide (u.1 + 1 + mc ≤ MC) && decide (u.2 + N + ms ≤ MS)) = true) (hn : X [.ref (al_L hp cs).1] (ab_push (al_L hp cs) (.inr (ci, fs))) = some (none, al_L (al_L hp cs) ds)) (h : Ev T p3 (lo, .ref (hp.1 + cs.length) :: st, (u.1 + 1 + mc, u.2 + N + ms), al_L hp (cs ++ ds)) Q) : Ev T p0 (lo, st, u, al_L hp cs) Q := by
  refine Ev.nx h0 (s' := (lo, .ref (al_L hp cs).1 :: st, (u.1 + 1, u.2 + N), ab_push (al_L hp cs) (.inr (ci, fs)))) (by unfold ab_new; dsimp only; rw [hu]; rfl) ?_
  refine Ev.step h1 rfl ?_
  refine Ev.call h2 hu2 hn ?_
  rw [al_nest]
  exact h
/-- cells of their kinds -/
theorem al_ok {t : Nat → Nat} {hp : ab_H} {gs : List Nat} {cs : List ab_E} (H : sf_h t hp) (hl : gs.length = cs.length) (hc : ∀ (d : Nat) (c : ab_E) (g : Nat), cs[d]? = some c → gs[d]? = some g → sf_c (al_t t hp.1 gs) (hp.1 + cs.length) g c ∧ sf_P g = none)
    (h5 : ∀ d : Nat, gs[d]? = some 5 → d + 2 < cs.length ∧ gs[d + 1]? = some 106 ∧ gs[d + 2]? = some 107 ∧ (∃ r q, cs[d]? = some (.inr (r, .ref (hp.1 + (d + 1)) :: .ref (hp.1 + (d + 2)) :: q)) ∧ r = r ∧ q = q) ∧ (∃ r q, cs[d + 1]? = some (.inl (r, q, .inl (fun _ => 0)))) ∧ (∃ r, cs[d + 2]? = some (.inl (r, 40, .inl (fun _ => 0))))) : sf_h (al_t t hp.1 gs) (al_L hp cs) ∧ sf_fr [] t hp (al_t t hp.1 gs) (al_L hp cs) := by
  refine sf_ext H (Nat.le_add_right _ _) (fun j hj => if_pos hj) (fun j hj => if_pos hj) (fun j h1 h2 => ?_) (fun j h1 h2 h3 => ?_)
  · obtain ⟨d, rfl⟩ : ∃ d, j = hp.1 + d := ⟨j - hp.1, by omega⟩
    have hd : d < cs.length := by
      have : hp.1 + d < hp.1 + cs.length := h2
      omega
    rw [al_tk, al_at (List.getElem?_eq_getElem hd)]
    have e : gs.getD d 0 = gs[d]'(by omega) := by rw [List.getD_eq_getElem?_getD, List.getElem?_eq_getElem (by omega)]; rfl
    rw [e]
    exact hc d _ _ (List.getElem?_eq_getElem hd) (List.getElem?_eq_getElem (by omega))
  · obtain ⟨d, rfl⟩ : ∃ d, j = hp.1 + d := ⟨j - hp.1, by omega⟩
    have hd : d < cs.length := by
      have : hp.1 + d < hp.1 + cs.length := h2
      omega
    rw [al_tk] at h3
    have e : gs[d]? = some 5 := by
      rw [List.getElem?_eq_getElem (by omega)]
      rw [List.getD_eq_getElem?_getD, List.getElem?_eq_getElem (by omega)] at h3
      exact congrArg some h3
    obtain ⟨q1, q2, q3, ⟨r, q, q4, -, -⟩, ⟨r1, r2, q5⟩, ⟨r3, q6⟩⟩ := h5 d e
    refine ⟨by show hp.1 + d + 2 < hp.1 + cs.length; omega, ?_, ?_, ?_, ?_, fun i hi x hx hx2 => ⟨0, ?_, Int.le_refl _, by decide⟩⟩
    · rw [Nat.add_assoc, al_tk, List.getD_eq_getElem?_getD, q2]
      rfl
    · rw [Nat.add_assoc, al_tk, List.getD_eq_getElem?_getD, q3]
      rfl
    · unfold sf_rr
      rw [al_at q4]
      rfl
    · unfold sf_rr
      rw [al_at q4]
      rfl
    · unfold sf_rd
      rw [Nat.add_assoc, al_at q6]
      show cond (decide (i < 40)) _ none = _
      rw [decide_eq_true hi]
      rfl
section BS
variable {T : Nat → Option ab_A} {i j : Nat} {lo : List (Option Value)} {st : List Value} {u : Nat × Nat} {hp : ab_H} {Q : ab_O → Prop} {t : Nat → Nat} {x y : Int32}
theorem bs_aald {a g g1 k : Nat} (hT : T i = some (ab_nx j (ab_aald (k + 4)))) (H : sf_h t hp) (hR : bs_R t hp a g) (hg : 100 ≤ g) (hk : (sf_A g).1 = k + 4) (he : (sf_A g).2.2 = [((sf_A g).2.1, (1, (g1 : Int), 1))]) (x0 : 0 ≤ x.toInt) (x1 : x.toInt < ((sf_A g).2.1 : Int)) (h0 : Ev T j (lo, .null :: st, u, hp) Q) (h1 : ∀ b, bs_R t hp b g1 → Ev T j (lo, .ref b :: st, u, hp) Q) : Ev T i (lo, .int x :: .ref a :: st, u, hp) Q := by
  obtain ⟨f, e1, e2, e3⟩ := sf_rarr H hR.1 hR.2 hg (by rw [hk]; omega)
  have en : x.toNatClampNeg = x.toInt.toNat := by
    have := n_idx x0
    omega
  have e4 := e3 x.toInt.toNat (by omega)
  rw [he] at e4
  have e5 : sf_v t hp.1 (1, (g1 : Int), 1) (ab_rf (f x.toInt.toNat)) := by
    have e6 : sf_v t hp.1 (cond (decide (x.toInt.toNat < (sf_A g).2.1)) (1, (g1 : Int), 1) (9, 0, 0)) (ab_rf (f x.toInt.toNat)) := e4
    rw [decide_eq_true (show x.toInt.toNat < (sf_A g).2.1 by omega)] at e6
    exact e6
  rw [hk] at e1
  refine Ev.nx hT (s' := (lo, ab_rf (f x.toInt.toNat) :: st, u, hp)) ?_ ?_
  · rw [← en]
    unfold ab_aald
    dsimp only
    rw [decide_eq_true hR.1, e1]
    dsimp only
    rw [n_in x0 x1, beq_self_eq_true]
    rfl
  · cases hf : f x.toInt.toNat with
    | none => exact h0
    | some b =>
      rw [hf] at e5
      exact h1 b ⟨e5.2.1, Int.ofNat.inj e5.2.2⟩
theorem bs_aast {W : List (Nat × Nat × Nat)} {a g gv v k ci : Nat} (hT : T i = some (ab_nx j (ab_aast (k + 4) ci))) (H : sf_h t hp) (hR : bs_R t hp a g) (hV : bs_R t hp v gv) (hg : 100 ≤ g) (hk : (sf_A g).1 = k + 4) (he : (sf_A g).2.2 = [((sf_A g).2.1, (1, (gv : Int), 1))]) (hci : sf_o gv = ci) (hW : sf_cv W g 0 0 = true) (hsp : sf_sp g 0 = false) (hgv : gv < 100) (x0 : 0 ≤ x.toInt) (x1 : x.toInt < ((sf_A g).2.1 : Int))
    (h : ∀ hp', sf_h t hp' → sf_fr W t hp t hp' → (∀ b q, sf_rd hp' b q = sf_rd hp b q) → (∀ b q, sf_rr hp' b q = sf_rr hp b q) → Ev T j (lo, st, u, hp') Q) : Ev T i (lo, .ref v :: .int x :: .ref a :: st, u, hp) Q := by
  obtain ⟨f, e1, e2, e3⟩ := sf_rarr H hR.1 hR.2 hg (by rw [hk]; omega)
  obtain ⟨cv1, cv2⟩ := sf_cv_ok hW
  have en : x.toNatClampNeg = x.toInt.toNat := by
    have := n_idx x0
    omega
  have e1' : hp.2 a = .inl (k + 4, (sf_A g).2.1, .inr (.inr (.inr (.inr f)))) := by rw [e1, hk]
  have hr : ∀ b q, sf_rd (ab_up hp a (.inl (k + 4, (sf_A g).2.1, .inr (.inr (.inr (.inr (va_up f x.toInt.toNat (some v)))))))) b q = sf_rd hp b q := by
    intro b q
    by_cases e : b = a
    · subst e
      unfold sf_rd
      rw [ab_up_eq, e1']
    · exact sf_rd_up_ne e
  have hrr : ∀ b q, sf_rr (ab_up hp a (.inl (k + 4, (sf_A g).2.1, .inr (.inr (.inr (.inr (va_up f x.toInt.toNat (some v)))))))) b q = sf_rr hp b q := by
    intro b q
    by_cases e : b = a
    · subst e
      unfold sf_rr
      rw [ab_up_eq, e1']
    · exact sf_rr_up_ne e
  have hI := sf_I_up H (i0 := 0) (i1 := 0) (c := .inl (k + 4, (sf_A g).2.1, .inr (.inr (.inr (.inr (va_up f x.toInt.toNat (some v))))))) (by rw [hR.2]; exact hsp) (fun q _ => hr a q) (fun h5 => absurd (hR.2.symm.trans h5) (by omega))
  have H' : sf_h t (ab_up hp a (.inl (k + 4, (sf_A g).2.1, .inr (.inr (.inr (.inr (va_up f x.toInt.toNat (some v)))))))) := by
    have := sf_rarr_put H hR.1 hR.2 hg (by rw [hk]; omega) e2 (f := va_up f x.toInt.toNat (some v)) (fun q hq => by
      by_cases e : q = x.toInt.toNat
      · have e7 : va_up f x.toInt.toNat (some v) q = some v := if_pos e
        rw [e7, he]
        show sf_v t hp.1 (cond (decide (q < (sf_A g).2.1)) (1, (gv : Int), 1) (9, 0, 0)) (.ref v)
        rw [decide_eq_true hq]
        exact ⟨rfl, hV.1, congrArg Int.ofNat hV.2⟩
      · have e7 : va_up f x.toInt.toNat (some v) q = f q := if_neg e
        rw [e7]
        exact e3 q hq) (by rw [hk]; exact hI)
    rw [hk] at this
    exact this
  have hcell := H.1 v hV.1
  rw [hV.2] at hcell
  have hvc : ∃ fs, hp.2 v = .inr (ci, fs) := by
    cases hc : hp.2 v with
    | inl z =>
      rw [hc] at hcell
      exact absurd hcell.1 (by omega)
    | inr o =>
      rw [hc] at hcell
      obtain ⟨o1, o2⟩ := o
      have : o1 = sf_o gv := hcell.1
      subst this
      exact ⟨o2, by rw [hci]⟩
  obtain ⟨fs, hvc⟩ := hvc
  refine Ev.nx hT (s' := (lo, st, u, ab_up hp a (.inl (k + 4, (sf_A g).2.1, .inr (.inr (.inr (.inr (va_up f x.toInt.toNat (some v))))))))) ?_ (h _ H' (sf_fr_up (i0 := 0) (i1 := 0) (by rw [hR.2]; exact cv1) cv2 (fun q _ => hr a q) (Or.inr (Or.inl (sf_n69 H hR.2 hg)))) hr hrr)
  rw [← en]
  unfold ab_aast
  dsimp only
  rw [decide_eq_true hR.1, decide_eq_true hV.1, e1', hvc]
  dsimp only
  rw [n_in x0 x1, beq_self_eq_true, beq_self_eq_true]
  rfl
end BS
abbrev al_c6 (hp : ab_H) : List ab_E := [.inr (6, [.ref (hp.1 + 1), .ref (hp.1 + 2), .ref (hp.1 + 3), .ref (hp.1 + 4), .ref (hp.1 + 5), .ref (hp.1 + 6), .ref (hp.1 + 7), .int 0, .int 0, .int 0]), al_i 12, al_i 12, al_i 12, al_i 12, al_i 8, al_i 8, al_i 64]
theorem run6 {hp : ab_H} : Z_X6_init [.ref hp.1] (ab_push hp (.inr (6, [.null, .null, .null, .null, .null, .null, .null, .int 0, .int 0, .int 0]))) = some (none, al_L hp (al_c6 hp)) := by
  rw [al_new]
  obtain ⟨hp', e, h⟩ := xX (L := L_X6_init) (nL := 1) (as := [.ref hp.1]) (hp0 := al_L hp [.inr (6, [.null, .null, .null, .null, .null, .null, .null, .int 0, .int 0, .int 0])]) (v := none) (P := fun x => x = al_L hp (al_c6 hp)) (Nat.le_of_ble_eq_true rfl) (by
    refine Ev.step rfl rfl ?_
    refine Ev.step rfl rfl ?_
    refine al_step (len := 12) rfl rfl rfl rfl rfl rfl (Nat.le_of_ble_eq_true rfl) ?_
    refine al_step (len := 12) rfl rfl rfl rfl rfl rfl (Nat.le_of_ble_eq_true rfl) ?_
    refine al_step (len := 12) rfl rfl rfl rfl rfl rfl (Nat.le_of_ble_eq_true rfl) ?_
    refine al_step (len := 12) rfl rfl rfl rfl rfl rfl (Nat.le_of_ble_eq_true rfl) ?_
    refine al_step (len := 8) rfl rfl rfl rfl rfl rfl (Nat.le_of_ble_eq_true rfl) ?_
    refine al_step (len := 8) rfl rfl rfl rfl rfl rfl (Nat.le_of_ble_eq_true rfl) ?_
    refine al_step (len := 64) rfl rfl rfl rfl rfl rfl (Nat.le_of_ble_eq_true rfl) ?_
    exact Ev.ret rfl rfl ⟨rfl, rfl⟩)
  subst h
  exact e
theorem kd6 {hp : ab_H} {t : Nat → Nat} : ∀ (d : Nat) (c : ab_E) (g : Nat), (al_c6 hp)[d]? = some c → ([15, 109, 110, 111, 112, 113, 114, 115] : List Nat)[d]? = some g → sf_c (al_t t hp.1 [15, 109, 110, 111, 112, 113, 114, 115]) (hp.1 + 8) g c ∧ sf_P g = none := fun d c g hc hg => by
  match d, hc, hg with
  | 0, hc, hg =>
    cases hc; cases hg
    refine ⟨⟨rfl, by decide, fun i k hk => ?_⟩, rfl⟩
    match i, hk with
    | 0, hk => cases hk; exact ⟨_, rfl, rfl, (show hp.1 + 1 < hp.1 + 8 by omega), congrArg Int.ofNat (al_tk (d := 1))⟩
    | 1, hk => cases hk; exact ⟨_, rfl, rfl, (show hp.1 + 2 < hp.1 + 8 by omega), congrArg Int.ofNat (al_tk (d := 2))⟩
    | 2, hk => cases hk; exact ⟨_, rfl, rfl, (show hp.1 + 3 < hp.1 + 8 by omega), congrArg Int.ofNat (al_tk (d := 3))⟩
    | 3, hk => cases hk; exact ⟨_, rfl, rfl, (show hp.1 + 4 < hp.1 + 8 by omega), congrArg Int.ofNat (al_tk (d := 4))⟩
    | 4, hk => cases hk; exact ⟨_, rfl, rfl, (show hp.1 + 5 < hp.1 + 8 by omega), congrArg Int.ofNat (al_tk (d := 5))⟩
    | 5, hk => cases hk; exact ⟨_, rfl, rfl, (show hp.1 + 6 < hp.1 + 8 by omega), congrArg Int.ofNat (al_tk (d := 6))⟩
    | 6, hk => cases hk; exact ⟨_, rfl, rfl, (show hp.1 + 7 < hp.1 + 8 by omega), congrArg Int.ofNat (al_tk (d := 7))⟩
    | 7, hk => cases hk; exact ⟨_, rfl, rfl, by decide, by decide⟩
    | 8, hk => cases hk; exact ⟨_, rfl, rfl, by decide, by decide⟩
    | 9, hk => cases hk; exact ⟨_, rfl, rfl, by decide, by decide⟩
    | i + 10, hk => cases hk
  | 1, hc, hg =>
    cases hc; cases hg
    exact ⟨⟨by decide, rfl, rfl, by decide, by decide, fun j hj => al_e0 rfl (by decide) (by decide) hj⟩, rfl⟩
  | 2, hc, hg =>
    cases hc; cases hg
    exact ⟨⟨by decide, rfl, rfl, by decide, by decide, fun j hj => al_e0 rfl (by decide) (by decide) hj⟩, rfl⟩
  | 3, hc, hg =>
    cases hc; cases hg
    exact ⟨⟨by decide, rfl, rfl, by decide, by decide, fun j hj => al_e0 rfl (by decide) (by decide) hj⟩, rfl⟩
  | 4, hc, hg =>
    cases hc; cases hg
    exact ⟨⟨by decide, rfl, rfl, by decide, by decide, fun j hj => al_e0 rfl (by decide) (by decide) hj⟩, rfl⟩
  | 5, hc, hg =>
    cases hc; cases hg
    exact ⟨⟨by decide, rfl, rfl, by decide, by decide, fun j hj => al_e0 rfl (by decide) (by decide) hj⟩, rfl⟩
  | 6, hc, hg =>
    cases hc; cases hg
    exact ⟨⟨by decide, rfl, rfl, by decide, by decide, fun j hj => al_e0 rfl (by decide) (by decide) hj⟩, rfl⟩
  | 7, hc, hg =>
    cases hc; cases hg
    exact ⟨⟨by decide, rfl, rfl, by decide, by decide, fun j hj => al_e0 rfl (by decide) (by decide) hj⟩, rfl⟩
  | d + 8, hc, hg => cases hc
theorem nw6 {t : Nat → Nat} {hp : ab_H} (H : sf_h t hp) : ∃ hp' t' b, (b = hp.1 ∧ Z_X6_init [.ref hp.1] (ab_push hp (.inr (6, [.null, .null, .null, .null, .null, .null, .null, .int 0, .int 0, .int 0]))) = some (none, hp')) ∧ sf_h t' hp' ∧ sf_fr [] t hp t' hp' ∧ bs_R t' hp' b 15 := by
  have h := al_ok (gs := [15, 109, 110, 111, 112, 113, 114, 115]) (cs := al_c6 hp) H rfl kd6 (fun d hd => by match d, hd with | 0, hd => cases hd | 1, hd => cases hd | 2, hd => cases hd | 3, hd => cases hd | 4, hd => cases hd | 5, hd => cases hd | 6, hd => cases hd | 7, hd => cases hd | d + 8, hd => cases hd)
  exact ⟨_, _, _, ⟨rfl, run6⟩, h.1, h.2, (show hp.1 < hp.1 + 8 by omega), al_tk (d := 0)⟩
theorem nw6_ev {T : Nat → Option ab_A} {p0 p1 p2 p3 MC MS b : Nat} {lo : List (Option Value)} {st : List Value} {u : Nat × Nat} {hp hp' : ab_H} {Q : ab_O → Prop} (h0 : T p0 = some (ab_nx p1 (ab_new 6 10 [.null, .null, .null, .null, .null, .null, .null, .int 0, .int 0, .int 0] MC MS))) (h1 : T p1 = some (ab_nx p2 ab_dup)) (h2 : T p2 = some (ab_nx p3 (ab_call 1 Z_X6_init 7 128 MC MS))) (hu : (decide (u.1 + 1 ≤ MC) && decide (u.2 + 10 ≤ MS) && decide (ab_cats (.ref hp.1 :: st) ≤ 8) && decide (u.1 + 1 + 7 ≤ MC) && decide (u.2 + 10 + 128 ≤ MS)) = true) (hn : b = hp.1 ∧ Z_X6_init [.ref hp.1] (ab_push hp (.inr (6, [.null, .null, .null, .null, .null, .null, .null, .int 0, .int 0, .int 0]))) = some (none, hp')) (h : Ev T p3 (lo, .ref b :: st, (u.1 + 1 + 7, u.2 + 10 + 128), hp') Q) : Ev T p0 (lo, st, u, hp) Q := by
  obtain ⟨rfl, hn⟩ := hn
  rw [Bool.and_eq_true, Bool.and_eq_true, Bool.and_eq_true, Bool.and_eq_true] at hu
  obtain ⟨⟨⟨⟨u1, u2⟩, u3⟩, u4⟩, u5⟩ := hu
  refine Ev.nx h0 (s' := (lo, .ref hp.1 :: st, (u.1 + 1, u.2 + 10), ab_push hp _)) (by unfold ab_new; dsimp only; rw [u1, u2]; rfl) ?_
  refine Ev.step h1 rfl ?_
  refine Ev.call h2 ?_ hn h
  show (decide (1 ≤ st.length + 1 + 1) && decide (ab_cats (.ref hp.1 :: st) ≤ 8) && decide (u.1 + 1 + 7 ≤ MC) && decide (u.2 + 10 + 128 ≤ MS)) = true
  rw [u3, u4, u5, decide_eq_true (by omega)]
  rfl
abbrev al_c7 (hp : ab_H) : List ab_E := [.inr (7, [.ref (hp.1 + 1), .ref (hp.1 + 2), .ref (hp.1 + 3), .ref (hp.1 + 4), .ref (hp.1 + 5), .ref (hp.1 + 6), .ref (hp.1 + 7), .int 10, .int 0, .int 0, .int 0, .int 0, .long 0]), al_l 6, al_l 8, al_i 8, al_i 48, al_i 20, al_i 20, al_i 20]
theorem run7 {hp : ab_H} : Z_X7_init [.ref hp.1] (ab_push hp (.inr (7, [.null, .null, .null, .null, .null, .null, .null, .int 0, .int 0, .int 0, .int 0, .int 0, .long 0]))) = some (none, al_L hp (al_c7 hp)) := by
  rw [al_new]
  obtain ⟨hp', e, h⟩ := xX (L := L_X7_init) (nL := 1) (as := [.ref hp.1]) (hp0 := al_L hp [.inr (7, [.null, .null, .null, .null, .null, .null, .null, .int 0, .int 0, .int 0, .int 0, .int 0, .long 0])]) (v := none) (P := fun x => x = al_L hp (al_c7 hp)) (Nat.le_of_ble_eq_true rfl) (by
    refine Ev.step rfl rfl ?_
    refine Ev.step rfl rfl ?_
    refine al_step (len := 6) rfl rfl rfl rfl rfl rfl (Nat.le_of_ble_eq_true rfl) ?_
    refine al_step (len := 8) rfl rfl rfl rfl rfl rfl (Nat.le_of_ble_eq_true rfl) ?_
    refine al_step (len := 8) rfl rfl rfl rfl rfl rfl (Nat.le_of_ble_eq_true rfl) ?_
    refine al_step (len := 48) rfl rfl rfl rfl rfl rfl (Nat.le_of_ble_eq_true rfl) ?_
    refine al_step (len := 20) rfl rfl rfl rfl rfl rfl (Nat.le_of_ble_eq_true rfl) ?_
    refine al_step (len := 20) rfl rfl rfl rfl rfl rfl (Nat.le_of_ble_eq_true rfl) ?_
    refine al_step (len := 20) rfl rfl rfl rfl rfl rfl (Nat.le_of_ble_eq_true rfl) ?_
    refine Ev.step rfl rfl ?_
    refine Ev.step rfl rfl ?_
    refine al_putf rfl (Nat.le_of_ble_eq_true rfl) rfl ?_
    exact Ev.ret rfl rfl ⟨rfl, rfl⟩)
  subst h
  exact e
theorem kd7 {hp : ab_H} {t : Nat → Nat} : ∀ (d : Nat) (c : ab_E) (g : Nat), (al_c7 hp)[d]? = some c → ([7, 116, 117, 118, 119, 120, 121, 122] : List Nat)[d]? = some g → sf_c (al_t t hp.1 [7, 116, 117, 118, 119, 120, 121, 122]) (hp.1 + 8) g c ∧ sf_P g = none := fun d c g hc hg => by
  match d, hc, hg with
  | 0, hc, hg =>
    cases hc; cases hg
    refine ⟨⟨rfl, by decide, fun i k hk => ?_⟩, rfl⟩
    match i, hk with
    | 0, hk => cases hk; exact ⟨_, rfl, rfl, (show hp.1 + 1 < hp.1 + 8 by omega), congrArg Int.ofNat (al_tk (d := 1))⟩
    | 1, hk => cases hk; exact ⟨_, rfl, rfl, (show hp.1 + 2 < hp.1 + 8 by omega), congrArg Int.ofNat (al_tk (d := 2))⟩
    | 2, hk => cases hk; exact ⟨_, rfl, rfl, (show hp.1 + 3 < hp.1 + 8 by omega), congrArg Int.ofNat (al_tk (d := 3))⟩
    | 3, hk => cases hk; exact ⟨_, rfl, rfl, (show hp.1 + 4 < hp.1 + 8 by omega), congrArg Int.ofNat (al_tk (d := 4))⟩
    | 4, hk => cases hk; exact ⟨_, rfl, rfl, (show hp.1 + 5 < hp.1 + 8 by omega), congrArg Int.ofNat (al_tk (d := 5))⟩
    | 5, hk => cases hk; exact ⟨_, rfl, rfl, (show hp.1 + 6 < hp.1 + 8 by omega), congrArg Int.ofNat (al_tk (d := 6))⟩
    | 6, hk => cases hk; exact ⟨_, rfl, rfl, (show hp.1 + 7 < hp.1 + 8 by omega), congrArg Int.ofNat (al_tk (d := 7))⟩
    | 7, hk => cases hk; exact ⟨_, rfl, rfl, by decide, by decide⟩
    | 8, hk => cases hk; exact ⟨_, rfl, rfl, by decide, by decide⟩
    | 9, hk => cases hk; exact ⟨_, rfl, rfl, by decide, by decide⟩
    | 10, hk => cases hk; exact ⟨_, rfl, rfl, by decide, by decide⟩
    | 11, hk => cases hk; exact ⟨_, rfl, rfl, by decide, by decide⟩
    | 12, hk => cases hk; exact ⟨_, rfl, rfl⟩
    | i + 13, hk => cases hk
  | 1, hc, hg =>
    cases hc; cases hg
    exact ⟨⟨by decide, rfl, rfl, rfl⟩, rfl⟩
  | 2, hc, hg =>
    cases hc; cases hg
    exact ⟨⟨by decide, rfl, rfl, rfl⟩, rfl⟩
  | 3, hc, hg =>
    cases hc; cases hg
    exact ⟨⟨by decide, rfl, rfl, by decide, by decide, fun j hj => al_e0 rfl (by decide) (by decide) hj⟩, rfl⟩
  | 4, hc, hg =>
    cases hc; cases hg
    exact ⟨⟨by decide, rfl, rfl, by decide, by decide, fun j hj => al_e0 rfl (by decide) (by decide) hj⟩, rfl⟩
  | 5, hc, hg =>
    cases hc; cases hg
    exact ⟨⟨by decide, rfl, rfl, by decide, by decide, fun j hj => al_e0 rfl (by decide) (by decide) hj⟩, rfl⟩
  | 6, hc, hg =>
    cases hc; cases hg
    exact ⟨⟨by decide, rfl, rfl, by decide, by decide, fun j hj => al_e0 rfl (by decide) (by decide) hj⟩, rfl⟩
  | 7, hc, hg =>
    cases hc; cases hg
    exact ⟨⟨by decide, rfl, rfl, by decide, by decide, fun j hj => al_e0 rfl (by decide) (by decide) hj⟩, rfl⟩
  | d + 8, hc, hg => cases hc
abbrev al_c5 (hp : ab_H) : List ab_E := [.inr (5, [.ref (hp.1 + 1), .ref (hp.1 + 2), .ref (hp.1 + 3), .int 0, .int 0, .int 0]), al_i 40, al_i 40, al_i 40]
theorem run5 {hp : ab_H} : Z_X5_init [.ref hp.1] (ab_push hp (.inr (5, [.null, .null, .null, .int 0, .int 0, .int 0]))) = some (none, al_L hp (al_c5 hp)) := by
  rw [al_new]
  obtain ⟨hp', e, h⟩ := xX (L := L_X5_init) (nL := 1) (as := [.ref hp.1]) (hp0 := al_L hp [.inr (5, [.null, .null, .null, .int 0, .int 0, .int 0])]) (v := none) (P := fun x => x = al_L hp (al_c5 hp)) (Nat.le_of_ble_eq_true rfl) (by
    refine Ev.step rfl rfl ?_
    refine Ev.step rfl rfl ?_
    refine al_step (len := 40) rfl rfl rfl rfl rfl rfl (Nat.le_of_ble_eq_true rfl) ?_
    refine al_step (len := 40) rfl rfl rfl rfl rfl rfl (Nat.le_of_ble_eq_true rfl) ?_
    refine al_step (len := 40) rfl rfl rfl rfl rfl rfl (Nat.le_of_ble_eq_true rfl) ?_
    exact Ev.ret rfl rfl ⟨rfl, rfl⟩)
  subst h
  exact e
theorem kd5 {hp : ab_H} {t : Nat → Nat} : ∀ (d : Nat) (c : ab_E) (g : Nat), (al_c5 hp)[d]? = some c → ([5, 106, 107, 108] : List Nat)[d]? = some g → sf_c (al_t t hp.1 [5, 106, 107, 108]) (hp.1 + 4) g c ∧ sf_P g = none := fun d c g hc hg => by
  match d, hc, hg with
  | 0, hc, hg =>
    cases hc; cases hg
    refine ⟨⟨rfl, by decide, fun i k hk => ?_⟩, rfl⟩
    match i, hk with
    | 0, hk => cases hk; exact ⟨_, rfl, rfl, (show hp.1 + 1 < hp.1 + 4 by omega), congrArg Int.ofNat (al_tk (d := 1))⟩
    | 1, hk => cases hk; exact ⟨_, rfl, rfl, (show hp.1 + 2 < hp.1 + 4 by omega), congrArg Int.ofNat (al_tk (d := 2))⟩
    | 2, hk => cases hk; exact ⟨_, rfl, rfl, (show hp.1 + 3 < hp.1 + 4 by omega), congrArg Int.ofNat (al_tk (d := 3))⟩
    | 3, hk => cases hk; exact ⟨_, rfl, rfl, by decide, by decide⟩
    | 4, hk => cases hk; exact ⟨_, rfl, rfl, by decide, by decide⟩
    | 5, hk => cases hk; exact ⟨_, rfl, rfl, by decide, by decide⟩
    | i + 6, hk => cases hk
  | 1, hc, hg =>
    cases hc; cases hg
    exact ⟨⟨by decide, rfl, rfl, by decide, by decide, fun j hj => al_e0 rfl (by decide) (by decide) hj⟩, rfl⟩
  | 2, hc, hg =>
    cases hc; cases hg
    exact ⟨⟨by decide, rfl, rfl, by decide, by decide, fun j hj => al_e0 rfl (by decide) (by decide) hj⟩, rfl⟩
  | 3, hc, hg =>
    cases hc; cases hg
    exact ⟨⟨by decide, rfl, rfl, by decide, by decide, fun j hj => al_e0 rfl (by decide) (by decide) hj⟩, rfl⟩
  | d + 4, hc, hg => cases hc
abbrev al_c3 (hp : ab_H) : List ab_E := [.inr (3, [.ref (hp.1 + 1), .ref (hp.1 + 9), .ref (hp.1 + 17)]), .inr (7, [.ref (hp.1 + 2), .ref (hp.1 + 3), .ref (hp.1 + 4), .ref (hp.1 + 5), .ref (hp.1 + 6), .ref (hp.1 + 7), .ref (hp.1 + 8), .int 10, .int 0, .int 0, .int 0, .int 0, .long 0]), al_l 6, al_l 8, al_i 8, al_i 48, al_i 20, al_i 20, al_i 20, .inr (6, [.ref (hp.1 + 10), .ref (hp.1 + 11), .ref (hp.1 + 12), .ref (hp.1 + 13), .ref (hp.1 + 14), .ref (hp.1 + 15), .ref (hp.1 + 16), .int 0, .int 0, .int 0]), al_i 12, al_i 12, al_i 12, al_i 12, al_i 8, al_i 8, al_i 64, .inr (5, [.ref (hp.1 + 18), .ref (hp.1 + 19), .ref (hp.1 + 20), .int 0, .int 0, .int 0]), al_i 40, al_i 40, al_i 40]
theorem run3 {hp : ab_H} : Z_X3_init [.ref hp.1] (ab_push hp (.inr (3, [.null, .null, .null]))) = some (none, al_L hp (al_c3 hp)) := by
  rw [al_new]
  obtain ⟨hp', e, h⟩ := xX (L := L_X3_init Z_X7_init Z_X6_init Z_X5_init) (nL := 1) (as := [.ref hp.1]) (hp0 := al_L hp [.inr (3, [.null, .null, .null])]) (v := none) (P := fun x => x = al_L hp (al_c3 hp)) (Nat.le_of_ble_eq_true rfl) (by
    refine Ev.step rfl rfl ?_
    refine Ev.step rfl rfl ?_
    refine Ev.step rfl rfl ?_
    refine al_call (ds := al_c7 _) rfl rfl rfl rfl rfl run7 ?_
    refine al_putf rfl (Nat.le_of_ble_eq_true rfl) rfl ?_
    refine Ev.step rfl rfl ?_
    refine al_call (ds := al_c6 _) rfl rfl rfl rfl rfl run6 ?_
    refine al_putf rfl (Nat.le_of_ble_eq_true rfl) rfl ?_
    refine Ev.step rfl rfl ?_
    refine al_call (ds := al_c5 _) rfl rfl rfl rfl rfl run5 ?_
    refine al_putf rfl (Nat.le_of_ble_eq_true rfl) rfl ?_
    exact Ev.ret rfl rfl ⟨rfl, rfl⟩)
  subst h
  exact e
theorem kd3 {hp : ab_H} {t : Nat → Nat} : ∀ (d : Nat) (c : ab_E) (g : Nat), (al_c3 hp)[d]? = some c → ([3, 7, 116, 117, 118, 119, 120, 121, 122, 15, 109, 110, 111, 112, 113, 114, 115, 5, 106, 107, 108] : List Nat)[d]? = some g → sf_c (al_t t hp.1 [3, 7, 116, 117, 118, 119, 120, 121, 122, 15, 109, 110, 111, 112, 113, 114, 115, 5, 106, 107, 108]) (hp.1 + 21) g c ∧ sf_P g = none := fun d c g hc hg => by
  match d, hc, hg with
  | 0, hc, hg =>
    cases hc; cases hg
    refine ⟨⟨rfl, by decide, fun i k hk => ?_⟩, rfl⟩
    match i, hk with
    | 0, hk => cases hk; exact ⟨_, rfl, rfl, (show hp.1 + 1 < hp.1 + 21 by omega), congrArg Int.ofNat (al_tk (d := 1))⟩
    | 1, hk => cases hk; exact ⟨_, rfl, rfl, (show hp.1 + 9 < hp.1 + 21 by omega), congrArg Int.ofNat (al_tk (d := 9))⟩
    | 2, hk => cases hk; exact ⟨_, rfl, rfl, (show hp.1 + 17 < hp.1 + 21 by omega), congrArg Int.ofNat (al_tk (d := 17))⟩
    | i + 3, hk => cases hk
  | 1, hc, hg =>
    cases hc; cases hg
    refine ⟨⟨rfl, by decide, fun i k hk => ?_⟩, rfl⟩
    match i, hk with
    | 0, hk => cases hk; exact ⟨_, rfl, rfl, (show hp.1 + 2 < hp.1 + 21 by omega), congrArg Int.ofNat (al_tk (d := 2))⟩
    | 1, hk => cases hk; exact ⟨_, rfl, rfl, (show hp.1 + 3 < hp.1 + 21 by omega), congrArg Int.ofNat (al_tk (d := 3))⟩
    | 2, hk => cases hk; exact ⟨_, rfl, rfl, (show hp.1 + 4 < hp.1 + 21 by omega), congrArg Int.ofNat (al_tk (d := 4))⟩
    | 3, hk => cases hk; exact ⟨_, rfl, rfl, (show hp.1 + 5 < hp.1 + 21 by omega), congrArg Int.ofNat (al_tk (d := 5))⟩
    | 4, hk => cases hk; exact ⟨_, rfl, rfl, (show hp.1 + 6 < hp.1 + 21 by omega), congrArg Int.ofNat (al_tk (d := 6))⟩
    | 5, hk => cases hk; exact ⟨_, rfl, rfl, (show hp.1 + 7 < hp.1 + 21 by omega), congrArg Int.ofNat (al_tk (d := 7))⟩
    | 6, hk => cases hk; exact ⟨_, rfl, rfl, (show hp.1 + 8 < hp.1 + 21 by omega), congrArg Int.ofNat (al_tk (d := 8))⟩
    | 7, hk => cases hk; exact ⟨_, rfl, rfl, by decide, by decide⟩
    | 8, hk => cases hk; exact ⟨_, rfl, rfl, by decide, by decide⟩
    | 9, hk => cases hk; exact ⟨_, rfl, rfl, by decide, by decide⟩
    | 10, hk => cases hk; exact ⟨_, rfl, rfl, by decide, by decide⟩
    | 11, hk => cases hk; exact ⟨_, rfl, rfl, by decide, by decide⟩
    | 12, hk => cases hk; exact ⟨_, rfl, rfl⟩
    | i + 13, hk => cases hk
  | 2, hc, hg =>
    cases hc; cases hg
    exact ⟨⟨by decide, rfl, rfl, rfl⟩, rfl⟩
  | 3, hc, hg =>
    cases hc; cases hg
    exact ⟨⟨by decide, rfl, rfl, rfl⟩, rfl⟩
  | 4, hc, hg =>
    cases hc; cases hg
    exact ⟨⟨by decide, rfl, rfl, by decide, by decide, fun j hj => al_e0 rfl (by decide) (by decide) hj⟩, rfl⟩
  | 5, hc, hg =>
    cases hc; cases hg
    exact ⟨⟨by decide, rfl, rfl, by decide, by decide, fun j hj => al_e0 rfl (by decide) (by decide) hj⟩, rfl⟩
  | 6, hc, hg =>
    cases hc; cases hg
    exact ⟨⟨by decide, rfl, rfl, by decide, by decide, fun j hj => al_e0 rfl (by decide) (by decide) hj⟩, rfl⟩
  | 7, hc, hg =>
    cases hc; cases hg
    exact ⟨⟨by decide, rfl, rfl, by decide, by decide, fun j hj => al_e0 rfl (by decide) (by decide) hj⟩, rfl⟩
  | 8, hc, hg =>
    cases hc; cases hg
    exact ⟨⟨by decide, rfl, rfl, by decide, by decide, fun j hj => al_e0 rfl (by decide) (by decide) hj⟩, rfl⟩
  | 9, hc, hg =>
    cases hc; cases hg
    refine ⟨⟨rfl, by decide, fun i k hk => ?_⟩, rfl⟩
    match i, hk with
    | 0, hk => cases hk; exact ⟨_, rfl, rfl, (show hp.1 + 10 < hp.1 + 21 by omega), congrArg Int.ofNat (al_tk (d := 10))⟩
    | 1, hk => cases hk; exact ⟨_, rfl, rfl, (show hp.1 + 11 < hp.1 + 21 by omega), congrArg Int.ofNat (al_tk (d := 11))⟩
    | 2, hk => cases hk; exact ⟨_, rfl, rfl, (show hp.1 + 12 < hp.1 + 21 by omega), congrArg Int.ofNat (al_tk (d := 12))⟩
    | 3, hk => cases hk; exact ⟨_, rfl, rfl, (show hp.1 + 13 < hp.1 + 21 by omega), congrArg Int.ofNat (al_tk (d := 13))⟩
    | 4, hk => cases hk; exact ⟨_, rfl, rfl, (show hp.1 + 14 < hp.1 + 21 by omega), congrArg Int.ofNat (al_tk (d := 14))⟩
    | 5, hk => cases hk; exact ⟨_, rfl, rfl, (show hp.1 + 15 < hp.1 + 21 by omega), congrArg Int.ofNat (al_tk (d := 15))⟩
    | 6, hk => cases hk; exact ⟨_, rfl, rfl, (show hp.1 + 16 < hp.1 + 21 by omega), congrArg Int.ofNat (al_tk (d := 16))⟩
    | 7, hk => cases hk; exact ⟨_, rfl, rfl, by decide, by decide⟩
    | 8, hk => cases hk; exact ⟨_, rfl, rfl, by decide, by decide⟩
    | 9, hk => cases hk; exact ⟨_, rfl, rfl, by decide, by decide⟩
    | i + 10, hk => cases hk
  | 10, hc, hg =>
    cases hc; cases hg
    exact ⟨⟨by decide, rfl, rfl, by decide, by decide, fun j hj => al_e0 rfl (by decide) (by decide) hj⟩, rfl⟩
  | 11, hc, hg =>
    cases hc; cases hg
    exact ⟨⟨by decide, rfl, rfl, by decide, by decide, fun j hj => al_e0 rfl (by decide) (by decide) hj⟩, rfl⟩
  | 12, hc, hg =>
    cases hc; cases hg
    exact ⟨⟨by decide, rfl, rfl, by decide, by decide, fun j hj => al_e0 rfl (by decide) (by decide) hj⟩, rfl⟩
  | 13, hc, hg =>
    cases hc; cases hg
    exact ⟨⟨by decide, rfl, rfl, by decide, by decide, fun j hj => al_e0 rfl (by decide) (by decide) hj⟩, rfl⟩
  | 14, hc, hg =>
    cases hc; cases hg
    exact ⟨⟨by decide, rfl, rfl, by decide, by decide, fun j hj => al_e0 rfl (by decide) (by decide) hj⟩, rfl⟩
  | 15, hc, hg =>
    cases hc; cases hg
    exact ⟨⟨by decide, rfl, rfl, by decide, by decide, fun j hj => al_e0 rfl (by decide) (by decide) hj⟩, rfl⟩
  | 16, hc, hg =>
    cases hc; cases hg
    exact ⟨⟨by decide, rfl, rfl, by decide, by decide, fun j hj => al_e0 rfl (by decide) (by decide) hj⟩, rfl⟩
  | 17, hc, hg =>
    cases hc; cases hg
    refine ⟨⟨rfl, by decide, fun i k hk => ?_⟩, rfl⟩
    match i, hk with
    | 0, hk => cases hk; exact ⟨_, rfl, rfl, (show hp.1 + 18 < hp.1 + 21 by omega), congrArg Int.ofNat (al_tk (d := 18))⟩
    | 1, hk => cases hk; exact ⟨_, rfl, rfl, (show hp.1 + 19 < hp.1 + 21 by omega), congrArg Int.ofNat (al_tk (d := 19))⟩
    | 2, hk => cases hk; exact ⟨_, rfl, rfl, (show hp.1 + 20 < hp.1 + 21 by omega), congrArg Int.ofNat (al_tk (d := 20))⟩
    | 3, hk => cases hk; exact ⟨_, rfl, rfl, by decide, by decide⟩
    | 4, hk => cases hk; exact ⟨_, rfl, rfl, by decide, by decide⟩
    | 5, hk => cases hk; exact ⟨_, rfl, rfl, by decide, by decide⟩
    | i + 6, hk => cases hk
  | 18, hc, hg =>
    cases hc; cases hg
    exact ⟨⟨by decide, rfl, rfl, by decide, by decide, fun j hj => al_e0 rfl (by decide) (by decide) hj⟩, rfl⟩
  | 19, hc, hg =>
    cases hc; cases hg
    exact ⟨⟨by decide, rfl, rfl, by decide, by decide, fun j hj => al_e0 rfl (by decide) (by decide) hj⟩, rfl⟩
  | 20, hc, hg =>
    cases hc; cases hg
    exact ⟨⟨by decide, rfl, rfl, by decide, by decide, fun j hj => al_e0 rfl (by decide) (by decide) hj⟩, rfl⟩
  | d + 21, hc, hg => cases hc
theorem nw3 {t : Nat → Nat} {hp : ab_H} (H : sf_h t hp) : ∃ hp' t' b, (b = hp.1 ∧ Z_X3_init [.ref hp.1] (ab_push hp (.inr (3, [.null, .null, .null]))) = some (none, hp')) ∧ sf_h t' hp' ∧ sf_fr [] t hp t' hp' ∧ bs_R t' hp' b 3 := by
  have h := al_ok (gs := [3, 7, 116, 117, 118, 119, 120, 121, 122, 15, 109, 110, 111, 112, 113, 114, 115, 5, 106, 107, 108]) (cs := al_c3 hp) H rfl kd3 (fun d hd => by match d, hd with | 0, hd => cases hd | 1, hd => cases hd | 2, hd => cases hd | 3, hd => cases hd | 4, hd => cases hd | 5, hd => cases hd | 6, hd => cases hd | 7, hd => cases hd | 8, hd => cases hd | 9, hd => cases hd | 10, hd => cases hd | 11, hd => cases hd | 12, hd => cases hd | 13, hd => cases hd | 14, hd => cases hd | 15, hd => cases hd | 16, hd => cases hd | 17, hd => exact ⟨by show 17 + 2 < 21; decide, rfl, rfl, ⟨_, _, rfl, rfl, rfl⟩, ⟨_, _, rfl⟩, ⟨_, rfl⟩⟩ | 18, hd => cases hd | 19, hd => cases hd | 20, hd => cases hd | d + 21, hd => cases hd)
  exact ⟨_, _, _, ⟨rfl, run3⟩, h.1, h.2, (show hp.1 < hp.1 + 21 by omega), al_tk (d := 0)⟩
theorem nw3_ev {T : Nat → Option ab_A} {p0 p1 p2 p3 MC MS b : Nat} {lo : List (Option Value)} {st : List Value} {u : Nat × Nat} {hp hp' : ab_H} {Q : ab_O → Prop} (h0 : T p0 = some (ab_nx p1 (ab_new 3 3 [.null, .null, .null] MC MS))) (h1 : T p1 = some (ab_nx p2 ab_dup)) (h2 : T p2 = some (ab_nx p3 (ab_call 1 Z_X3_init 20 407 MC MS))) (hu : (decide (u.1 + 1 ≤ MC) && decide (u.2 + 3 ≤ MS) && decide (ab_cats (.ref hp.1 :: st) ≤ 8) && decide (u.1 + 1 + 20 ≤ MC) && decide (u.2 + 3 + 407 ≤ MS)) = true) (hn : b = hp.1 ∧ Z_X3_init [.ref hp.1] (ab_push hp (.inr (3, [.null, .null, .null]))) = some (none, hp')) (h : Ev T p3 (lo, .ref b :: st, (u.1 + 1 + 20, u.2 + 3 + 407), hp') Q) : Ev T p0 (lo, st, u, hp) Q := by
  obtain ⟨rfl, hn⟩ := hn
  rw [Bool.and_eq_true, Bool.and_eq_true, Bool.and_eq_true, Bool.and_eq_true] at hu
  obtain ⟨⟨⟨⟨u1, u2⟩, u3⟩, u4⟩, u5⟩ := hu
  refine Ev.nx h0 (s' := (lo, .ref hp.1 :: st, (u.1 + 1, u.2 + 3), ab_push hp _)) (by unfold ab_new; dsimp only; rw [u1, u2]; rfl) ?_
  refine Ev.step h1 rfl ?_
  refine Ev.call h2 ?_ hn h
  show (decide (1 ≤ st.length + 1 + 1) && decide (ab_cats (.ref hp.1 :: st) ≤ 8) && decide (u.1 + 1 + 20 ≤ MC) && decide (u.2 + 3 + 407 ≤ MS)) = true
  rw [u3, u4, u5, decide_eq_true (by omega)]
  rfl
