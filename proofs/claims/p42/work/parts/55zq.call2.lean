/-! ===== steps over what is known: calls ===== -/
theorem sf_j_mono {t t' : Nat → Nat} {n n' : Nat} {j : sf_J} {v : Option Value} (h : sf_j t n j v) (hn : n ≤ n') (ht : ∀ a, a < n → t' a = t a) : sf_j t' n' j v := by
  refine ⟨h.1, fun e => ?_, h.2.2.1, h.2.2.2.1, h.2.2.2.2⟩
  rcases h.2.1 e with ⟨a, h1, h2, h3⟩ | h1
  · exact .inl ⟨a, h1, Nat.lt_of_lt_of_le h2 hn, (ht a h2).trans h3⟩
  · exact .inr h1
def sf_bW (W : List (Nat × Nat × Nat)) (p : Nat) : Bool := (decide (p % 3 = 2) && decide (p / 3 < 1000)) || W.any (fun w => sf_bH w.1 w.2.1 w.2.2 p)
theorem sf_val_fr {W : List (Nat × Nat × Nat)} {t t' : Nat → Nat} {hp hp' : ab_H} {lo : List (Option Value)} {st : List Value} {u u' : Nat × Nat} {p : Nat} (H : sf_h t hp) (hf : sf_fr W t hp t' hp') (hb : sf_bW W p = false) : sf_val (lo, st, u', hp') p = sf_val (lo, st, u, hp) p := by
  unfold sf_val
  dsimp only
  by_cases h0 : p % 3 = 0
  · rw [decide_eq_true h0]
    rfl
  · rw [decide_eq_false h0]
    by_cases h1 : p % 3 = 1
    · rw [decide_eq_true h1]
      rfl
    · rw [decide_eq_false h1]
      show sf_lc lo hp' (p / 3) = sf_lc lo hp (p / 3)
      unfold sf_bW at hb
      rw [decide_eq_true (show p % 3 = 2 by omega), Bool.true_and, Bool.or_eq_false_iff, decide_eq_false_iff_not] at hb
      unfold sf_lc
      rw [decide_eq_false hb.1]
      show (match sf_P (p / 3 / 1000 - 1) with
        | some a => sf_rd hp' a (p / 3 % 1000)
        | none => none) = (match sf_P (p / 3 / 1000 - 1) with
        | some a => sf_rd hp a (p / 3 % 1000)
        | none => none)
      cases hq : sf_P (p / 3 / 1000 - 1) with
      | none => rfl
      | some q =>
        obtain ⟨q1, q2⟩ := H.2.2.1 _ _ hq
        refine hf.2.2.1 q q1 _ ?_
        cases hi : sf_inW W (t q) (p / 3 % 1000) with
        | false => rfl
        | true =>
          obtain ⟨w, hw, e⟩ := List.any_eq_true.mp hi
          simp only [Bool.and_eq_true, decide_eq_true_eq] at e
          have := List.any_eq_false.mp hb.2 w hw
          exfalso
          apply this
          unfold sf_bH
          rw [q2] at e
          rw [decide_eq_true (show p % 3 = 2 by omega), decide_eq_true (show p / 3 / 1000 = w.1 + 1 by rw [e.1.1]; have := hb.1; omega), decide_eq_true e.1.2, decide_eq_true e.2]
          simp
theorem sf_fr_wider {V W : List (Nat × Nat × Nat)} (h : V.all (fun w => sf_cv W w.1 w.2.1 w.2.2) = true) {t t' : Nat → Nat} {hp hp' : ab_H} (hf : sf_fr V t hp t' hp') : sf_fr W t hp t' hp' := by
  refine ⟨hf.1, hf.2.1, fun a ha i hi => hf.2.2.1 a ha i ?_, fun a ha hw => hf.2.2.2.1 a ha ?_, fun hm => hf.2.2.2.2 ?_⟩
  · cases hv : sf_inW V (t a) i with
    | false => rfl
    | true =>
      obtain ⟨w, hw, e⟩ := List.any_eq_true.mp hv
      simp only [Bool.and_eq_true, decide_eq_true_eq] at e
      have := (sf_cv_ok (List.all_eq_true.mp h w hw)).1 i e.1.2 e.2
      rw [e.1.1, hi] at this
      cases this
  · refine List.all_eq_true.mpr fun w hw' => ?_
    rw [decide_eq_true_eq]
    intro e
    obtain ⟨c1, c2⟩ := sf_cv_ok (List.all_eq_true.mp h w hw')
    obtain ⟨w2, hw2, e2⟩ := List.any_eq_true.mp (c1 _ (Nat.le_refl _) c2)
    simp only [Bool.and_eq_true, decide_eq_true_eq] at e2
    have := List.all_eq_true.mp hw w2 hw2
    rw [decide_eq_true_eq] at this
    exact this (e2.1.1.trans e)
  · cases hv : sf_mk V with
    | false => rfl
    | true =>
      obtain ⟨w, hw, e⟩ := List.any_eq_true.mp hv
      rw [decide_eq_true_eq] at e
      obtain ⟨c1, c2⟩ := sf_cv_ok (List.all_eq_true.mp h w hw)
      obtain ⟨w2, hw2, e2⟩ := List.any_eq_true.mp (c1 _ (Nat.le_refl _) c2)
      simp only [Bool.and_eq_true, decide_eq_true_eq] at e2
      have := List.any_eq_false.mp hm w2 hw2
      exact absurd (decide_eq_true (e2.1.1.trans e)) this
def sf_cb (K : sf_Q) (n p : Nat) : Bool := sf_bS n p || sf_bW K.2.2.2.2 p
def sf_cF (K : sf_Q) (n : Nat) (F : List sf_F) : List sf_F := sf_k (sf_cb K n) F ++ (sf_po F n (sf_cb K n) K.2.2.2.1 ++ (sf_pc F n (sf_cb K n) K.2.2.2.1 ++ (match K.2.2.1 with
  | some j => cond (decide (j.1 = 0)) [sf_top (3 * n)] []
  | none => [])))
def so_call (W : List (Nat × Nat × Nat)) (K : sf_Q) (nA mc ms MC MS : Nat) (d : sf_D) : Option sf_D :=
  cond (decide (nA ≤ d.2.1.length) && sf_jls (d.2.1.take nA).reverse K.1 && sf_cok (d.2.1.drop nA) && decide (sf_cat (d.2.1.drop nA) ≤ 8) && decide (d.2.2.2.1 + mc ≤ MC) && decide (d.2.2.2.2 + ms ≤ MS) &&
      K.2.2.2.2.all (fun w => sf_cv W w.1 w.2.1 w.2.2) && K.2.1.all (fun f => sf_fo f.2.1 && (decide (f.1 = 1) || sf_fo f.2.2.1)) && sf_dd d.2.2.1 (K.2.1.map (sf_sh (d.2.1.drop nA).length)))
    (some (d.1, K.2.2.1.toList ++ d.2.1.drop nA, sf_cF K (d.2.1.drop nA).length d.2.2.1, d.2.2.2.1 + mc, d.2.2.2.2 + ms)) none
theorem so_call_ok {W : List (Nat × Nat × Nat)} {K : sf_Q} {X : List Value → ab_H → Option ab_O} {nA mc ms MC MS : Nat} {d d' : sf_D} (hK : sf_ct K X) (h : so_call W K nA mc ms MC MS d = some d') : sf_nx W (ab_call nA X mc ms MC MS) d d' := by
  obtain ⟨d1, d2, F, U, V⟩ := d
  unfold so_call at h
  dsimp only at h
  obtain ⟨hc, h⟩ := ab_cond h
  subst h
  simp only [Bool.and_eq_true, decide_eq_true_eq] at hc
  obtain ⟨⟨⟨⟨⟨⟨⟨⟨c1, c2⟩, c3⟩, c4⟩, c5⟩, c6⟩, c7⟩, c8⟩, c9⟩ := hc
  intro t s G
  obtain ⟨lo, stk, u, hp⟩ := s
  have H : sf_h t hp := G.1
  have hlen : stk.length = d2.length := G.2.2.1.1
  have hjs : ∀ (i : Nat) (j : sf_J), d2[i]? = some j → sf_j t hp.1 j stk[i]? := G.2.2.1.2
  have hF : sf_S (sf_val (lo, stk, u, hp)) F := G.2.2.2.1
  have hu := G.2.2.2.2
  generalize eas : (stk.take nA).reverse = as
  generalize est : stk.drop nA = st
  have esk : stk = as.reverse ++ st := by rw [← eas, ← est, List.reverse_reverse, List.take_append_drop]
  have hst : st.length = (d2.drop nA).length := by rw [← est, List.length_drop, List.length_drop, hlen]
  have has : as.length = (d2.take nA).reverse.length := by rw [← eas, List.length_reverse, List.length_reverse, List.length_take, List.length_take, hlen]
  have hat : as.length = nA := by rw [has, List.length_reverse, List.length_take]; exact Nat.min_eq_left c1
  have hak : ∀ (i : Nat) (j : sf_J), (d2.take nA).reverse[i]? = some j → sf_j t hp.1 j as[i]? := by
    intro i j hi
    have hil : i < nA := by
      have := (List.getElem?_eq_some_iff.mp hi).1
      rw [← has, hat] at this
      exact this
    have l1 : (d2.take nA).length = nA := by rw [List.length_take]; exact Nat.min_eq_left c1
    have l2 : (stk.take nA).length = nA := by rw [List.length_take, hlen]; exact Nat.min_eq_left c1
    rw [List.getElem?_reverse (by rw [l1]; exact hil), l1, List.getElem?_take_of_lt (by omega)] at hi
    rw [← eas, List.getElem?_reverse (by rw [l2]; exact hil), l2, List.getElem?_take_of_lt (by omega)]
    exact hjs _ _ hi
  obtain ⟨k1, k2⟩ := sf_jls_ok c2 has hak
  have hpre : sf_S (sf_v0 as hp) K.2.1 := by
    intro f hf
    have f1 := List.all_eq_true.mp c8 f hf
    rw [Bool.and_eq_true, Bool.or_eq_true, decide_eq_true_eq] at f1
    have f2 := sf_dd_ok (sf_val_range _) hF c9 (sf_sh (d2.drop nA).length f) (List.mem_map_of_mem hf)
    rw [esk] at f2
    obtain ⟨g1, g2, g3, g4⟩ := f
    refine sf_s_map (sf_v0_at hst f1.1) (fun e => ?_) f2
    exact sf_v0_at hst (f1.2.resolve_left e)
  obtain ⟨r, hp', t', hX, H', hfr, han, hpost⟩ := hK t hp as H k1 k2 hpre
  have hb : ∀ q, sf_cb K (d2.drop nA).length q = false → sf_val (lo, r.toList ++ st, (u.1 + mc, u.2 + ms), hp') q = sf_val (lo, as.reverse ++ st, u, hp) q := by
    intro q hq
    unfold sf_cb at hq
    rw [Bool.or_eq_false_iff] at hq
    rw [sf_val_fr (u := u) H hfr hq.2]
    exact sf_val_stk (lo := lo) (xs := as.reverse) (ys := r.toList) (st := st) (r := (u, hp)) (p := q) (by rw [hst]; exact hq.1)
  have h0 : sf_val (lo, r.toList ++ st, (u.1 + mc, u.2 + ms), hp') (3 * (d2.drop nA).length) = sf_v1 r as hp' 0 := by
    unfold sf_v1
    have e0 := sf_val_k (lo := []) (st := ((r.getD .null) :: as).reverse) (r := ((0, 0), hp')) (k := 0)
    rw [List.reverse_reverse] at e0
    refine Eq.trans ?_ e0.symm
    cases r with
    | some v => exact sf_val_py hst
    | none =>
      rw [sf_val_k]
      show sf_iv (st.reverse[(d2.drop nA).length]?) = _
      rw [List.getElem?_eq_none (by rw [List.length_reverse, hst]; exact Nat.le_refl _)]
      rfl
  have hk : ∀ k, sf_v1 r as hp' (3 * (k + 1)) = sf_val (lo, as.reverse ++ st, u, hp) (3 * ((d2.drop nA).length + k)) := by
    intro k
    unfold sf_v1
    rw [sf_val_k, sf_val_k, List.reverse_reverse, List.reverse_append, List.getElem?_append_right (by rw [List.length_reverse, hst]; exact Nat.le_add_right _ _), List.length_reverse, hst, Nat.add_sub_cancel_left, List.reverse_reverse]
    rfl
  have hh : ∀ p, p % 3 = 2 → 1000 ≤ p / 3 → sf_val (lo, r.toList ++ st, (u.1 + mc, u.2 + ms), hp') p = sf_v1 r as hp' p := fun p p1 p2 => sf_val_l p1 p2
  rw [esk] at hF
  have htail : ∀ (i : Nat) (j : sf_J), (d2.drop nA)[i]? = some j → sf_j t hp.1 j st[i]? := by
    intro i j hi
    rw [List.getElem?_drop] at hi
    rw [← est, List.getElem?_drop]
    exact hjs _ _ hi
  have hcat : ab_cats st ≤ 8 := Nat.le_trans (sf_cat_ok hst htail c3) c4
  refine ⟨(lo, r.toList ++ st, (u.1 + mc, u.2 + ms), hp'), t', ?_, ⟨H', ⟨G.2.1.1, fun i j hi => sf_j_mono (G.2.1.2 i j hi) hfr.1 hfr.2.1⟩, ⟨?_, ?_⟩, sf_S_app (sf_k_ok hb hF) (sf_S_app (sf_po_ok hF hb h0 hk hh hpost) (sf_S_app (sf_pc_ok hF hb h0 hk hpost) ?_)), ?_, ?_⟩, sf_fr_wider c7 hfr⟩
  · rw [ab_call]
    dsimp only
    rw [decide_eq_true (show nA ≤ stk.length by rw [hlen]; exact c1), est, decide_eq_true hcat, decide_eq_true (show u.1 + mc ≤ MC from Nat.le_trans (Nat.add_le_add_right hu.1 _) c5), decide_eq_true (show u.2 + ms ≤ MS from Nat.le_trans (Nat.add_le_add_right hu.2 _) c6), eas, hX]
    rfl
  · show (r.toList ++ st).length = (K.2.2.1.toList ++ d2.drop nA).length
    rw [List.length_append, List.length_append, hst]
    congr 1
    cases hr : K.2.2.1 with
    | none => rw [han.1 hr]; rfl
    | some j =>
      obtain ⟨v, hv, -⟩ := han.2 j hr
      rw [hv]
      rfl
  · intro i j hi
    show sf_j t' hp'.1 j (r.toList ++ st)[i]?
    replace hi : (K.2.2.1.toList ++ d2.drop nA)[i]? = some j := hi
    cases hr : K.2.2.1 with
    | none =>
      rw [hr] at hi
      rw [han.1 hr]
      exact sf_j_mono (htail i j hi) hfr.1 hfr.2.1
    | some k =>
      obtain ⟨v, hv, hj⟩ := han.2 k hr
      rw [hr] at hi
      rw [hv]
      match i, hi with
      | 0, hi =>
        cases hi
        exact hj
      | i + 1, hi => exact sf_j_mono (htail i j hi) hfr.1 hfr.2.1
  · split
    · rename_i j hr
      by_cases c : j.1 = 0
      · rw [decide_eq_true c]
        obtain ⟨v, hv, hj⟩ := han.2 j hr
        obtain ⟨x, hx⟩ := hj.1 c
        cases hx
        subst hv
        exact sf_S_cons (sf_top_ok (x := x) (sf_val_py hst)) sf_S_nil
      · rw [decide_eq_false c]
        exact sf_S_nil
    · exact sf_S_nil
  · exact Nat.add_le_add_right hu.1 _
  · exact Nat.add_le_add_right hu.2 _
/-- with a receiver of the class ci -/
def so_callV (W : List (Nat × Nat × Nat)) (K : sf_Q) (nA ci mc ms MC MS : Nat) (d : sf_D) : Option sf_D := match (d.2.1.take nA).reverse with
  | (1, g, n) :: _ => cond (decide (sf_o g = ci) && decide (g < 100) && decide (n ≠ 1)) (so_call W K nA mc ms MC MS d) none
  | _ => none
theorem so_callV_ok {W : List (Nat × Nat × Nat)} {K : sf_Q} {X : List Value → ab_H → Option ab_O} {nA ci mc ms MC MS : Nat} {d d' : sf_D} (hK : sf_ct K X) (h : so_callV W K nA ci mc ms MC MS d = some d') : sf_nx W (ab_callV nA ci X mc ms MC MS) d d' := by
  unfold so_callV at h
  split at h
  · rename_i g n r hr
    obtain ⟨hc, hcall⟩ := ab_condN h
    simp only [Bool.and_eq_true, decide_eq_true_eq] at hc
    obtain ⟨⟨rfl, hc2⟩, hc3⟩ := hc
    intro t s G
    obtain ⟨s', t', h1, h2, h3⟩ := so_call_ok hK hcall t s G
    refine ⟨s', t', ?_, h2, h3⟩
    have hl : (d.2.1.take nA).length = (s.2.1.take nA).length := by rw [List.length_take, List.length_take, G.2.2.1.1]
    have hpos : 0 < (d.2.1.take nA).length := by
      have := congrArg List.length hr
      rw [List.length_reverse, List.length_cons] at this
      omega
    have h0 : (d.2.1.take nA)[(d.2.1.take nA).length - 1]? = some (1, g, n) := by
      have := congrArg (fun l : List sf_J => l[0]?) hr
      replace this : (d.2.1.take nA).reverse[0]? = some (1, g, n) := this
      rw [List.getElem?_reverse hpos, Nat.sub_zero] at this
      exact this
    rw [List.getElem?_take_of_lt (by rw [List.length_take]; rw [List.length_take] at hpos; omega)] at h0
    have hj := G.2.2.1.2 _ _ h0
    rcases hj.2.1 rfl with ⟨a, hx, ha, hta⟩ | ⟨hx, -⟩
    · have e : (s.2.1.take nA).reverse[0]? = some (.ref a) := by
        rw [List.getElem?_reverse (by rw [← hl]; exact hpos), Nat.sub_zero, ← hl, List.getElem?_take_of_lt (by rw [List.length_take]; rw [List.length_take] at hpos; omega)]
        exact hx
      obtain ⟨q, hq⟩ : ∃ q, (s.2.1.take nA).reverse = .ref a :: q := by
        cases hs : (s.2.1.take nA).reverse with
        | nil => rw [hs] at e; cases e
        | cons y q =>
          rw [hs] at e
          cases e
          exact ⟨q, rfl⟩
      have hg : ab_rcv (sf_o g) (s.2.1.take nA).reverse s.2.2.2 = true := by
        rw [hq]
        have hcell := G.1.1 a ha
        rw [hta] at hcell
        cases hc : s.2.2.2.2 a with
        | inl x =>
          rw [hc] at hcell
          exact absurd hcell.1 (by show ¬ 100 ≤ g; omega)
        | inr o =>
          rw [hc] at hcell
          have e1 : o.1 = sf_o g := hcell.1
          show (decide (a < s.2.2.2.1) && _) = true
          rw [decide_eq_true ha, hc]
          show (true && (o.1 == sf_o g)) = true
          rw [e1, beq_self_eq_true]
          rfl
      rw [ab_callV, hg]
      exact h1
    · exact absurd hx hc3
  · cases h
def so_callR (W : List (Nat × Nat × Nat)) (K : sf_Q) (nA i mc ms MC MS : Nat) (d : sf_D) : Option sf_D := match (d.2.1.take nA).reverse with
  | (3, g, _) :: _ => cond (decide (g = i)) (so_call W K nA mc ms MC MS d) none
  | _ => none
theorem so_callR_ok {W : List (Nat × Nat × Nat)} {K : sf_Q} {X : List Value → ab_H → Option ab_O} {nA i mc ms MC MS : Nat} {d d' : sf_D} (hK : sf_ct K X) (h : so_callR W K nA i mc ms MC MS d = some d') : sf_nx W (ab_callR nA i X mc ms MC MS) d d' := by
  unfold so_callR at h
  split at h
  · rename_i g n r hr
    obtain ⟨hc, hcall⟩ := ab_condN h
    rw [decide_eq_true_eq] at hc
    subst hc
    intro t s G
    obtain ⟨s', t', h1, h2, h3⟩ := so_call_ok hK hcall t s G
    refine ⟨s', t', ?_, h2, h3⟩
    have hl : (d.2.1.take nA).length = (s.2.1.take nA).length := by rw [List.length_take, List.length_take, G.2.2.1.1]
    have hpos : 0 < (d.2.1.take nA).length := by
      have := congrArg List.length hr
      rw [List.length_reverse, List.length_cons] at this
      omega
    have h0 : (d.2.1.take nA)[(d.2.1.take nA).length - 1]? = some (3, g, n) := by
      have := congrArg (fun l : List sf_J => l[0]?) hr
      replace this : (d.2.1.take nA).reverse[0]? = some (3, g, n) := this
      rw [List.getElem?_reverse hpos, Nat.sub_zero] at this
      exact this
    rw [List.getElem?_take_of_lt (by rw [List.length_take]; rw [List.length_take] at hpos; omega)] at h0
    have hj := G.2.2.1.2 _ _ h0
    have hx := hj.2.2.2.1 rfl
    have e : (s.2.1.take nA).reverse[0]? = some (.retAddr g) := by
      rw [List.getElem?_reverse (by rw [← hl]; exact hpos), Nat.sub_zero, ← hl, List.getElem?_take_of_lt (by rw [List.length_take]; rw [List.length_take] at hpos; omega)]
      exact hx
    have hg : ab_rcR g (s.2.1.take nA).reverse = true := by
      cases hs : (s.2.1.take nA).reverse with
      | nil => rw [hs] at e; cases e
      | cons y q =>
        rw [hs] at e
        cases e
        show (g == g) = true
        exact beq_self_eq_true g
    rw [ab_callR, hg]
    exact h1
  · cases h
