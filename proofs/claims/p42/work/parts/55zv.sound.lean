/-! ===== what the check says ===== -/
theorem sf_look_ok {D : List (Nat × sf_D × sf_M)} {pc : Nat} {r : sf_D × sf_M} (h : sf_look D pc = some r) : (pc, r) ∈ D := by
  unfold sf_look at h
  obtain ⟨q, hq, rfl⟩ := Option.map_eq_some_iff.mp h
  have hm := List.mem_of_find?_eq_some hq
  have he := List.find?_some hq
  have e : q.1 = pc := by simpa using he
  rw [← e]
  exact hm
theorem sf_T_ok {E : List sf_X} {pc : Nat} : ∀ {C : List (Nat × sf_I)}, C.any (fun c => c.1 == pc) = true → ∃ q, (pc, q) ∈ C ∧ ab_T (C.map (fun c => (c.1, sf_den E c.2))) pc = some (sf_den E q)
  | [], h => by cases h
  | c :: C, h => by
    rw [List.map_cons, ab_T]
    cases e : (c.1 == pc) with
    | true =>
      have e' : c.1 = pc := by simpa using e
      refine ⟨c.2, ?_, ?_⟩
      · rw [← e']
        exact List.mem_cons_self
      · rfl
    | false =>
      rw [List.any_cons, e, Bool.false_or] at h
      obtain ⟨q, h1, h2⟩ := sf_T_ok (C := C) h
      refine ⟨q, List.mem_cons_of_mem _ h1, ?_⟩
      exact h2
theorem sf_re_ok {E : List sf_X} {k : sf_Q} {wr : List Nat} {q : sf_I} {d : sf_D} {t : Nat → Nat} {s : ab_S} {as : List Value} (hq : 35 ≤ q.1 ∧ q.1 ≤ 37) (h : sf_re k wr q d = true) (G : sf_g t d s)
    (ha : ∀ (i : Nat), i < k.1.length → (sf_li k.1 0).getD i 0 ∉ wr → sf_iv (s.1[(sf_li k.1 0).getD i 0]?).join = sf_iv as[i]?) :
    ∃ r, sf_den E q s = some (.inr (r, s.2.2.2)) ∧ sf_an t s.2.2.2.1 k.2.2.1 r ∧ sf_S (sf_v1 r as s.2.2.2) k.2.2.2.1 := by
  unfold sf_re at h
  rw [Bool.and_eq_true, Bool.and_eq_true, Bool.and_eq_true, Bool.and_eq_true, decide_eq_true_eq, decide_eq_true_eq] at h
  obtain ⟨⟨⟨⟨h1, h2⟩, h3⟩, h4⟩, h5⟩ := h
  obtain ⟨lo, stk, u, hp⟩ := s
  have hF : sf_S (sf_val (lo, stk, u, hp)) d.2.2.1 := G.2.2.2.1
  have u1 : u.1 ≤ sf_n0 q.2 0 := Nat.le_trans G.2.2.2.2.1 h1
  have u2 : u.2 ≤ sf_n0 q.2 1 := Nat.le_trans G.2.2.2.2.2 h2
  have hpost := sf_dd_ok (sf_val_range _) hF h4
  have post : ∀ r : Option Value, sf_v1 r as hp 0 = sf_val (lo, stk, u, hp) 0 → sf_S (sf_v1 r as hp) k.2.2.2.1 := by
    intro r hr f hf
    have hb := List.all_eq_true.mp h3 f hf
    have hs := hpost (sf_fm (sf_p1 (sf_li k.1 0)) f) (List.mem_map_of_mem hf)
    refine (sf_fm_ok (v := sf_v1 r as hp) (b := sf_g1 k.1.length (sf_li k.1 0) wr) (fun p hp' => ?_) hb).mpr hs
    unfold sf_g1 at hp'
    rw [Bool.or_eq_true, Bool.or_eq_true, decide_eq_true_eq, Bool.and_eq_true, Bool.and_eq_true, Bool.and_eq_true] at hp'
    simp only [decide_eq_true_eq] at hp'
    rcases hp' with (rfl | ⟨⟨c1, c2⟩, c3⟩) | ⟨c1, c2⟩
    · exact hr.symm
    · by_cases c0 : p = 0
      · subst c0
        exact hr.symm
      · unfold sf_p1
        rw [decide_eq_true c1, decide_eq_true c0]
        show sf_val (lo, stk, u, hp) (3 * (sf_li k.1 0).getD (p / 3 - 1) 0 + 1) = _
        rw [sf_val_lc]
        refine (ha _ c2 c3).trans ?_
        obtain ⟨i, rfl⟩ : ∃ i, p = 3 * (i + 1) := ⟨p / 3 - 1, by omega⟩
        unfold sf_v1
        rw [sf_val_k, List.reverse_reverse, show 3 * (i + 1) / 3 - 1 = i by omega]
        rfl
    · unfold sf_p1
      rw [decide_eq_false (show ¬ p % 3 = 0 by omega)]
      exact sf_val_l c1 c2
  obtain ⟨n, a⟩ := q
  have hn : n = 35 ∨ n = 36 ∨ n = 37 := by
    have := hq.1
    have := hq.2
    have e : (n, a).1 = n := rfl
    omega
  have hj0 : ∀ x : Int32, sf_an t hp.1 (some (0, 0, 0)) (some (.int x)) := fun x => ⟨fun e => (by cases e), fun j e => by
    cases e
    exact ⟨_, rfl, sf_j0⟩⟩
  have hv0 : ∀ x : Int32, sf_v1 (some (.int x)) as hp 0 = sf_val (lo, [.int x], u, hp) 0 := fun x => by
    unfold sf_v1
    have e0 := sf_val_k (lo := []) (st := (((some (.int x) : Option Value).getD .null) :: as).reverse) (r := ((0, 0), hp)) (k := 0)
    rw [List.reverse_reverse] at e0
    refine e0.trans ?_
    exact (sf_val_py (lo := lo) (v := .int x) (st := []) (r := (u, hp)) (n := 0) rfl).symm
  rcases hn with rfl | rfl | rfl
  · replace h5 : ((match d.2.1 with
      | [(0, _, _)] => true
      | _ => false) && decide (k.2.2.1 = some (0, 0, 0))) = true := h5
    rw [Bool.and_eq_true, decide_eq_true_eq] at h5
    obtain ⟨g1, g2⟩ := h5
    split at g1
    · rename_i x1 x2 hd
      obtain ⟨d1, d2, F, U, V⟩ := d
      have hd' : d2 = [(0, x1, x2)] := hd
      subst hd'
      obtain ⟨v, st, rfl, hl, hj⟩ := sf_pop1 G
      obtain ⟨x, hx⟩ := hj.1 rfl
      cases hx
      cases st with
      | cons y st => cases hl
      | nil =>
        refine ⟨some (.int x), ?_, by rw [g2]; exact hj0 x, post _ (hv0 x)⟩
        show cond (decide (u.1 ≤ sf_n0 a 0) && decide (u.2 ≤ sf_n0 a 1)) _ _ = _
        rw [decide_eq_true u1, decide_eq_true u2]
        rfl
    · cases g1
  · replace h5 : ((match d.2.1 with
      | [(0, _, _)] => true
      | _ => false) && decide (k.2.2.1 = some (0, 0, 0)) && decide (0 ≤ (sf_i d.2.2.1 0).1) && decide ((sf_i d.2.2.1 0).2 ≤ 1)) = true := h5
    rw [Bool.and_eq_true, Bool.and_eq_true, Bool.and_eq_true, decide_eq_true_eq, decide_eq_true_eq, decide_eq_true_eq] at h5
    obtain ⟨⟨⟨g1, g2⟩, g3⟩, g4⟩ := h5
    split at g1
    · rename_i x1 x2 hd
      obtain ⟨d1, d2, F, U, V⟩ := d
      have hd' : d2 = [(0, x1, x2)] := hd
      subst hd'
      obtain ⟨v, st, rfl, hl, hj⟩ := sf_pop1 G
      obtain ⟨x, hx⟩ := hj.1 rfl
      cases hx
      cases st with
      | cons y st => cases hl
      | nil =>
        have vx : sf_val (lo, [.int x], u, hp) 0 = some x.toInt := sf_val_py (lo := lo) (v := .int x) (st := []) (r := (u, hp)) (n := 0) rfl
        have rx := sf_i_ok (sf_val_range _) hF vx
        have hx01 : (decide (x = 0) || decide (x = 1)) = true := by
          replace rx : (sf_i F 0).1 ≤ x.toInt ∧ x.toInt ≤ (sf_i F 0).2 := rx
          replace g3 : 0 ≤ (sf_i F 0).1 := g3
          replace g4 : (sf_i F 0).2 ≤ 1 := g4
          rcases (show x.toInt = 0 ∨ x.toInt = 1 by omega) with e | e
          · rw [decide_eq_true (Int32.toInt_inj.mp e : x = 0)]
            rfl
          · rw [decide_eq_true (Int32.toInt_inj.mp e : x = 1), Bool.or_true]
        refine ⟨some (.int x), ?_, by rw [g2]; exact hj0 x, post _ (hv0 x)⟩
        show cond (decide (u.1 ≤ sf_n0 a 0) && decide (u.2 ≤ sf_n0 a 1) && (decide (x = 0) || decide (x = 1))) _ _ = _
        rw [decide_eq_true u1, decide_eq_true u2, hx01]
        rfl
    · cases g1
  · replace h5 : ((match d.2.1 with
      | [] => true
      | _ => false) && decide (k.2.2.1 = none)) = true := h5
    rw [Bool.and_eq_true, decide_eq_true_eq] at h5
    obtain ⟨g1, g2⟩ := h5
    split at g1
    · rename_i hd
      have hl : stk.length = 0 := by
        have : stk.length = d.2.1.length := G.2.2.1.1
        rw [hd] at this
        exact this
      cases stk with
      | cons y st => cases hl
      | nil =>
        refine ⟨none, ?_, by rw [g2]; exact ⟨fun _ => rfl, fun j e => (by cases e)⟩, post _ ?_⟩
        · show cond (decide (u.1 ≤ sf_n0 a 0) && decide (u.2 ≤ sf_n0 a 1)) _ _ = _
          rw [decide_eq_true u1, decide_eq_true u2]
          rfl
        · unfold sf_v1
          have e0 := sf_val_k (lo := []) (st := ((none : Option Value).getD .null :: as).reverse) (r := ((0, 0), hp)) (k := 0)
          rw [List.reverse_reverse] at e0
          exact e0
    · cases g1
theorem sf_meth {K : List sf_Q} {E : List sf_X} {k : sf_Q} {nL : Nat} {C : List (Nat × sf_I)} {D : List (Nat × sf_D × sf_M)} (hK : ∀ (m : Nat) (k : sf_Q), K[m]? = some k → sf_ct k (E.getD m sf_no)) (h : sf_chk K k nL C D = true) : sf_ct k (ab_X (ab_T (C.map (fun c => (c.1, sf_den E c.2)))) nL) := by
  unfold sf_chk at h
  rw [Bool.and_eq_true, Bool.and_eq_true, Bool.and_eq_true, Bool.and_eq_true, Bool.and_eq_true, decide_eq_true_eq] at h
  obtain ⟨⟨⟨⟨⟨c1, c2⟩, c3⟩, c4⟩, c5⟩, c6⟩ := h
  intro t0 hp0 as H0 hal haj hpre
  obtain ⟨a1, a2, a3⟩ := sf_ent 0 hal haj c1
  have hlen : (ab_ent as).length ≤ nL := by rw [a1]; exact c2
  have hli : ∀ (i : Nat), i < k.1.length → ∃ x, as[i]? = some x ∧ (ab_en nL as)[(sf_li k.1 0).getD i 0]? = some (some x) := by
    intro i hi
    have hi' : i < (sf_li k.1 0).length := by rw [sf_li_len]; exact hi
    obtain ⟨x, x1, -, x3⟩ := a3 i _ (List.getElem?_eq_getElem hi')
    refine ⟨x, x1, ?_⟩
    rw [Nat.sub_zero] at x3
    have e : (sf_li k.1 0).getD i 0 = (sf_li k.1 0)[i] := by rw [List.getD_eq_getElem?_getD, List.getElem?_eq_getElem hi']; rfl
    rw [e]
    unfold ab_en
    rw [List.getElem?_append_left (List.getElem?_eq_some_iff.mp x3).1]
    exact x3
  have G0 : sf_g t0 (sf_d0 nL k) (ab_en nL as, [], (0, 0), hp0) := by
    refine ⟨H0, ⟨?_, fun i j hi => ?_⟩, ⟨rfl, fun i j hi => (by cases hi)⟩, ?_, Nat.le_refl _, Nat.le_refl _⟩
    · show (ab_ent as ++ List.replicate (nL - (ab_ent as).length) none).length = (sf_ek k.1 ++ List.replicate (nL - (sf_ek k.1).length) (8, 0, 0)).length
      rw [List.length_append, List.length_append, List.length_replicate, List.length_replicate, a1]
    · show sf_j t0 hp0.1 j ((ab_ent as ++ List.replicate (nL - (ab_ent as).length) none)[i]?).join
      replace hi : (sf_ek k.1 ++ List.replicate (nL - (sf_ek k.1).length) (8, 0, 0))[i]? = some j := hi
      by_cases e : i < (sf_ek k.1).length
      · rw [List.getElem?_append_left e] at hi
        rw [List.getElem?_append_left (by rw [a1]; exact e)]
        exact a2 i j hi
      · rw [List.getElem?_append_right (Nat.not_lt.mp e), List.getElem?_replicate] at hi
        rw [List.getElem?_append_right (by rw [a1]; exact Nat.not_lt.mp e), List.getElem?_replicate, a1]
        split at hi
        · rename_i hlt
          cases hi
          rw [if_pos hlt]
          exact sf_j8
        · cases hi
    · intro f hf
      obtain ⟨g, hg, rfl⟩ := List.mem_map.mp hf
      have hb := List.all_eq_true.mp c3 g hg
      refine (sf_fm_ok (v := sf_v0 as hp0) (b := sf_g0 k.1.length) (fun p hp' => ?_) hb).mp (hpre g hg)
      unfold sf_g0 at hp'
      rw [Bool.or_eq_true, Bool.and_eq_true, Bool.and_eq_true, decide_eq_true_eq, decide_eq_true_eq, decide_eq_true_eq, decide_eq_true_eq] at hp'
      unfold sf_p0 sf_v0
      rcases hp' with ⟨p1, p2⟩ | ⟨p1, p2⟩
      · rw [decide_eq_true p1]
        show sf_val (ab_en nL as, [], (0, 0), hp0) (3 * (sf_li k.1 0).getD (p / 3) 0 + 1) = _
        obtain ⟨i, rfl⟩ : ∃ i, p = 3 * i := ⟨p / 3, by omega⟩
        rw [show 3 * i / 3 = i by omega] at p2 ⊢
        obtain ⟨x, x1, x2⟩ := hli i p2
        rw [sf_val_lc, sf_val_k, List.reverse_reverse, x1, x2]
        rfl
      · rw [decide_eq_false (show ¬ p % 3 = 0 by omega)]
        exact sf_val_l p1 p2
  have run : ∀ (n pc : Nat) (s : ab_S) (t : Nat → Nat) (d : sf_D) (m : sf_M), sf_mu m (sf_val s) ≤ n → sf_look D pc = some (d, m) → sf_g t d s → sf_fr k.2.2.2.2 t0 hp0 t s.2.2.2 → (∀ i, i ∉ C.flatMap (fun c => sf_wr c.2) → s.1[i]? = (ab_en nL as)[i]?) →
      Ev (ab_T (C.map (fun c => (c.1, sf_den E c.2)))) pc s (fun o => ∃ t', sf_h t' o.2 ∧ sf_fr k.2.2.2.2 t0 hp0 t' o.2 ∧ sf_an t' o.2.1 k.2.2.1 o.1 ∧ sf_S (sf_v1 o.1 as o.2) k.2.2.2.1) := by
    intro n
    induction n with
    | zero =>
      intro pc s t d m hm hl G hfr hw
      have hany := List.all_eq_true.mp c5 _ (sf_look_ok hl)
      obtain ⟨q, hq, hT⟩ := sf_T_ok (E := E) (C := C) (pc := pc) hany
      have hc := List.all_eq_true.mp c6 _ hq
      dsimp only at hc
      rw [hl] at hc
      dsimp only at hc
      cases hr : (decide (35 ≤ q.1) && decide (q.1 ≤ 37)) with
      | true =>
        rw [hr] at hc
        rw [Bool.and_eq_true, decide_eq_true_eq, decide_eq_true_eq] at hr
        obtain ⟨r, r1, r2, r3⟩ := sf_re_ok (E := E) (as := as) hr hc G (fun i hi hn => by
          obtain ⟨x, x1, x2⟩ := hli i hi
          rw [hw _ hn, x1, x2]
          rfl)
        exact Ev.ret hT r1 ⟨t, G.1, hfr, r2, r3⟩
      | false =>
        rw [hr] at hc
        replace hc : sf_st K k.2.2.2.2 D q d m = true := hc
        unfold sf_st at hc
        split at hc
        · cases hc
        · rename_i out hgo
          obtain ⟨j, s', t', d', e1, e2, e3, e4⟩ := sf_go_ok hK hgo t s G
          have ho := List.all_eq_true.mp hc _ e2
          dsimp only at ho
          split at ho
          · rename_i r hlr
            rw [Bool.and_eq_true] at ho
            have := sf_mc_ok hK G e3.2.2.2.1 e1 _ _ _ _ ho.2
            unfold sf_mu at hm
            omega
          · cases ho
    | succ n ih =>
      intro pc s t d m hm hl G hfr hw
      have hany := List.all_eq_true.mp c5 _ (sf_look_ok hl)
      obtain ⟨q, hq, hT⟩ := sf_T_ok (E := E) (C := C) (pc := pc) hany
      have hc := List.all_eq_true.mp c6 _ hq
      dsimp only at hc
      rw [hl] at hc
      dsimp only at hc
      cases hr : (decide (35 ≤ q.1) && decide (q.1 ≤ 37)) with
      | true =>
        rw [hr] at hc
        rw [Bool.and_eq_true, decide_eq_true_eq, decide_eq_true_eq] at hr
        obtain ⟨r, r1, r2, r3⟩ := sf_re_ok (E := E) (as := as) hr hc G (fun i hi hn => by
          obtain ⟨x, x1, x2⟩ := hli i hi
          rw [hw _ hn, x1, x2]
          rfl)
        exact Ev.ret hT r1 ⟨t, G.1, hfr, r2, r3⟩
      | false =>
        rw [hr] at hc
        replace hc : sf_st K k.2.2.2.2 D q d m = true := hc
        unfold sf_st at hc
        split at hc
        · cases hc
        · rename_i out hgo
          obtain ⟨j, s', t', d', e1, e2, e3, e4⟩ := sf_go_ok hK hgo t s G
          have ho := List.all_eq_true.mp hc _ e2
          dsimp only at ho
          split at ho
          · rename_i r hlr
            rw [Bool.and_eq_true] at ho
            have hmc := sf_mc_ok hK G e3.2.2.2.1 e1 _ _ _ _ ho.2
            refine Ev.step hT e1 (ih j s' t' r.1 r.2 ?_ hlr (sf_le_ok ho.1 e3) (sf_fr_tr hfr e4) (fun i hi => ?_))
            · unfold sf_mu at hm ⊢
              omega
            · rw [sf_wr_ok e1 (fun hw' => hi (List.mem_flatMap.mpr ⟨_, hq, hw'⟩))]
              exact hw i hi
          · cases ho
  split at c4
  · rename_i r hl
    have hev := run (sf_mu r.2 (sf_val (ab_en nL as, [], (0, 0), hp0))) 0 (ab_en nL as, [], (0, 0), hp0) t0 r.1 r.2 (Nat.le_refl _) hl (sf_le_ok c4 G0) sf_fr_rf (fun _ _ => rfl)
    obtain ⟨o, o1, t', o2, o3, o4, o5⟩ := ab_X_ev hlen hev
    exact ⟨o.1, o.2, t', o1, o2, o3, o4, o5⟩
  · cases c4
