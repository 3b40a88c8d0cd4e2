/-! ===== which images are there ===== -/
def im (hp : ab_H) (k : Nat) : Option Nat := match hp.2 41 with
  | .inl (_, _, .inr (.inr (.inr (.inr f)))) => f k
  | _ => none
theorem im_fr {W : List (Nat × Nat × Nat)} {t t' : Nat → Nat} {hp hp' : ab_H} {k : Nat} (H : sf_h t hp) (f : sf_fr W t hp t' hp') (hW : W.all (fun w => decide (w.1 ≠ 127)) = true) : im hp' k = im hp k := by
  obtain ⟨a1, a2⟩ := H.2.2.1 127 41 rfl
  have e := f.2.2.2.1 41 a1 (by rw [a2]; exact hW)
  unfold im
  rw [e]
def im_z (x : Int) : Int := if 0 ≤ x ∧ x ≤ 1 then 1 else 0
def rs_z (x : Int) (m : Option Nat) : Int := if 0 ≤ x ∧ x ≤ 1 ∧ m ≠ none then 1 else 0
def rk_z (x : Int) (m : Option Int) : Int := if 0 ≤ x ∧ x ≤ 1 ∧ m ≠ some 0 then 1 else 0
/-- the class keeps an image just where the reference does -/
def RI (hp : ab_H) : Prop := ∀ k : Nat, k < 2 → (im hp k = none ↔ sf_rd hp 86 k = some 0)
theorem RI_z {hp : ab_H} {x : Int} (h : RI hp) : rs_z x (im hp x.toNat) = rk_z x (sf_rd hp 86 x.toNat) := by
  unfold rs_z rk_z
  by_cases c : 0 ≤ x ∧ x ≤ 1
  · have hk := h x.toNat (by omega)
    by_cases d : im hp x.toNat = none
    · rw [if_neg (fun q => q.2.2 d), if_neg (fun q => q.2.2 (hk.mp d))]
    · rw [if_pos ⟨c.1, c.2, d⟩, if_pos ⟨c.1, c.2, fun q => d (hk.mpr q)⟩]
  · rw [if_neg (fun q => c ⟨q.1, q.2.1⟩), if_neg (fun q => c ⟨q.1, q.2.1⟩)]
section BS
variable {T : Nat → Option ab_A} {i j : Nat} {lo : List (Option Value)} {st : List Value} {u : Nat × Nat} {hp : ab_H} {Q : ab_O → Prop} {t : Nat → Nat} {x y : Int32}
theorem bs_aaldI {a g g1 k : Nat} (hT : T i = some (ab_nx j (ab_aald (k + 4)))) (H : sf_h t hp) (hR : bs_R t hp a g) (hg : 100 ≤ g) (hk : (sf_A g).1 = k + 4) (he : (sf_A g).2.2 = [((sf_A g).2.1, (1, (g1 : Int), 1))]) (x0 : 0 ≤ x.toInt) (x1 : x.toInt < ((sf_A g).2.1 : Int)) (h0 : (a = 41 → im hp x.toInt.toNat = none) → Ev T j (lo, .null :: st, u, hp) Q) (h1 : ∀ b, bs_R t hp b g1 → (a = 41 → im hp x.toInt.toNat = some b) → Ev T j (lo, .ref b :: st, u, hp) Q) : Ev T i (lo, .int x :: .ref a :: st, u, hp) Q := by
  obtain ⟨f, e1, e2, e3⟩ := sf_rarr H hR.1 hR.2 hg (by rw [hk]; omega)
  have en : x.toNatClampNeg = x.toInt.toNat := by
    have := n_idx x0
    omega
  have e4 := e3 x.toInt.toNat (by omega)
  rw [he] at e4
  have e5 : sf_v t hp.1 (1, (g1 : Int), 1) (ab_rf (f x.toInt.toNat)) := by
    have e6 : sf_v t hp.1 (cond (decide (x.toInt.toNat < (sf_A g).2.1)) (1, (g1 : Int), 1) (9, 0, 0)) (ab_rf (f x.toInt.toNat)) := e4
    rw [decide_eq_true (show x.toInt.toNat < (sf_A g).2.1 by omega)] at e6
    exact e6
  rw [hk] at e1
  refine Ev.nx hT (s' := (lo, ab_rf (f x.toInt.toNat) :: st, u, hp)) ?_ ?_
  · rw [← en]
    unfold ab_aald
    dsimp only
    rw [decide_eq_true hR.1, e1]
    dsimp only
    rw [n_in x0 x1, beq_self_eq_true]
    rfl
  · cases hf : f x.toInt.toNat with
    | none => exact h0 (fun ea => by subst ea; unfold im; rw [e1]; exact hf)
    | some b =>
      rw [hf] at e5
      exact h1 b ⟨e5.2.1, Int.ofNat.inj e5.2.2⟩ (fun ea => by subst ea; unfold im; rw [e1]; exact hf)
theorem bs_aastI {W : List (Nat × Nat × Nat)} {a g gv v k ci : Nat} (hT : T i = some (ab_nx j (ab_aast (k + 4) ci))) (H : sf_h t hp) (hR : bs_R t hp a g) (hV : bs_R t hp v gv) (hg : 100 ≤ g) (hk : (sf_A g).1 = k + 4) (he : (sf_A g).2.2 = [((sf_A g).2.1, (1, (gv : Int), 1))]) (hci : sf_o gv = ci) (hW : sf_cv W g 0 0 = true) (hsp : sf_sp g 0 = false) (hgv : gv < 100) (x0 : 0 ≤ x.toInt) (x1 : x.toInt < ((sf_A g).2.1 : Int))
    (h : ∀ hp', sf_h t hp' → sf_fr W t hp t hp' → (∀ b q, sf_rd hp' b q = sf_rd hp b q) → (∀ b q, sf_rr hp' b q = sf_rr hp b q) → (a = 41 → im hp' x.toInt.toNat = some v ∧ ∀ q, q ≠ x.toInt.toNat → im hp' q = im hp q) → Ev T j (lo, st, u, hp') Q) : Ev T i (lo, .ref v :: .int x :: .ref a :: st, u, hp) Q := by
  obtain ⟨f, e1, e2, e3⟩ := sf_rarr H hR.1 hR.2 hg (by rw [hk]; omega)
  obtain ⟨cv1, cv2⟩ := sf_cv_ok hW
  have en : x.toNatClampNeg = x.toInt.toNat := by
    have := n_idx x0
    omega
  have e1' : hp.2 a = .inl (k + 4, (sf_A g).2.1, .inr (.inr (.inr (.inr f)))) := by rw [e1, hk]
  have hr : ∀ b q, sf_rd (ab_up hp a (.inl (k + 4, (sf_A g).2.1, .inr (.inr (.inr (.inr (va_up f x.toInt.toNat (some v)))))))) b q = sf_rd hp b q := by
    intro b q
    by_cases e : b = a
    · subst e
      unfold sf_rd
      rw [ab_up_eq, e1']
    · exact sf_rd_up_ne e
  have hrr : ∀ b q, sf_rr (ab_up hp a (.inl (k + 4, (sf_A g).2.1, .inr (.inr (.inr (.inr (va_up f x.toInt.toNat (some v)))))))) b q = sf_rr hp b q := by
    intro b q
    by_cases e : b = a
    · subst e
      unfold sf_rr
      rw [ab_up_eq, e1']
    · exact sf_rr_up_ne e
  have hI := sf_I_up H (i0 := 0) (i1 := 0) (c := .inl (k + 4, (sf_A g).2.1, .inr (.inr (.inr (.inr (va_up f x.toInt.toNat (some v))))))) (by rw [hR.2]; exact hsp) (fun q _ => hr a q) (fun h5 => absurd (hR.2.symm.trans h5) (by omega))
  have H' : sf_h t (ab_up hp a (.inl (k + 4, (sf_A g).2.1, .inr (.inr (.inr (.inr (va_up f x.toInt.toNat (some v)))))))) := by
    have := sf_rarr_put H hR.1 hR.2 hg (by rw [hk]; omega) e2 (f := va_up f x.toInt.toNat (some v)) (fun q hq => by
      by_cases e : q = x.toInt.toNat
      · have e7 : va_up f x.toInt.toNat (some v) q = some v := if_pos e
        rw [e7, he]
        show sf_v t hp.1 (cond (decide (q < (sf_A g).2.1)) (1, (gv : Int), 1) (9, 0, 0)) (.ref v)
        rw [decide_eq_true hq]
        exact ⟨rfl, hV.1, congrArg Int.ofNat hV.2⟩
      · have e7 : va_up f x.toInt.toNat (some v) q = f q := if_neg e
        rw [e7]
        exact e3 q hq) (by rw [hk]; exact hI)
    rw [hk] at this
    exact this
  have hcell := H.1 v hV.1
  rw [hV.2] at hcell
  have hvc : ∃ fs, hp.2 v = .inr (ci, fs) := by
    cases hc : hp.2 v with
    | inl z =>
      rw [hc] at hcell
      exact absurd hcell.1 (by omega)
    | inr o =>
      rw [hc] at hcell
      obtain ⟨o1, o2⟩ := o
      have : o1 = sf_o gv := hcell.1
      subst this
      exact ⟨o2, by rw [hci]⟩
  obtain ⟨fs, hvc⟩ := hvc
  refine Ev.nx hT (s' := (lo, st, u, ab_up hp a (.inl (k + 4, (sf_A g).2.1, .inr (.inr (.inr (.inr (va_up f x.toInt.toNat (some v))))))))) ?_ (h _ H' (sf_fr_up (i0 := 0) (i1 := 0) (by rw [hR.2]; exact cv1) cv2 (fun q _ => hr a q) (Or.inr (Or.inl (sf_n69 H hR.2 hg)))) hr hrr (fun ea => by subst ea; exact ⟨by unfold im; rw [ab_up_eq]; exact if_pos rfl, fun q hq => by unfold im; rw [ab_up_eq, e1']; exact if_neg hq⟩))
  rw [← en]
  unfold ab_aast
  dsimp only
  rw [decide_eq_true hR.1, decide_eq_true hV.1, e1', hvc]
  dsimp only
  rw [n_in x0 x1, beq_self_eq_true, beq_self_eq_true]
  rfl
end BS
theorem rd_fr {W : List (Nat × Nat × Nat)} {t t' : Nat → Nat} {hp hp' : ab_H} {k : Nat} (H : sf_h t hp) (f : sf_fr W t hp t' hp') (hW : W.all (fun w => decide (w.1 ≠ 147)) = true) : sf_rd hp' 86 k = sf_rd hp 86 k := by
  obtain ⟨a1, a2⟩ := H.2.2.1 147 86 rfl
  have e := f.2.2.2.1 86 a1 (by rw [a2]; exact hW)
  unfold sf_rd
  rw [e]
theorem RI_keep {W : List (Nat × Nat × Nat)} {t t' : Nat → Nat} {hp hp' : ab_H} (H : sf_h t hp) (f : sf_fr W t hp t' hp') (h1 : W.all (fun w => decide (w.1 ≠ 127)) = true) (h2 : W.all (fun w => decide (w.1 ≠ 147)) = true) (h : RI hp) : RI hp' := fun k hk => by
  rw [im_fr H f h1, rd_fr H f h2]
  exact h k hk
theorem RI_image {W1 W2 : List (Nat × Nat × Nat)} {t t1 t2 : Nat → Nat} {hp hp1 hp2 : ab_H} {x : Int} (H : sf_h t hp) (H1 : sf_h t1 hp1) (f1 : sf_fr W1 t hp t1 hp1) (f2 : sf_fr W2 t1 hp1 t2 hp2) (w1 : W1.all (fun w => decide (w.1 ≠ 147)) = true) (w2 : W2.all (fun w => decide (w.1 ≠ 127)) = true) (h : RI hp) (c1 : 0 ≤ x ∧ x ≤ 1 → im hp1 x.toNat ≠ none) (c2 : ∀ q : Nat, (q : Int) ≠ x → im hp1 q = im hp q) (r1 : 0 ≤ x ∧ x ≤ 1 → ∃ v : Int, sf_rd hp2 86 x.toNat = some v ∧ v ≠ 0) (r2 : ∀ q : Nat, (q : Int) ≠ x → sf_rd hp2 86 q = sf_rd hp1 86 q) : RI hp2 := by
  intro k hk
  rw [im_fr H1 f2 w2]
  by_cases e : (k : Int) = x
  · have c := c1 (by omega)
    obtain ⟨v, hv, h0⟩ := r1 (by omega)
    rw [show x.toNat = k by omega] at c hv
    rw [hv]
    exact ⟨fun q => absurd q c, fun q => absurd (Option.some.inj q) h0⟩
  · rw [c2 k e, r2 k e, rd_fr H f1 w1]
    exact h k hk
def kq_X10_image_k : sf_Q := ([(1, 10, 0), (0, 0, 0)], [], some (0, 0, 0), [(1, 0, 0, 0, 1, 0)], [(5, 3, 5), (7, 7, 12), (15, 7, 9), (106, 0, 39), (107, 0, 39), (108, 0, 39), (109, 0, 11), (110, 0, 11), (111, 0, 11), (112, 0, 11), (113, 0, 7), (114, 0, 7), (115, 0, 63), (116, 0, 5), (117, 0, 7), (118, 0, 7), (119, 0, 47), (120, 0, 19), (121, 0, 19), (122, 0, 19), (127, 0, 0)])
def ke_X10_image_k : List Value → ab_H → Option Value → ab_H → Prop := fun as hp r hp' => ∀ x : Int32, as[1]? = some (Value.int x) → (∃ z : Int32, r = some (.int z) ∧ z.toInt = im_z x.toInt) ∧ (0 ≤ x.toInt ∧ x.toInt ≤ 1 → im hp' x.toInt.toNat ≠ none) ∧ ∀ q : Nat, (q : Int) ≠ x.toInt → im hp' q = im hp q
set_option maxRecDepth 100000 in
set_option maxHeartbeats 4000000 in
theorem ce_X10_image_k : sf_cE kq_X10_image_k Z_X10_image ke_X10_image_k := by
  intro t hp as H hl hj hpre
  match as, hl with
  | [v0, v1], _ =>
    obtain ⟨a0, rfl, ra0⟩ := bs_aR (hj 0 _ rfl)
    obtain rfl := ra0.eq H (p := 0) rfl
    obtain ⟨x1, rfl⟩ := bs_aI (hj 1 _ rfl)
    have rg1 := n_range x1
    clear hpre hj
    have F0 : sf_fr [(5, 3, 5), (7, 7, 12), (15, 7, 9), (106, 0, 39), (107, 0, 39), (108, 0, 39), (109, 0, 11), (110, 0, 11), (111, 0, 11), (112, 0, 11), (113, 0, 7), (114, 0, 7), (115, 0, 63), (116, 0, 5), (117, 0, 7), (118, 0, 7), (119, 0, 47), (120, 0, 19), (121, 0, 19), (122, 0, 19), (127, 0, 0)] t hp t hp := sf_fr_rf
    refine bs_finx (E := ke_X10_image_k) (K := kq_X10_image_k) (L := (L_X10_image Z_X3_init Z_X7_copyFrom Z_X6_copyFrom Z_X5_copyFrom)) (nL := 3) (Nat.le_of_ble_eq_true rfl) ?_
    obtain ⟨Q, hQ⟩ : ∃ Q : ab_O → Prop, Q = (fun o => ∃ t', sf_h t' o.2 ∧ sf_fr (kq_X10_image_k).2.2.2.2 t hp t' o.2 ∧ sf_an t' o.2.1 (kq_X10_image_k).2.2.1 o.1 ∧ sf_S (sf_v1 o.1 [.ref 0, .int x1] o.2) (kq_X10_image_k).2.2.2.1 ∧ ke_X10_image_k [.ref 0, .int x1] hp o.1 o.2) := ⟨_, rfl⟩
    rw [← hQ]
    refine (show Ev (ab_T (L_X10_image Z_X3_init Z_X7_copyFrom Z_X6_copyFrom Z_X5_copyFrom)) 0 ([some (.ref 0), some (.int x1), none], [], (0, 0), hp) Q from ?_)
    refine Ev.step (j := 1) (s' := ([some (.ref 0), some (.int x1), none], [.int x1], (0, 0), hp)) rfl rfl ?_
    refine bs_iflt rfl (fun c1 => ?_) (fun c1 => ?_)
    · skip
      refine bs_lit (k := 0) rfl rfl fun z2 hz2 => ?_
      exact bs_zret rfl rfl (by omega) (by omega) (by rw [hQ]; exact ⟨t, H, F0, bs_an0, sf_S_cons (sf_s1 (x := z2.toInt) rfl (by omega) (by omega)) (sf_S_nil), (fun x hx => by have hx2 : some (Value.int x1) = some (Value.int x) := hx; obtain rfl := Value.int.inj (Option.some.inj hx2); exact ⟨⟨z2, rfl, by unfold im_z; split <;> omega⟩, fun h => by omega, fun q hq => rfl⟩)⟩)
    · skip
      refine Ev.step (j := 5) (s' := ([some (.ref 0), some (.int x1), none], [.int x1], (0, 0), hp)) rfl rfl ?_
      refine bs_lit (k := 2) rfl rfl fun z3 hz3 => ?_
      refine bs_lt rfl (fun c4 => ?_) (fun c4 => ?_)
      · skip
        refine Ev.step (j := 12) (s' := ([some (.ref 0), some (.int x1), none], [.ref 0], (0, 0), hp)) rfl rfl ?_
        refine bs_getU (g := 10) (g1 := 127) rfl rfl H (bs_R.uq H (g := 10) rfl) (by decide) rfl rfl ?_
        refine Ev.step (j := 16) (s' := ([some (.ref 0), some (.int x1), none], [.int x1, .ref 41], (0, 0), hp)) rfl rfl ?_
        refine bs_aaldI (g := 127) (g1 := 3) rfl H (bs_R.uq H (g := 127) rfl) (by decide) rfl rfl (by omega) (by show _ < ((2 : Nat) : Int); omega) (fun mb5 => ?_) (fun b5 rb5 mb5 => ?_)
        · skip
          refine Ev.step (j := 18) (s' := ([some (.ref 0), some (.int x1), some (.null)], [], (0, 0), hp)) rfl rfl ?_
          refine Ev.step (j := 19) (s' := ([some (.ref 0), some (.int x1), some (.null)], [.null], (0, 0), hp)) rfl rfl ?_
          refine Ev.step (j := 22) (s' := ([some (.ref 0), some (.int x1), some (.null)], [], (0, 0), hp)) rfl rfl ?_
          obtain ⟨hp6, thp6, b7, nb7, Hhp6, fhp6, rb7⟩ := nw3 (hp := hp) (t := t) H
          have Fhp6 := sf_fr_tr F0 (sf_fr_wider (W := [(5, 3, 5), (7, 7, 12), (15, 7, 9), (106, 0, 39), (107, 0, 39), (108, 0, 39), (109, 0, 11), (110, 0, 11), (111, 0, 11), (112, 0, 11), (113, 0, 7), (114, 0, 7), (115, 0, 63), (116, 0, 5), (117, 0, 7), (118, 0, 7), (119, 0, 47), (120, 0, 19), (121, 0, 19), (122, 0, 19), (127, 0, 0)]) rfl fhp6)
          refine nw3_ev rfl rfl rfl rfl nb7 ?_
          refine (show Ev _ 29 ([some (.ref 0), some (.int x1), some (.null)], [.ref b7], (21, 410), hp6) _ from ?_)
          refine Ev.step (j := 30) (s' := ([some (.ref 0), some (.int x1), some (.ref b7)], [], (21, 410), hp6)) rfl rfl ?_
          refine Ev.step (j := 31) (s' := ([some (.ref 0), some (.int x1), some (.ref b7)], [.ref 0], (21, 410), hp6)) rfl rfl ?_
          refine bs_getU (g := 10) (g1 := 127) rfl rfl Hhp6 (bs_R.uq Hhp6 (g := 10) rfl) (by decide) rfl rfl ?_
          refine Ev.step (j := 35) (s' := ([some (.ref 0), some (.int x1), some (.ref b7)], [.int x1, .ref 41], (21, 410), hp6)) rfl rfl ?_
          refine Ev.step (j := 36) (s' := ([some (.ref 0), some (.int x1), some (.ref b7)], [.ref b7, .int x1, .ref 41], (21, 410), hp6)) rfl rfl ?_
          refine bs_aastI (W := [(127, 0, 0)]) (g := 127) (gv := 3) rfl Hhp6 (bs_R.uq Hhp6 (g := 127) rfl) rb7 (by decide) rfl rfl rfl rfl rfl (by decide) (by omega) (by show _ < ((2 : Nat) : Int); omega) fun hp8 Hhp8 fhp8 ehp8 qhp8 mhp8 => ?_
          have Fhp8 := sf_fr_tr Fhp6 (sf_fr_wider (W := [(5, 3, 5), (7, 7, 12), (15, 7, 9), (106, 0, 39), (107, 0, 39), (108, 0, 39), (109, 0, 11), (110, 0, 11), (111, 0, 11), (112, 0, 11), (113, 0, 7), (114, 0, 7), (115, 0, 63), (116, 0, 5), (117, 0, 7), (118, 0, 7), (119, 0, 47), (120, 0, 19), (121, 0, 19), (122, 0, 19), (127, 0, 0)]) rfl fhp8)
          have r9 := rb7.fr fhp8
          refine Ev.step (j := 38) (s' := ([some (.ref 0), some (.int x1), some (.ref b7)], [.ref b7], (21, 410), hp8)) rfl rfl ?_
          refine bs_getR (g := 3) (g1 := 7) rfl rfl Hhp8 r9 (by decide) rfl fun b10 qb10 rb10 => ?_
          refine Ev.step (j := 42) (s' := ([some (.ref 0), some (.int x1), some (.ref b7)], [.ref 0, .ref b10], (21, 410), hp8)) rfl rfl ?_
          refine bs_getR (g := 10) (g1 := 7) rfl rfl Hhp8 (bs_R.uq Hhp8 (g := 10) rfl) (by decide) rfl fun b11 qb11 rb11 => ?_
          refine bs_call (K := kq_X7_copyFrom_05a80a) [.ref b10, .ref b11] [] rfl ct_X7_copyFrom_05a80a Hhp8 rfl rfl rfl (bs_rcv (g := 7) Hhp8 rb10 (by decide) rfl) rfl ?_ (sf_S_nil) fun r12 hp13 thp13 Hhp13 fhp13 ahp13 php13 => ?_
          · intro q k h
            match q, h with
            | 0, h => cases h; exact bs_jR rb10
            | 1, h => cases h; exact bs_jR rb11
            | q + 2, h => cases h
          obtain rfl := ahp13.1 rfl
          have Fhp13 := sf_fr_tr Fhp8 (sf_fr_wider (W := [(5, 3, 5), (7, 7, 12), (15, 7, 9), (106, 0, 39), (107, 0, 39), (108, 0, 39), (109, 0, 11), (110, 0, 11), (111, 0, 11), (112, 0, 11), (113, 0, 7), (114, 0, 7), (115, 0, 63), (116, 0, 5), (117, 0, 7), (118, 0, 7), (119, 0, 47), (120, 0, 19), (121, 0, 19), (122, 0, 19), (127, 0, 0)]) rfl fhp13)
          have r14 := r9.fr fhp13
          have r15 := rb10.fr fhp13
          have r16 := rb11.fr fhp13
          refine (show Ev _ 48 ([some (.ref 0), some (.int x1), some (.ref b7)], [], (21, 410), hp13) _ from ?_)
          refine Ev.step (j := 49) (s' := ([some (.ref 0), some (.int x1), some (.ref b7)], [.ref b7], (21, 410), hp13)) rfl rfl ?_
          refine bs_getR (g := 3) (g1 := 15) rfl rfl Hhp13 r14 (by decide) rfl fun b17 qb17 rb17 => ?_
          refine Ev.step (j := 53) (s' := ([some (.ref 0), some (.int x1), some (.ref b7)], [.ref 0, .ref b17], (21, 410), hp13)) rfl rfl ?_
          refine bs_getU (g := 10) (g1 := 6) rfl rfl Hhp13 (bs_R.uq Hhp13 (g := 10) rfl) (by decide) rfl rfl ?_
          refine bs_call (K := kq_X6_copyFrom_36ba66) [.ref b17, .ref 12] [] rfl ct_X6_copyFrom_36ba66 Hhp13 rfl rfl rfl (bs_rcv (g := 15) Hhp13 rb17 (by decide) rfl) rfl ?_ (sf_S_nil) fun r18 hp19 thp19 Hhp19 fhp19 ahp19 php19 => ?_
          · intro q k h
            match q, h with
            | 0, h => cases h; exact bs_jR rb17
            | 1, h => cases h; exact bs_jR (bs_R.uq Hhp13 (g := 6) rfl)
            | q + 2, h => cases h
          obtain rfl := ahp19.1 rfl
          have Fhp19 := sf_fr_tr Fhp13 (sf_fr_wider (W := [(5, 3, 5), (7, 7, 12), (15, 7, 9), (106, 0, 39), (107, 0, 39), (108, 0, 39), (109, 0, 11), (110, 0, 11), (111, 0, 11), (112, 0, 11), (113, 0, 7), (114, 0, 7), (115, 0, 63), (116, 0, 5), (117, 0, 7), (118, 0, 7), (119, 0, 47), (120, 0, 19), (121, 0, 19), (122, 0, 19), (127, 0, 0)]) rfl fhp19)
          have r20 := r14.fr fhp19
          have r21 := r15.fr fhp19
          have r22 := r16.fr fhp19
          have r23 := rb17.fr fhp19
          refine (show Ev _ 59 ([some (.ref 0), some (.int x1), some (.ref b7)], [], (21, 410), hp19) _ from ?_)
          refine Ev.step (j := 60) (s' := ([some (.ref 0), some (.int x1), some (.ref b7)], [.ref b7], (21, 410), hp19)) rfl rfl ?_
          refine bs_getR (g := 3) (g1 := 5) rfl rfl Hhp19 r20 (by decide) rfl fun b24 qb24 rb24 => ?_
          refine Ev.step (j := 64) (s' := ([some (.ref 0), some (.int x1), some (.ref b7)], [.ref 0, .ref b24], (21, 410), hp19)) rfl rfl ?_
          refine bs_getR (g := 10) (g1 := 5) rfl rfl Hhp19 (bs_R.uq Hhp19 (g := 10) rfl) (by decide) rfl fun b25 qb25 rb25 => ?_
          refine bs_call (K := kq_X5_copyFrom_h) [.ref b24, .ref b25] [] rfl ct_X5_copyFrom_h Hhp19 rfl rfl rfl (bs_rcv (g := 5) Hhp19 rb24 (by decide) rfl) rfl ?_ (sf_S_nil) fun r26 hp27 thp27 Hhp27 fhp27 ahp27 php27 => ?_
          · intro q k h
            match q, h with
            | 0, h => cases h; exact bs_jR rb24
            | 1, h => cases h; exact bs_jR rb25
            | q + 2, h => cases h
          obtain rfl := ahp27.1 rfl
          have Fhp27 := sf_fr_tr Fhp19 (sf_fr_wider (W := [(5, 3, 5), (7, 7, 12), (15, 7, 9), (106, 0, 39), (107, 0, 39), (108, 0, 39), (109, 0, 11), (110, 0, 11), (111, 0, 11), (112, 0, 11), (113, 0, 7), (114, 0, 7), (115, 0, 63), (116, 0, 5), (117, 0, 7), (118, 0, 7), (119, 0, 47), (120, 0, 19), (121, 0, 19), (122, 0, 19), (127, 0, 0)]) rfl fhp27)
          have r28 := r20.fr fhp27
          have r29 := r21.fr fhp27
          have r30 := r22.fr fhp27
          have r31 := r23.fr fhp27
          have r32 := rb24.fr fhp27
          have r33 := rb25.fr fhp27
          refine (show Ev _ 70 ([some (.ref 0), some (.int x1), some (.ref b7)], [], (21, 410), hp27) _ from ?_)
          refine bs_lit (k := 1) rfl rfl fun z34 hz34 => ?_
          exact bs_zret rfl rfl (by omega) (by omega) (by rw [hQ]; exact ⟨thp27, Hhp27, Fhp27, bs_an0, sf_S_cons (sf_s1 (x := z34.toInt) rfl (by omega) (by omega)) (sf_S_nil), (fun x hx => by have hx2 : some (Value.int x1) = some (Value.int x) := hx; obtain rfl := Value.int.inj (Option.some.inj hx2); exact ⟨⟨z34, rfl, by unfold im_z; split <;> omega⟩, (fun _ e => absurd ((((im_fr Hhp19 fhp27 rfl).trans ((im_fr Hhp13 fhp19 rfl).trans (im_fr Hhp8 fhp13 rfl))).trans (mhp8 rfl).1).symm.trans e) (fun q => by cases q)), fun q hq => ((im_fr Hhp19 fhp27 rfl).trans ((im_fr Hhp13 fhp19 rfl).trans ((im_fr Hhp8 fhp13 rfl).trans (((mhp8 rfl).2 q (by omega)).trans (im_fr H fhp6 rfl)))))⟩)⟩)
        · skip
          refine Ev.step (j := 18) (s' := ([some (.ref 0), some (.int x1), some (.ref b5)], [], (0, 0), hp)) rfl rfl ?_
          refine Ev.step (j := 19) (s' := ([some (.ref 0), some (.int x1), some (.ref b5)], [.ref b5], (0, 0), hp)) rfl rfl ?_
          refine Ev.step (j := 37) (s' := ([some (.ref 0), some (.int x1), some (.ref b5)], [], (0, 0), hp)) rfl rfl ?_
          refine Ev.step (j := 38) (s' := ([some (.ref 0), some (.int x1), some (.ref b5)], [.ref b5], (0, 0), hp)) rfl rfl ?_
          refine bs_getR (g := 3) (g1 := 7) rfl rfl H rb5 (by decide) rfl fun b35 qb35 rb35 => ?_
          refine Ev.step (j := 42) (s' := ([some (.ref 0), some (.int x1), some (.ref b5)], [.ref 0, .ref b35], (0, 0), hp)) rfl rfl ?_
          refine bs_getR (g := 10) (g1 := 7) rfl rfl H (bs_R.uq H (g := 10) rfl) (by decide) rfl fun b36 qb36 rb36 => ?_
          refine bs_call (K := kq_X7_copyFrom_05a80a) [.ref b35, .ref b36] [] rfl ct_X7_copyFrom_05a80a H rfl rfl rfl (bs_rcv (g := 7) H rb35 (by decide) rfl) rfl ?_ (sf_S_nil) fun r37 hp38 thp38 Hhp38 fhp38 ahp38 php38 => ?_
          · intro q k h
            match q, h with
            | 0, h => cases h; exact bs_jR rb35
            | 1, h => cases h; exact bs_jR rb36
            | q + 2, h => cases h
          obtain rfl := ahp38.1 rfl
          have Fhp38 := sf_fr_tr F0 (sf_fr_wider (W := [(5, 3, 5), (7, 7, 12), (15, 7, 9), (106, 0, 39), (107, 0, 39), (108, 0, 39), (109, 0, 11), (110, 0, 11), (111, 0, 11), (112, 0, 11), (113, 0, 7), (114, 0, 7), (115, 0, 63), (116, 0, 5), (117, 0, 7), (118, 0, 7), (119, 0, 47), (120, 0, 19), (121, 0, 19), (122, 0, 19), (127, 0, 0)]) rfl fhp38)
          have r39 := rb5.fr fhp38
          have r40 := rb35.fr fhp38
          have r41 := rb36.fr fhp38
          refine (show Ev _ 48 ([some (.ref 0), some (.int x1), some (.ref b5)], [], (0, 0), hp38) _ from ?_)
          refine Ev.step (j := 49) (s' := ([some (.ref 0), some (.int x1), some (.ref b5)], [.ref b5], (0, 0), hp38)) rfl rfl ?_
          refine bs_getR (g := 3) (g1 := 15) rfl rfl Hhp38 r39 (by decide) rfl fun b42 qb42 rb42 => ?_
          refine Ev.step (j := 53) (s' := ([some (.ref 0), some (.int x1), some (.ref b5)], [.ref 0, .ref b42], (0, 0), hp38)) rfl rfl ?_
          refine bs_getU (g := 10) (g1 := 6) rfl rfl Hhp38 (bs_R.uq Hhp38 (g := 10) rfl) (by decide) rfl rfl ?_
          refine bs_call (K := kq_X6_copyFrom_36ba66) [.ref b42, .ref 12] [] rfl ct_X6_copyFrom_36ba66 Hhp38 rfl rfl rfl (bs_rcv (g := 15) Hhp38 rb42 (by decide) rfl) rfl ?_ (sf_S_nil) fun r43 hp44 thp44 Hhp44 fhp44 ahp44 php44 => ?_
          · intro q k h
            match q, h with
            | 0, h => cases h; exact bs_jR rb42
            | 1, h => cases h; exact bs_jR (bs_R.uq Hhp38 (g := 6) rfl)
            | q + 2, h => cases h
          obtain rfl := ahp44.1 rfl
          have Fhp44 := sf_fr_tr Fhp38 (sf_fr_wider (W := [(5, 3, 5), (7, 7, 12), (15, 7, 9), (106, 0, 39), (107, 0, 39), (108, 0, 39), (109, 0, 11), (110, 0, 11), (111, 0, 11), (112, 0, 11), (113, 0, 7), (114, 0, 7), (115, 0, 63), (116, 0, 5), (117, 0, 7), (118, 0, 7), (119, 0, 47), (120, 0, 19), (121, 0, 19), (122, 0, 19), (127, 0, 0)]) rfl fhp44)
          have r45 := r39.fr fhp44
          have r46 := r40.fr fhp44
          have r47 := r41.fr fhp44
          have r48 := rb42.fr fhp44
          refine (show Ev _ 59 ([some (.ref 0), some (.int x1), some (.ref b5)], [], (0, 0), hp44) _ from ?_)
          refine Ev.step (j := 60) (s' := ([some (.ref 0), some (.int x1), some (.ref b5)], [.ref b5], (0, 0), hp44)) rfl rfl ?_
          refine bs_getR (g := 3) (g1 := 5) rfl rfl Hhp44 r45 (by decide) rfl fun b49 qb49 rb49 => ?_
          refine Ev.step (j := 64) (s' := ([some (.ref 0), some (.int x1), some (.ref b5)], [.ref 0, .ref b49], (0, 0), hp44)) rfl rfl ?_
          refine bs_getR (g := 10) (g1 := 5) rfl rfl Hhp44 (bs_R.uq Hhp44 (g := 10) rfl) (by decide) rfl fun b50 qb50 rb50 => ?_
          refine bs_call (K := kq_X5_copyFrom_h) [.ref b49, .ref b50] [] rfl ct_X5_copyFrom_h Hhp44 rfl rfl rfl (bs_rcv (g := 5) Hhp44 rb49 (by decide) rfl) rfl ?_ (sf_S_nil) fun r51 hp52 thp52 Hhp52 fhp52 ahp52 php52 => ?_
          · intro q k h
            match q, h with
            | 0, h => cases h; exact bs_jR rb49
            | 1, h => cases h; exact bs_jR rb50
            | q + 2, h => cases h
          obtain rfl := ahp52.1 rfl
          have Fhp52 := sf_fr_tr Fhp44 (sf_fr_wider (W := [(5, 3, 5), (7, 7, 12), (15, 7, 9), (106, 0, 39), (107, 0, 39), (108, 0, 39), (109, 0, 11), (110, 0, 11), (111, 0, 11), (112, 0, 11), (113, 0, 7), (114, 0, 7), (115, 0, 63), (116, 0, 5), (117, 0, 7), (118, 0, 7), (119, 0, 47), (120, 0, 19), (121, 0, 19), (122, 0, 19), (127, 0, 0)]) rfl fhp52)
          have r53 := r45.fr fhp52
          have r54 := r46.fr fhp52
          have r55 := r47.fr fhp52
          have r56 := r48.fr fhp52
          have r57 := rb49.fr fhp52
          have r58 := rb50.fr fhp52
          refine (show Ev _ 70 ([some (.ref 0), some (.int x1), some (.ref b5)], [], (0, 0), hp52) _ from ?_)
          refine bs_lit (k := 1) rfl rfl fun z59 hz59 => ?_
          exact bs_zret rfl rfl (by omega) (by omega) (by rw [hQ]; exact ⟨thp52, Hhp52, Fhp52, bs_an0, sf_S_cons (sf_s1 (x := z59.toInt) rfl (by omega) (by omega)) (sf_S_nil), (fun x hx => by have hx2 : some (Value.int x1) = some (Value.int x) := hx; obtain rfl := Value.int.inj (Option.some.inj hx2); exact ⟨⟨z59, rfl, by unfold im_z; split <;> omega⟩, (fun _ e => absurd ((((im_fr Hhp44 fhp52 rfl).trans ((im_fr Hhp38 fhp44 rfl).trans (im_fr H fhp38 rfl))).trans (mb5 rfl)).symm.trans e) (fun q => by cases q)), fun q hq => ((im_fr Hhp44 fhp52 rfl).trans ((im_fr Hhp38 fhp44 rfl).trans (im_fr H fhp38 rfl)))⟩)⟩)
      · skip
        refine bs_lit (k := 0) rfl rfl fun z60 hz60 => ?_
        exact bs_zret rfl rfl (by omega) (by omega) (by rw [hQ]; exact ⟨t, H, F0, bs_an0, sf_S_cons (sf_s1 (x := z60.toInt) rfl (by omega) (by omega)) (sf_S_nil), (fun x hx => by have hx2 : some (Value.int x1) = some (Value.int x) := hx; obtain rfl := Value.int.inj (Option.some.inj hx2); exact ⟨⟨z60, rfl, by unfold im_z; split <;> omega⟩, fun h => by omega, fun q hq => rfl⟩)⟩)
theorem ct_X10_image_k : sf_ct kq_X10_image_k Z_X10_image := ce_X10_image_k.ct
def kq_X10_restore_r : sf_Q := ([(1, 10, 0), (0, 0, 0)], [], some (0, 0, 0), [(1, 0, 0, 0, 1, 0)], [(2, 1, 1), (5, 3, 5), (6, 7, 9), (7, 7, 12), (106, 0, 39), (107, 0, 39), (108, 0, 39), (116, 0, 5), (117, 0, 7), (118, 0, 7), (119, 0, 47), (120, 0, 19), (121, 0, 19), (122, 0, 19), (149, 0, 11), (150, 0, 11), (151, 0, 11), (152, 0, 11), (153, 0, 7), (154, 0, 7), (155, 0, 63)])
def ke_X10_restore_r : List Value → ab_H → Option Value → ab_H → Prop := fun as hp r _ => ∀ x : Int32, as[1]? = some (Value.int x) → ∃ z : Int32, r = some (.int z) ∧ z.toInt = rs_z x.toInt (im hp x.toInt.toNat)
set_option maxRecDepth 100000 in
set_option maxHeartbeats 4000000 in
theorem ce_X10_restore_r : sf_cE kq_X10_restore_r Z_X10_restore ke_X10_restore_r := by
  intro t hp as H hl hj hpre
  match as, hl with
  | [v0, v1], _ =>
    obtain ⟨a0, rfl, ra0⟩ := bs_aR (hj 0 _ rfl)
    obtain rfl := ra0.eq H (p := 0) rfl
    obtain ⟨x1, rfl⟩ := bs_aI (hj 1 _ rfl)
    have rg1 := n_range x1
    clear hpre hj
    have F0 : sf_fr [(2, 1, 1), (5, 3, 5), (6, 7, 9), (7, 7, 12), (106, 0, 39), (107, 0, 39), (108, 0, 39), (116, 0, 5), (117, 0, 7), (118, 0, 7), (119, 0, 47), (120, 0, 19), (121, 0, 19), (122, 0, 19), (149, 0, 11), (150, 0, 11), (151, 0, 11), (152, 0, 11), (153, 0, 7), (154, 0, 7), (155, 0, 63)] t hp t hp := sf_fr_rf
    refine bs_finx (E := ke_X10_restore_r) (K := kq_X10_restore_r) (L := (L_X10_restore Z_X7_copyFrom Z_X6_copyFrom Z_X5_copyFrom Z_X2_forget)) (nL := 3) (Nat.le_of_ble_eq_true rfl) ?_
    obtain ⟨Q, hQ⟩ : ∃ Q : ab_O → Prop, Q = (fun o => ∃ t', sf_h t' o.2 ∧ sf_fr (kq_X10_restore_r).2.2.2.2 t hp t' o.2 ∧ sf_an t' o.2.1 (kq_X10_restore_r).2.2.1 o.1 ∧ sf_S (sf_v1 o.1 [.ref 0, .int x1] o.2) (kq_X10_restore_r).2.2.2.1 ∧ ke_X10_restore_r [.ref 0, .int x1] hp o.1 o.2) := ⟨_, rfl⟩
    rw [← hQ]
    refine (show Ev (ab_T (L_X10_restore Z_X7_copyFrom Z_X6_copyFrom Z_X5_copyFrom Z_X2_forget)) 0 ([some (.ref 0), some (.int x1), none], [], (0, 0), hp) Q from ?_)
    refine Ev.step (j := 1) (s' := ([some (.ref 0), some (.int x1), none], [.int x1], (0, 0), hp)) rfl rfl ?_
    refine bs_iflt rfl (fun c1 => ?_) (fun c1 => ?_)
    · skip
      refine bs_lit (k := 0) rfl rfl fun z2 hz2 => ?_
      exact bs_zret rfl rfl (by omega) (by omega) (by rw [hQ]; exact ⟨t, H, F0, bs_an0, sf_S_cons (sf_s1 (x := z2.toInt) rfl (by omega) (by omega)) (sf_S_nil), (fun x hx => by have hx2 : some (Value.int x1) = some (Value.int x) := hx; obtain rfl := Value.int.inj (Option.some.inj hx2); exact ⟨z2, rfl, by unfold rs_z; rw [if_neg (fun q => absurd q.1 (by have := q.2.1; omega))]; omega⟩)⟩)
    · skip
      refine Ev.step (j := 5) (s' := ([some (.ref 0), some (.int x1), none], [.int x1], (0, 0), hp)) rfl rfl ?_
      refine bs_lit (k := 2) rfl rfl fun z3 hz3 => ?_
      refine bs_lt rfl (fun c4 => ?_) (fun c4 => ?_)
      · skip
        refine Ev.step (j := 12) (s' := ([some (.ref 0), some (.int x1), none], [.ref 0], (0, 0), hp)) rfl rfl ?_
        refine bs_getU (g := 10) (g1 := 127) rfl rfl H (bs_R.uq H (g := 10) rfl) (by decide) rfl rfl ?_
        refine Ev.step (j := 16) (s' := ([some (.ref 0), some (.int x1), none], [.int x1, .ref 41], (0, 0), hp)) rfl rfl ?_
        refine bs_aaldI (g := 127) (g1 := 3) rfl H (bs_R.uq H (g := 127) rfl) (by decide) rfl rfl (by omega) (by show _ < ((2 : Nat) : Int); omega) (fun mb5 => ?_) (fun b5 rb5 mb5 => ?_)
        · skip
          refine Ev.step (j := 18) (s' := ([some (.ref 0), some (.int x1), some (.null)], [], (0, 0), hp)) rfl rfl ?_
          refine Ev.step (j := 19) (s' := ([some (.ref 0), some (.int x1), some (.null)], [.null], (0, 0), hp)) rfl rfl ?_
          refine Ev.step (j := 22) (s' := ([some (.ref 0), some (.int x1), some (.null)], [], (0, 0), hp)) rfl rfl ?_
          refine bs_lit (k := 0) rfl rfl fun z6 hz6 => ?_
          exact bs_zret rfl rfl (by omega) (by omega) (by rw [hQ]; exact ⟨t, H, F0, bs_an0, sf_S_cons (sf_s1 (x := z6.toInt) rfl (by omega) (by omega)) (sf_S_nil), (fun x hx => by have hx2 : some (Value.int x1) = some (Value.int x) := hx; obtain rfl := Value.int.inj (Option.some.inj hx2); exact ⟨z6, rfl, by unfold rs_z; rw [if_neg (fun q => q.2.2 (mb5 rfl))]; omega⟩)⟩)
        · skip
          refine Ev.step (j := 18) (s' := ([some (.ref 0), some (.int x1), some (.ref b5)], [], (0, 0), hp)) rfl rfl ?_
          refine Ev.step (j := 19) (s' := ([some (.ref 0), some (.int x1), some (.ref b5)], [.ref b5], (0, 0), hp)) rfl rfl ?_
          refine Ev.step (j := 24) (s' := ([some (.ref 0), some (.int x1), some (.ref b5)], [], (0, 0), hp)) rfl rfl ?_
          refine Ev.step (j := 25) (s' := ([some (.ref 0), some (.int x1), some (.ref b5)], [.ref 0], (0, 0), hp)) rfl rfl ?_
          refine bs_getR (g := 10) (g1 := 7) rfl rfl H (bs_R.uq H (g := 10) rfl) (by decide) rfl fun b7 qb7 rb7 => ?_
          refine Ev.step (j := 29) (s' := ([some (.ref 0), some (.int x1), some (.ref b5)], [.ref b5, .ref b7], (0, 0), hp)) rfl rfl ?_
          refine bs_getR (g := 3) (g1 := 7) rfl rfl H rb5 (by decide) rfl fun b8 qb8 rb8 => ?_
          refine bs_call (K := kq_X7_copyFrom_05a80a) [.ref b7, .ref b8] [] rfl ct_X7_copyFrom_05a80a H rfl rfl rfl (bs_rcv (g := 7) H rb7 (by decide) rfl) rfl ?_ (sf_S_nil) fun r9 hp10 thp10 Hhp10 fhp10 ahp10 php10 => ?_
          · intro q k h
            match q, h with
            | 0, h => cases h; exact bs_jR rb7
            | 1, h => cases h; exact bs_jR rb8
            | q + 2, h => cases h
          obtain rfl := ahp10.1 rfl
          have Fhp10 := sf_fr_tr F0 (sf_fr_wider (W := [(2, 1, 1), (5, 3, 5), (6, 7, 9), (7, 7, 12), (106, 0, 39), (107, 0, 39), (108, 0, 39), (116, 0, 5), (117, 0, 7), (118, 0, 7), (119, 0, 47), (120, 0, 19), (121, 0, 19), (122, 0, 19), (149, 0, 11), (150, 0, 11), (151, 0, 11), (152, 0, 11), (153, 0, 7), (154, 0, 7), (155, 0, 63)]) rfl fhp10)
          have r11 := rb5.fr fhp10
          have r12 := rb7.fr fhp10
          have r13 := rb8.fr fhp10
          refine (show Ev _ 35 ([some (.ref 0), some (.int x1), some (.ref b5)], [], (0, 0), hp10) _ from ?_)
          refine Ev.step (j := 36) (s' := ([some (.ref 0), some (.int x1), some (.ref b5)], [.ref 0], (0, 0), hp10)) rfl rfl ?_
          refine bs_getU (g := 10) (g1 := 6) rfl rfl Hhp10 (bs_R.uq Hhp10 (g := 10) rfl) (by decide) rfl rfl ?_
          refine Ev.step (j := 40) (s' := ([some (.ref 0), some (.int x1), some (.ref b5)], [.ref b5, .ref 12], (0, 0), hp10)) rfl rfl ?_
          refine bs_getR (g := 3) (g1 := 15) rfl rfl Hhp10 r11 (by decide) rfl fun b14 qb14 rb14 => ?_
          refine bs_call (K := kq_X6_copyFrom_01fc90) [.ref 12, .ref b14] [] rfl ct_X6_copyFrom_01fc90 Hhp10 rfl rfl rfl (bs_rcv (g := 6) Hhp10 (bs_R.uq Hhp10 (g := 6) rfl) (by decide) rfl) rfl ?_ (sf_S_nil) fun r15 hp16 thp16 Hhp16 fhp16 ahp16 php16 => ?_
          · intro q k h
            match q, h with
            | 0, h => cases h; exact bs_jR (bs_R.uq Hhp10 (g := 6) rfl)
            | 1, h => cases h; exact bs_jR rb14
            | q + 2, h => cases h
          obtain rfl := ahp16.1 rfl
          have Fhp16 := sf_fr_tr Fhp10 (sf_fr_wider (W := [(2, 1, 1), (5, 3, 5), (6, 7, 9), (7, 7, 12), (106, 0, 39), (107, 0, 39), (108, 0, 39), (116, 0, 5), (117, 0, 7), (118, 0, 7), (119, 0, 47), (120, 0, 19), (121, 0, 19), (122, 0, 19), (149, 0, 11), (150, 0, 11), (151, 0, 11), (152, 0, 11), (153, 0, 7), (154, 0, 7), (155, 0, 63)]) rfl fhp16)
          have r17 := r11.fr fhp16
          have r18 := r12.fr fhp16
          have r19 := r13.fr fhp16
          have r20 := rb14.fr fhp16
          refine (show Ev _ 46 ([some (.ref 0), some (.int x1), some (.ref b5)], [], (0, 0), hp16) _ from ?_)
          refine Ev.step (j := 47) (s' := ([some (.ref 0), some (.int x1), some (.ref b5)], [.ref 0], (0, 0), hp16)) rfl rfl ?_
          refine bs_getR (g := 10) (g1 := 5) rfl rfl Hhp16 (bs_R.uq Hhp16 (g := 10) rfl) (by decide) rfl fun b21 qb21 rb21 => ?_
          refine Ev.step (j := 51) (s' := ([some (.ref 0), some (.int x1), some (.ref b5)], [.ref b5, .ref b21], (0, 0), hp16)) rfl rfl ?_
          refine bs_getR (g := 3) (g1 := 5) rfl rfl Hhp16 r17 (by decide) rfl fun b22 qb22 rb22 => ?_
          refine bs_call (K := kq_X5_copyFrom_h) [.ref b21, .ref b22] [] rfl ct_X5_copyFrom_h Hhp16 rfl rfl rfl (bs_rcv (g := 5) Hhp16 rb21 (by decide) rfl) rfl ?_ (sf_S_nil) fun r23 hp24 thp24 Hhp24 fhp24 ahp24 php24 => ?_
          · intro q k h
            match q, h with
            | 0, h => cases h; exact bs_jR rb21
            | 1, h => cases h; exact bs_jR rb22
            | q + 2, h => cases h
          obtain rfl := ahp24.1 rfl
          have Fhp24 := sf_fr_tr Fhp16 (sf_fr_wider (W := [(2, 1, 1), (5, 3, 5), (6, 7, 9), (7, 7, 12), (106, 0, 39), (107, 0, 39), (108, 0, 39), (116, 0, 5), (117, 0, 7), (118, 0, 7), (119, 0, 47), (120, 0, 19), (121, 0, 19), (122, 0, 19), (149, 0, 11), (150, 0, 11), (151, 0, 11), (152, 0, 11), (153, 0, 7), (154, 0, 7), (155, 0, 63)]) rfl fhp24)
          have r25 := r17.fr fhp24
          have r26 := r18.fr fhp24
          have r27 := r19.fr fhp24
          have r28 := r20.fr fhp24
          have r29 := rb21.fr fhp24
          have r30 := rb22.fr fhp24
          refine (show Ev _ 57 ([some (.ref 0), some (.int x1), some (.ref b5)], [], (0, 0), hp24) _ from ?_)
          refine Ev.step (j := 58) (s' := ([some (.ref 0), some (.int x1), some (.ref b5)], [.ref 0], (0, 0), hp24)) rfl rfl ?_
          refine bs_getU (g := 10) (g1 := 2) rfl rfl Hhp24 (bs_R.uq Hhp24 (g := 10) rfl) (by decide) rfl rfl ?_
          refine bs_call (K := kq_X2_forget_ec9902) [.ref 10] [] rfl ct_X2_forget_ec9902 Hhp24 rfl rfl rfl (bs_rcv (g := 2) Hhp24 (bs_R.uq Hhp24 (g := 2) rfl) (by decide) rfl) rfl ?_ (sf_S_nil) fun r31 hp32 thp32 Hhp32 fhp32 ahp32 php32 => ?_
          · intro q k h
            match q, h with
            | 0, h => cases h; exact bs_jR (bs_R.uq Hhp24 (g := 2) rfl)
            | q + 1, h => cases h
          obtain rfl := ahp32.1 rfl
          have Fhp32 := sf_fr_tr Fhp24 (sf_fr_wider (W := [(2, 1, 1), (5, 3, 5), (6, 7, 9), (7, 7, 12), (106, 0, 39), (107, 0, 39), (108, 0, 39), (116, 0, 5), (117, 0, 7), (118, 0, 7), (119, 0, 47), (120, 0, 19), (121, 0, 19), (122, 0, 19), (149, 0, 11), (150, 0, 11), (151, 0, 11), (152, 0, 11), (153, 0, 7), (154, 0, 7), (155, 0, 63)]) rfl fhp32)
          obtain ⟨y33, ey33, uy33, vy33⟩ := (php32 _ (List.mem_of_getElem? (i := 0) rfl)).1 rfl
          replace ey33 : sf_rd hp32 10 1 = some y33 := ey33
          replace uy33 : (0 : Int) ≤ y33 := uy33
          replace vy33 : y33 ≤ (0 : Int) := vy33
          have r34 := r25.fr fhp32
          have r35 := r26.fr fhp32
          have r36 := r27.fr fhp32
          have r37 := r28.fr fhp32
          have r38 := r29.fr fhp32
          have r39 := r30.fr fhp32
          refine (show Ev _ 64 ([some (.ref 0), some (.int x1), some (.ref b5)], [], (0, 0), hp32) _ from ?_)
          refine bs_lit (k := 1) rfl rfl fun z40 hz40 => ?_
          exact bs_zret rfl rfl (by omega) (by omega) (by rw [hQ]; exact ⟨thp32, Hhp32, Fhp32, bs_an0, sf_S_cons (sf_s1 (x := z40.toInt) rfl (by omega) (by omega)) (sf_S_nil), (fun x hx => by have hx2 : some (Value.int x1) = some (Value.int x) := hx; obtain rfl := Value.int.inj (Option.some.inj hx2); exact ⟨z40, rfl, by unfold rs_z; rw [if_pos ⟨by omega, by omega, by rw [(mb5 rfl)]; exact fun e => by cases e⟩]; omega⟩)⟩)
      · skip
        refine bs_lit (k := 0) rfl rfl fun z41 hz41 => ?_
        exact bs_zret rfl rfl (by omega) (by omega) (by rw [hQ]; exact ⟨t, H, F0, bs_an0, sf_S_cons (sf_s1 (x := z41.toInt) rfl (by omega) (by omega)) (sf_S_nil), (fun x hx => by have hx2 : some (Value.int x1) = some (Value.int x) := hx; obtain rfl := Value.int.inj (Option.some.inj hx2); exact ⟨z41, rfl, by unfold rs_z; rw [if_neg (fun q => absurd q.1 (by have := q.2.1; omega))]; omega⟩)⟩)
theorem ct_X10_restore_r : sf_ct kq_X10_restore_r Z_X10_restore := ce_X10_restore_r.ct
def kq_X11_image_k : sf_Q := ([(1, 11, 0), (0, 0, 0)], [], some (0, 0, 0), [(1, 0, 0, 0, 1, 0)], [(11, 0, 0), (145, 0, 867), (146, 0, 0), (147, 0, 1)])
def ke_X11_image_k : List Value → ab_H → Option Value → ab_H → Prop := fun as hp r hp' => ∀ x : Int32, as[1]? = some (Value.int x) → (∃ z : Int32, r = some (.int z) ∧ z.toInt = im_z x.toInt) ∧ (0 ≤ x.toInt ∧ x.toInt ≤ 1 → ∃ v : Int, sf_rd hp' 86 x.toInt.toNat = some v ∧ v ≠ 0) ∧ ∀ q : Nat, (q : Int) ≠ x.toInt → sf_rd hp' 86 q = sf_rd hp 86 q
set_option maxRecDepth 100000 in
set_option maxHeartbeats 4000000 in
theorem ce_X11_image_k : sf_cE kq_X11_image_k Z_X11_image ke_X11_image_k := by
  intro t hp as H hl hj hpre
  match as, hl with
  | [v0, v1], _ =>
    obtain ⟨a0, rfl, ra0⟩ := bs_aR (hj 0 _ rfl)
    obtain rfl := ra0.eq H (p := 69) rfl
    obtain ⟨x1, rfl⟩ := bs_aI (hj 1 _ rfl)
    have rg1 := n_range x1
    clear hpre hj
    have F0 : sf_fr [(11, 0, 0), (145, 0, 867), (146, 0, 0), (147, 0, 1)] t hp t hp := sf_fr_rf
    refine bs_finx (E := ke_X11_image_k) (K := kq_X11_image_k) (L := (L_X11_image Z_X11_isIn)) (nL := 3) (Nat.le_of_ble_eq_true rfl) ?_
    obtain ⟨Q, hQ⟩ : ∃ Q : ab_O → Prop, Q = (fun o => ∃ t', sf_h t' o.2 ∧ sf_fr (kq_X11_image_k).2.2.2.2 t hp t' o.2 ∧ sf_an t' o.2.1 (kq_X11_image_k).2.2.1 o.1 ∧ sf_S (sf_v1 o.1 [.ref 69, .int x1] o.2) (kq_X11_image_k).2.2.2.1 ∧ ke_X11_image_k [.ref 69, .int x1] hp o.1 o.2) := ⟨_, rfl⟩
    rw [← hQ]
    refine (show Ev (ab_T (L_X11_image Z_X11_isIn)) 0 ([some (.ref 69), some (.int x1), none], [], (0, 0), hp) Q from ?_)
    refine Ev.step (j := 1) (s' := ([some (.ref 69), some (.int x1), none], [.ref 69], (0, 0), hp)) rfl rfl ?_
    refine bs_lit (k := 0) rfl rfl fun z1 hz1 => ?_
    refine bs_putI (W := [(11, 0, 0)]) (g := 11) rfl rfl H (bs_R.uq H (g := 11) rfl) (by decide) rfl rfl rfl rfl (Or.inl rfl) (by omega) (by omega) fun hp2 Hhp2 fhp2 rhp2 ehp2 qhp2 nhp2 => ?_
    have Fhp2 := sf_fr_tr F0 (sf_fr_wider (W := [(11, 0, 0), (145, 0, 867), (146, 0, 0), (147, 0, 1)]) rfl fhp2)
    refine Ev.step (j := 6) (s' := ([some (.ref 69), some (.int x1), none], [.int x1], (0, 0), hp2)) rfl rfl ?_
    refine bs_lit (k := 0) rfl rfl fun z3 hz3 => ?_
    refine bs_lit (k := 1) rfl rfl fun z4 hz4 => ?_
    refine Ev.inlS (L := L_X11_isIn) (nL := 3) rfl rfl (Nat.le_of_ble_eq_true rfl) ?_
    generalize hQ5 : (fun (o : ab_O) => Ev _ _ _ _) = Q5
    refine (show Ev (ab_T L_X11_isIn) 0 ([some (.int x1), some (.int z3), some (.int z4)], [], (0, 0), hp2) Q5 from ?_)
    refine Ev.step (j := 1) (s' := ([some (.int x1), some (.int z3), some (.int z4)], [.int x1], (0, 0), hp2)) rfl rfl ?_
    refine Ev.step (j := 2) (s' := ([some (.int x1), some (.int z3), some (.int z4)], [.int z3, .int x1], (0, 0), hp2)) rfl rfl ?_
    refine bs_lt rfl (fun c6 => ?_) (fun c6 => ?_)
    · skip
      refine bs_lit (k := 0) rfl rfl fun z7 hz7 => ?_
      refine bs_zret rfl rfl (by omega) (by omega) ?_
      rw [← hQ5]
      refine (show Ev _ 11 ([some (.ref 69), some (.int x1), none], [.int z7], (0, 0), hp2) _ from ?_)
      refine bs_ifne rfl (fun c8 => ?_) (fun c8 => ?_)
      · exfalso; omega
      · skip
        refine bs_lit (k := 0) rfl rfl fun z9 hz9 => ?_
        exact bs_zret rfl rfl (by omega) (by omega) (by rw [hQ]; exact ⟨t, Hhp2, Fhp2, bs_an0, sf_S_cons (sf_s1 (x := z9.toInt) rfl (by omega) (by omega)) (sf_S_nil), (fun x hx => by have hx2 : some (Value.int x1) = some (Value.int x) := hx; obtain rfl := Value.int.inj (Option.some.inj hx2); exact ⟨⟨z9, rfl, by unfold im_z; split <;> omega⟩, fun h => by omega, fun q hq => (ehp2 _ _ (Or.inl (by decide)))⟩)⟩)
    · skip
      refine Ev.step (j := 6) (s' := ([some (.int x1), some (.int z3), some (.int z4)], [.int x1], (0, 0), hp2)) rfl rfl ?_
      refine Ev.step (j := 7) (s' := ([some (.int x1), some (.int z3), some (.int z4)], [.int z4, .int x1], (0, 0), hp2)) rfl rfl ?_
      refine bs_gt rfl (fun c10 => ?_) (fun c10 => ?_)
      · skip
        refine bs_lit (k := 0) rfl rfl fun z11 hz11 => ?_
        refine bs_zret rfl rfl (by omega) (by omega) ?_
        rw [← hQ5]
        refine (show Ev _ 11 ([some (.ref 69), some (.int x1), none], [.int z11], (0, 0), hp2) _ from ?_)
        refine bs_ifne rfl (fun c12 => ?_) (fun c12 => ?_)
        · exfalso; omega
        · skip
          refine bs_lit (k := 0) rfl rfl fun z13 hz13 => ?_
          exact bs_zret rfl rfl (by omega) (by omega) (by rw [hQ]; exact ⟨t, Hhp2, Fhp2, bs_an0, sf_S_cons (sf_s1 (x := z13.toInt) rfl (by omega) (by omega)) (sf_S_nil), (fun x hx => by have hx2 : some (Value.int x1) = some (Value.int x) := hx; obtain rfl := Value.int.inj (Option.some.inj hx2); exact ⟨⟨z13, rfl, by unfold im_z; split <;> omega⟩, fun h => by omega, fun q hq => (ehp2 _ _ (Or.inl (by decide)))⟩)⟩)
      · skip
        refine bs_lit (k := 1) rfl rfl fun z14 hz14 => ?_
        refine Ev.step (j := 15) (s' := ([some (.int x1), some (.int z3), some (.int z4)], [.int z14], (0, 0), hp2)) rfl rfl ?_
        refine bs_zret rfl rfl (by omega) (by omega) ?_
        rw [← hQ5]
        refine (show Ev _ 11 ([some (.ref 69), some (.int x1), none], [.int z14], (0, 0), hp2) _ from ?_)
        refine bs_ifne rfl (fun c15 => ?_) (fun c15 => ?_)
        · skip
          refine bs_lit (k := 0) rfl rfl fun z16 hz16 => ?_
          refine Ev.step (j := 18) (s' := ([some (.ref 69), some (.int x1), some (.int z16)], [], (0, 0), hp2)) rfl rfl ?_
          obtain ⟨n69, fl, e69, hfl⟩ := fl_get Hhp2
          obtain ⟨n71, f71, e71, KA71⟩ := ar_get Hhp2 132 71 434 rfl (by decide) rfl rfl
          obtain ⟨n84, f84, e84, KA84⟩ := ar_get Hhp2 145 84 868 rfl (by decide) rfl rfl
          obtain ⟨o0, ho0, ho⟩ : ∃ o : Nat, (o : Int) = 434 * x1.toInt ∧ (o = 0 ∨ o = 434) := ⟨(434 * x1.toInt).toNat, by omega, by omega⟩
          refine Ev.hp (show hp2 = ab_up hp2 84 (.inl (1, 868, .inl (cpf f84 f71 o0 0))) by rw [cpf_0]; exact ab_up_same e84) ?_
          refine cp_loop (N := 434) (fun zz nn => ([some (.ref 69), some (.int x1), some (.int zz)], [], (0, 0), (ab_up hp2 84 (.inl (1, 868, .inl (cpf f84 f71 o0 nn)))))) ?_ ?_ z16 (by omega)
          · intro nn zz hnn hzz ih
            refine (show Ev _ 18 ([some (.ref 69), some (.int x1), some (.int zz)], [], (0, 0), (ab_up hp2 84 (.inl (1, 868, .inl (cpf f84 f71 o0 nn))))) _ from ?_)
            have m69 : (ab_up hp2 84 (.inl (1, 868, .inl (cpf f84 f71 o0 nn)))).2 69 = .inr (11, fl) := (ab_up_ne (by decide)).trans e69
            have m71 : (ab_up hp2 84 (.inl (1, 868, .inl (cpf f84 f71 o0 nn)))).2 71 = .inl (1, 434, .inl f71) := (ab_up_ne (by decide)).trans e71
            refine Ev.step (j := 19) (s' := ([some (.ref 69), some (.int x1), some (.int zz)], [.int zz], (0, 0), (ab_up hp2 84 (.inl (1, 868, .inl (cpf f84 f71 o0 nn)))))) rfl rfl ?_
            refine bs_lit (k := 434) rfl rfl fun z17 hz17 => ?_
            refine bs_ge rfl (fun c18 => ?_) (fun c18 => ?_)
            · exfalso; omega
            · skip
              refine Ev.step (j := 26) (s' := ([some (.ref 69), some (.int x1), some (.int zz)], [.ref 69], (0, 0), (ab_up hp2 84 (.inl (1, 868, .inl (cpf f84 f71 o0 nn)))))) rfl rfl ?_
              refine Ev.getf rfl n69 m69 (hfl 40 145 84 rfl rfl) ?_
              refine (show Ev _ 29 ([some (.ref 69), some (.int x1), some (.int zz)], [.ref 84], (0, 0), (ab_up hp2 84 (.inl (1, 868, .inl (cpf f84 f71 o0 nn))))) _ from ?_)
              refine bs_lit (k := 434) rfl rfl fun z19 hz19 => ?_
              refine Ev.step (j := 33) (s' := ([some (.ref 69), some (.int x1), some (.int zz)], [.int x1, .int z19, .ref 84], (0, 0), (ab_up hp2 84 (.inl (1, 868, .inl (cpf f84 f71 o0 nn)))))) rfl rfl ?_
              refine bs_mul (434) rfl (Or.inl hz19) (by rw [hz19]; omega) (by rw [hz19]; omega) fun z20 hz20 => ?_
              rw [hz19] at hz20
              refine Ev.step (j := 35) (s' := ([some (.ref 69), some (.int x1), some (.int zz)], [.int zz, .int z20, .ref 84], (0, 0), (ab_up hp2 84 (.inl (1, 868, .inl (cpf f84 f71 o0 nn)))))) rfl rfl ?_
              first | (refine bs_add rfl (by omega) (by omega) fun z21 hz21 => ?_) | (refine bs_any rfl fun z21 => ?_)
              have rz21 := n_range z21
              refine Ev.step (j := 37) (s' := ([some (.ref 69), some (.int x1), some (.int zz)], [.ref 69, .int z21, .ref 84], (0, 0), (ab_up hp2 84 (.inl (1, 868, .inl (cpf f84 f71 o0 nn)))))) rfl rfl ?_
              refine Ev.getf rfl n69 m69 (hfl 6 132 71 rfl rfl) ?_
              refine (show Ev _ 40 ([some (.ref 69), some (.int x1), some (.int zz)], [.ref 71, .int z21, .ref 84], (0, 0), (ab_up hp2 84 (.inl (1, 868, .inl (cpf f84 f71 o0 nn))))) _ from ?_)
              refine Ev.step (j := 41) (s' := ([some (.ref 69), some (.int x1), some (.int zz)], [.int zz, .ref 71, .int z21, .ref 84], (0, 0), (ab_up hp2 84 (.inl (1, 868, .inl (cpf f84 f71 o0 nn)))))) rfl rfl ?_
              refine Ev.ald rfl n71 m71 (n_in (by omega) (by omega)) ?_
              refine (show Ev _ 42 ([some (.ref 69), some (.int x1), some (.int zz)], [.int (f71 zz.toNatClampNeg), .int z21, .ref 84], (0, 0), (ab_up hp2 84 (.inl (1, 868, .inl (cpf f84 f71 o0 nn))))) _ from ?_)
              refine Ev.ast rfl n84 (ab_up_eq _ _ _) (n_in (by omega) (by omega)) ?_
              refine Ev.hp (cpf_up (n_at (by omega)) (congrArg f71 (n_at (by omega)))) ?_
              refine bs_iinc (1) rfl rfl rfl rfl (by omega) (by omega) fun z22 hz22 => ?_
              refine (show Ev _ 46 ([some (.ref 69), some (.int x1), some (.int z22)], [], (0, 0), (ab_up hp2 84 (.inl (1, 868, .inl (cpf f84 f71 o0 (nn + 1)))))) _ from ?_)
              refine Ev.step (j := 18) (s' := ([some (.ref 69), some (.int x1), some (.int z22)], [], (0, 0), (ab_up hp2 84 (.inl (1, 868, .inl (cpf f84 f71 o0 (nn + 1))))))) rfl rfl ?_
              exact ih z22 (by omega)
          · intro zz hzz
            refine (show Ev _ 18 ([some (.ref 69), some (.int x1), some (.int zz)], [], (0, 0), (ab_up hp2 84 (.inl (1, 868, .inl (cpf f84 f71 o0 434))))) _ from ?_)
            have m69 : (ab_up hp2 84 (.inl (1, 868, .inl (cpf f84 f71 o0 434)))).2 69 = .inr (11, fl) := (ab_up_ne (by decide)).trans e69
            refine Ev.step (j := 19) (s' := ([some (.ref 69), some (.int x1), some (.int zz)], [.int zz], (0, 0), (ab_up hp2 84 (.inl (1, 868, .inl (cpf f84 f71 o0 434)))))) rfl rfl ?_
            refine bs_lit (k := 434) rfl rfl fun z23 hz23 => ?_
            refine bs_ge rfl (fun c24 => ?_) (fun c24 => ?_)
            · skip
              have EK : ∀ q, q < 868 → sf_v t hp2.1 (sf_e (sf_A 145).2.2 q) (.int ((cpf f84 f71 o0 434) q)) := by
                intro q hq
                by_cases c : o0 ≤ q ∧ q < o0 + 434
                · rw [cpf_in c.1 c.2]
                  have h := KA71 (q - o0) (by omega)
                  rw [sg_145 q hq, show q % 434 = q - o0 by omega]
                  exact h
                · rw [cpf_out (by omega)]
                  exact KA84 q hq
              have I3 := Hhp2.2.2.2.2.2
              have E3 : sf_I3 (ab_up hp2 84 (.inl (1, 868, .inl (cpf f84 f71 o0 434)))) := by
                refine ⟨by rw [cd_ne (by decide)]; exact I3.1, ?_, ?_⟩
                · rcases ho with h | h
                  · exact cd_ok_same (fun j hj => by rw [cd_up (by omega), cd_at e71 (by omega), cpf_in (by omega) (by omega), show 253 + j - o0 = 253 + j by omega]) I3.1
                  · exact cd_ok_same (fun j hj => by rw [cd_up (by omega), cd_at e84 (by omega), cpf_out (by omega)]) I3.2.1
                · rcases ho with h | h
                  · exact cd_ok_same (fun j hj => by rw [cd_up (by omega), cd_at e84 (by omega), cpf_out (by omega)]) I3.2.2
                  · exact cd_ok_same (fun j hj => by rw [cd_up (by omega), cd_at e71 (by omega), cpf_in (by omega) (by omega), show 687 + j - o0 = 253 + j by omega]) I3.1
              obtain ⟨Hhp25, fhp25⟩ := cp_end (a := 84) (len := 868) (f' := (cpf f84 f71 o0 434)) (i0 := 0) (i1 := 867) Hhp2 (bs_R.uq Hhp2 (g := 145) rfl) (by decide) rfl rfl e84 EK (by decide) (fun q hq => cpf_out (by omega)) E3
              clear EK E3 I3
              obtain ⟨hp25, qhp25⟩ : ∃ x, x = (ab_up hp2 84 (.inl (1, 868, .inl (cpf f84 f71 o0 434)))) := ⟨_, rfl⟩
              rw [← qhp25] at Hhp25 fhp25
              rw [← qhp25]
              have Fhp25 := sf_fr_tr Fhp2 (sf_fr_wider (W := [(11, 0, 0), (145, 0, 867), (146, 0, 0), (147, 0, 1)]) rfl fhp25)
              have h26 : sf_rd hp25 69 0 = some z1.toInt := (fhp25.2.2.1 _ (bs_R.uq Hhp2 (g := 11) (p := 69) rfl).1 _ (by rw [(bs_R.uq Hhp2 (g := 11) (p := 69) rfl).2]; rfl)).trans rhp2
              refine bs_lit (k := 0) rfl rfl fun z27 hz27 => ?_
              refine Ev.step (j := 51) (s' := ([some (.ref 69), some (.int x1), some (.int z27)], [], (0, 0), hp25)) rfl rfl ?_
              have I86 : ∀ q : Nat, sf_rd hp25 86 q = sf_rd hp 86 q := fun q => ((fhp25.2.2.1 _ (bs_R.uq Hhp2 (g := 147) (p := 86) rfl).1 _ (by rw [(bs_R.uq Hhp2 (g := 147) (p := 86) rfl).2]; rfl)).trans (ehp2 _ _ (Or.inl (by decide))))
              refine bs_loop (ι := Int32 × ab_H × (Nat → Nat)) (fun ⟨k28, hp29, t30⟩ => ([some (.ref 69), some (.int x1), some (.int k28)], [], (0, 0), hp29)) (fun ⟨k28, hp29, t30⟩ => (sf_h t30 hp29) ∧ (sf_fr [(11, 0, 0), (145, 0, 867), (146, 0, 0), (147, 0, 1)] t hp t30 hp29) ∧ (0 ≤ k28.toInt ∧ k28.toInt ≤ 14) ∧ (∀ q : Nat, sf_rd hp29 86 q = sf_rd hp 86 q)) (fun ⟨k28, hp29, t30⟩ => (14 - k28.toInt).toNat) ?_ (z27, hp25, t) ⟨Hhp25, Fhp25, (by first | omega | assumption), (by exact I86)⟩
              rintro ⟨k28, hp29, t30⟩ ⟨Hhp29, Fhp29, i32, i33⟩ ih31
              refine (show Ev _ 51 ([some (.ref 69), some (.int x1), some (.int k28)], [], (0, 0), hp29) _ from ?_)
              refine Ev.step (j := 52) (s' := ([some (.ref 69), some (.int x1), some (.int k28)], [.int k28], (0, 0), hp29)) rfl rfl ?_
              refine bs_lit (k := 14) rfl rfl fun z34 hz34 => ?_
              refine bs_ge rfl (fun c35 => ?_) (fun c35 => ?_)
              · skip
                refine Ev.step (j := 81) (s' := ([some (.ref 69), some (.int x1), some (.int k28)], [.ref 69], (0, 0), hp29)) rfl rfl ?_
                refine bs_getU (g := 11) (g1 := 147) rfl rfl Hhp29 (bs_R.uq Hhp29 (g := 11) rfl) (by decide) rfl rfl ?_
                refine Ev.step (j := 85) (s' := ([some (.ref 69), some (.int x1), some (.int k28)], [.int x1, .ref 86], (0, 0), hp29)) rfl rfl ?_
                refine bs_lit (k := 1) rfl rfl fun z36 hz36 => ?_
                refine bs_stT (W := [(147, 0, 1)]) (g := 147) 0 1 rfl Hhp29 (bs_R.uq Hhp29 (g := 147) rfl) (by decide) rfl (by decide) (by decide) rfl (by decide) rfl rfl (by omega) (by omega) fun hp37 Hhp37 fhp37 rhp37 ehp37 qhp37 nhp37 => ?_
                rw [nar3 (by omega) (by omega)] at rhp37
                have Fhp37 := sf_fr_tr Fhp29 (sf_fr_wider (W := [(11, 0, 0), (145, 0, 867), (146, 0, 0), (147, 0, 1)]) rfl fhp37)
                refine bs_lit (k := 1) rfl rfl fun z38 hz38 => ?_
                exact bs_zret rfl rfl (by omega) (by omega) (by rw [hQ]; exact ⟨t30, Hhp37, Fhp37, bs_an0, sf_S_cons (sf_s1 (x := z38.toInt) rfl (by omega) (by omega)) (sf_S_nil), (fun x hx => by have hx2 : some (Value.int x1) = some (Value.int x) := hx; obtain rfl := Value.int.inj (Option.some.inj hx2); exact ⟨⟨z38, rfl, by unfold im_z; split <;> omega⟩, fun _ => ⟨_, rhp37, by omega⟩, fun q hq => (ehp37 _ _ (Or.inr (by omega))).trans (i33 q)⟩)⟩)
              · skip
                refine Ev.step (j := 58) (s' := ([some (.ref 69), some (.int x1), some (.int k28)], [.ref 69], (0, 0), hp29)) rfl rfl ?_
                refine bs_getU (g := 11) (g1 := 146) rfl rfl Hhp29 (bs_R.uq Hhp29 (g := 11) rfl) (by decide) rfl rfl ?_
                refine bs_lit (k := 14) rfl rfl fun z39 hz39 => ?_
                refine Ev.step (j := 64) (s' := ([some (.ref 69), some (.int x1), some (.int k28)], [.int x1, .int z39, .ref 85], (0, 0), hp29)) rfl rfl ?_
                refine bs_mul (14) rfl (Or.inl hz39) (by rw [hz39]; omega) (by rw [hz39]; omega) fun z40 hz40 => ?_
                rw [hz39] at hz40
                refine Ev.step (j := 66) (s' := ([some (.ref 69), some (.int x1), some (.int k28)], [.int k28, .int z40, .ref 85], (0, 0), hp29)) rfl rfl ?_
                first | (refine bs_add rfl (by omega) (by omega) fun z41 hz41 => ?_) | (refine bs_any rfl fun z41 => ?_)
                have rz41 := n_range z41
                refine Ev.step (j := 68) (s' := ([some (.ref 69), some (.int x1), some (.int k28)], [.ref 69, .int z41, .ref 85], (0, 0), hp29)) rfl rfl ?_
                refine bs_getU (g := 11) (g1 := 135) rfl rfl Hhp29 (bs_R.uq Hhp29 (g := 11) rfl) (by decide) rfl rfl ?_
                refine Ev.step (j := 72) (s' := ([some (.ref 69), some (.int x1), some (.int k28)], [.int k28, .ref 74, .int z41, .ref 85], (0, 0), hp29)) rfl rfl ?_
                refine bs_lald (g := 135) rfl Hhp29 (bs_R.uq Hhp29 (g := 135) rfl) (by decide) rfl (by omega) (by show _ < ((28 : Nat) : Int); omega) fun w42 => ?_
                refine bs_last (W := [(146, 0, 0)]) (g := 146) rfl Hhp29 (bs_R.uq Hhp29 (g := 146) rfl) (by decide) rfl rfl (by omega) (by show _ < ((28 : Nat) : Int); omega) fun hp43 Hhp43 fhp43 ehp43 qhp43 nhp43 => ?_
                have Fhp43 := sf_fr_tr Fhp29 (sf_fr_wider (W := [(11, 0, 0), (145, 0, 867), (146, 0, 0), (147, 0, 1)]) rfl fhp43)
                refine bs_iinc (1) rfl rfl rfl rfl (by omega) (by omega) fun z44 hz44 => ?_
                refine (show Ev _ 77 ([some (.ref 69), some (.int x1), some (.int z44)], [], (0, 0), hp43) _ from ?_)
                refine Ev.step (j := 51) (s' := ([some (.ref 69), some (.int x1), some (.int z44)], [], (0, 0), hp43)) rfl rfl ?_
                have I86 : ∀ q : Nat, sf_rd hp43 86 q = sf_rd hp 86 q := fun q => ((ehp43 _ _)).trans (i33 q)
                refine ih31 (z44, hp43, t30) ⟨Hhp43, Fhp43, (by first | omega | assumption), (by exact I86)⟩ ?_
                show (14 - z44.toInt).toNat < (14 - k28.toInt).toNat
                omega
            · exfalso; omega
        · exfalso; omega
theorem ct_X11_image_k : sf_ct kq_X11_image_k Z_X11_image := ce_X11_image_k.ct
def kq_X11_restore_r : sf_Q := ([(1, 11, 0), (0, 0, 0)], [], some (0, 0, 0), [(1, 0, 0, 0, 1, 0)], [(11, 0, 0), (11, 25, 25), (132, 0, 433), (135, 0, 0)])
def ke_X11_restore_r : List Value → ab_H → Option Value → ab_H → Prop := fun as hp r _ => ∀ x : Int32, as[1]? = some (Value.int x) → ∃ z : Int32, r = some (.int z) ∧ z.toInt = rk_z x.toInt (sf_rd hp 86 x.toInt.toNat)
set_option maxRecDepth 100000 in
set_option maxHeartbeats 4000000 in
theorem ce_X11_restore_r : sf_cE kq_X11_restore_r Z_X11_restore ke_X11_restore_r := by
  intro t hp as H hl hj hpre
  match as, hl with
  | [v0, v1], _ =>
    obtain ⟨a0, rfl, ra0⟩ := bs_aR (hj 0 _ rfl)
    obtain rfl := ra0.eq H (p := 69) rfl
    obtain ⟨x1, rfl⟩ := bs_aI (hj 1 _ rfl)
    have rg1 := n_range x1
    clear hpre hj
    have F0 : sf_fr [(11, 0, 0), (11, 25, 25), (132, 0, 433), (135, 0, 0)] t hp t hp := sf_fr_rf
    refine bs_finx (E := ke_X11_restore_r) (K := kq_X11_restore_r) (L := (L_X11_restore Z_X11_isIn)) (nL := 3) (Nat.le_of_ble_eq_true rfl) ?_
    obtain ⟨Q, hQ⟩ : ∃ Q : ab_O → Prop, Q = (fun o => ∃ t', sf_h t' o.2 ∧ sf_fr (kq_X11_restore_r).2.2.2.2 t hp t' o.2 ∧ sf_an t' o.2.1 (kq_X11_restore_r).2.2.1 o.1 ∧ sf_S (sf_v1 o.1 [.ref 69, .int x1] o.2) (kq_X11_restore_r).2.2.2.1 ∧ ke_X11_restore_r [.ref 69, .int x1] hp o.1 o.2) := ⟨_, rfl⟩
    rw [← hQ]
    refine (show Ev (ab_T (L_X11_restore Z_X11_isIn)) 0 ([some (.ref 69), some (.int x1), none], [], (0, 0), hp) Q from ?_)
    refine Ev.step (j := 1) (s' := ([some (.ref 69), some (.int x1), none], [.ref 69], (0, 0), hp)) rfl rfl ?_
    refine bs_lit (k := 0) rfl rfl fun z1 hz1 => ?_
    refine bs_putI (W := [(11, 0, 0)]) (g := 11) rfl rfl H (bs_R.uq H (g := 11) rfl) (by decide) rfl rfl rfl rfl (Or.inl rfl) (by omega) (by omega) fun hp2 Hhp2 fhp2 rhp2 ehp2 qhp2 nhp2 => ?_
    have Fhp2 := sf_fr_tr F0 (sf_fr_wider (W := [(11, 0, 0), (11, 25, 25), (132, 0, 433), (135, 0, 0)]) rfl fhp2)
    refine Ev.step (j := 6) (s' := ([some (.ref 69), some (.int x1), none], [.int x1], (0, 0), hp2)) rfl rfl ?_
    refine bs_lit (k := 0) rfl rfl fun z3 hz3 => ?_
    refine bs_lit (k := 1) rfl rfl fun z4 hz4 => ?_
    refine Ev.inlS (L := L_X11_isIn) (nL := 3) rfl rfl (Nat.le_of_ble_eq_true rfl) ?_
    generalize hQ5 : (fun (o : ab_O) => Ev _ _ _ _) = Q5
    refine (show Ev (ab_T L_X11_isIn) 0 ([some (.int x1), some (.int z3), some (.int z4)], [], (0, 0), hp2) Q5 from ?_)
    refine Ev.step (j := 1) (s' := ([some (.int x1), some (.int z3), some (.int z4)], [.int x1], (0, 0), hp2)) rfl rfl ?_
    refine Ev.step (j := 2) (s' := ([some (.int x1), some (.int z3), some (.int z4)], [.int z3, .int x1], (0, 0), hp2)) rfl rfl ?_
    refine bs_lt rfl (fun c6 => ?_) (fun c6 => ?_)
    · skip
      refine bs_lit (k := 0) rfl rfl fun z7 hz7 => ?_
      refine bs_zret rfl rfl (by omega) (by omega) ?_
      rw [← hQ5]
      refine (show Ev _ 11 ([some (.ref 69), some (.int x1), none], [.int z7], (0, 0), hp2) _ from ?_)
      refine bs_ifeq rfl (fun c8 => ?_) (fun c8 => ?_)
      · skip
        refine bs_lit (k := 0) rfl rfl fun z9 hz9 => ?_
        exact bs_zret rfl rfl (by omega) (by omega) (by rw [hQ]; exact ⟨t, Hhp2, Fhp2, bs_an0, sf_S_cons (sf_s1 (x := z9.toInt) rfl (by omega) (by omega)) (sf_S_nil), (fun x hx => by have hx2 : some (Value.int x1) = some (Value.int x) := hx; obtain rfl := Value.int.inj (Option.some.inj hx2); exact ⟨z9, rfl, by unfold rk_z; rw [if_neg (fun q => absurd q.1 (by have := q.2.1; omega))]; omega⟩)⟩)
      · exfalso; omega
    · skip
      refine Ev.step (j := 6) (s' := ([some (.int x1), some (.int z3), some (.int z4)], [.int x1], (0, 0), hp2)) rfl rfl ?_
      refine Ev.step (j := 7) (s' := ([some (.int x1), some (.int z3), some (.int z4)], [.int z4, .int x1], (0, 0), hp2)) rfl rfl ?_
      refine bs_gt rfl (fun c10 => ?_) (fun c10 => ?_)
      · skip
        refine bs_lit (k := 0) rfl rfl fun z11 hz11 => ?_
        refine bs_zret rfl rfl (by omega) (by omega) ?_
        rw [← hQ5]
        refine (show Ev _ 11 ([some (.ref 69), some (.int x1), none], [.int z11], (0, 0), hp2) _ from ?_)
        refine bs_ifeq rfl (fun c12 => ?_) (fun c12 => ?_)
        · skip
          refine bs_lit (k := 0) rfl rfl fun z13 hz13 => ?_
          exact bs_zret rfl rfl (by omega) (by omega) (by rw [hQ]; exact ⟨t, Hhp2, Fhp2, bs_an0, sf_S_cons (sf_s1 (x := z13.toInt) rfl (by omega) (by omega)) (sf_S_nil), (fun x hx => by have hx2 : some (Value.int x1) = some (Value.int x) := hx; obtain rfl := Value.int.inj (Option.some.inj hx2); exact ⟨z13, rfl, by unfold rk_z; rw [if_neg (fun q => absurd q.1 (by have := q.2.1; omega))]; omega⟩)⟩)
        · exfalso; omega
      · skip
        refine bs_lit (k := 1) rfl rfl fun z14 hz14 => ?_
        refine Ev.step (j := 15) (s' := ([some (.int x1), some (.int z3), some (.int z4)], [.int z14], (0, 0), hp2)) rfl rfl ?_
        refine bs_zret rfl rfl (by omega) (by omega) ?_
        rw [← hQ5]
        refine (show Ev _ 11 ([some (.ref 69), some (.int x1), none], [.int z14], (0, 0), hp2) _ from ?_)
        refine bs_ifeq rfl (fun c15 => ?_) (fun c15 => ?_)
        · exfalso; omega
        · skip
          refine Ev.step (j := 15) (s' := ([some (.ref 69), some (.int x1), none], [.ref 69], (0, 0), hp2)) rfl rfl ?_
          refine bs_getU (g := 11) (g1 := 147) rfl rfl Hhp2 (bs_R.uq Hhp2 (g := 11) rfl) (by decide) rfl rfl ?_
          refine Ev.step (j := 19) (s' := ([some (.ref 69), some (.int x1), none], [.int x1, .ref 86], (0, 0), hp2)) rfl rfl ?_
          refine bs_ld (g := 147) 0 1 (-2147483648, 2147483647) rfl Hhp2 (bs_R.uq Hhp2 (g := 147) rfl) (by decide) rfl (by decide) (by decide) rfl (by decide) (by omega) (by omega) fun z16 hz16 lz16 gz16 => ?_
          dsimp only at lz16 gz16
          have K86 : sf_rd hp 86 x1.toInt.toNat = some z16.toInt := ((ehp2 _ _ (Or.inl (by decide)))).symm.trans hz16
          refine bs_ifne rfl (fun c17 => ?_) (fun c17 => ?_)
          · skip
            refine bs_lit (k := 0) rfl rfl fun z18 hz18 => ?_
            refine Ev.step (j := 27) (s' := ([some (.ref 69), some (.int x1), some (.int z18)], [], (0, 0), hp2)) rfl rfl ?_
            obtain ⟨n69, fl, e69, hfl⟩ := fl_get Hhp2
            obtain ⟨n71, f71, e71, KA71⟩ := ar_get Hhp2 132 71 434 rfl (by decide) rfl rfl
            obtain ⟨n84, f84, e84, KA84⟩ := ar_get Hhp2 145 84 868 rfl (by decide) rfl rfl
            obtain ⟨o0, ho0, ho⟩ : ∃ o : Nat, (o : Int) = 434 * x1.toInt ∧ (o = 0 ∨ o = 434) := ⟨(434 * x1.toInt).toNat, by omega, by omega⟩
            refine Ev.hp (show hp2 = ab_up hp2 71 (.inl (1, 434, .inl (cpf f71 (fun i => f84 (o0 + i)) 0 0))) by rw [cpf_0]; exact ab_up_same e71) ?_
            refine cp_loop (N := 434) (fun zz nn => ([some (.ref 69), some (.int x1), some (.int zz)], [], (0, 0), (ab_up hp2 71 (.inl (1, 434, .inl (cpf f71 (fun i => f84 (o0 + i)) 0 nn)))))) ?_ ?_ z18 (by omega)
            · intro nn zz hnn hzz ih
              refine (show Ev _ 27 ([some (.ref 69), some (.int x1), some (.int zz)], [], (0, 0), (ab_up hp2 71 (.inl (1, 434, .inl (cpf f71 (fun i => f84 (o0 + i)) 0 nn))))) _ from ?_)
              have m69 : (ab_up hp2 71 (.inl (1, 434, .inl (cpf f71 (fun i => f84 (o0 + i)) 0 nn)))).2 69 = .inr (11, fl) := (ab_up_ne (by decide)).trans e69
              have m84 : (ab_up hp2 71 (.inl (1, 434, .inl (cpf f71 (fun i => f84 (o0 + i)) 0 nn)))).2 84 = .inl (1, 868, .inl f84) := (ab_up_ne (by decide)).trans e84
              refine Ev.step (j := 28) (s' := ([some (.ref 69), some (.int x1), some (.int zz)], [.int zz], (0, 0), (ab_up hp2 71 (.inl (1, 434, .inl (cpf f71 (fun i => f84 (o0 + i)) 0 nn)))))) rfl rfl ?_
              refine bs_lit (k := 434) rfl rfl fun z19 hz19 => ?_
              refine bs_ge rfl (fun c20 => ?_) (fun c20 => ?_)
              · exfalso; omega
              · skip
                refine Ev.step (j := 35) (s' := ([some (.ref 69), some (.int x1), some (.int zz)], [.ref 69], (0, 0), (ab_up hp2 71 (.inl (1, 434, .inl (cpf f71 (fun i => f84 (o0 + i)) 0 nn)))))) rfl rfl ?_
                refine Ev.getf rfl n69 m69 (hfl 6 132 71 rfl rfl) ?_
                refine (show Ev _ 38 ([some (.ref 69), some (.int x1), some (.int zz)], [.ref 71], (0, 0), (ab_up hp2 71 (.inl (1, 434, .inl (cpf f71 (fun i => f84 (o0 + i)) 0 nn))))) _ from ?_)
                refine Ev.step (j := 39) (s' := ([some (.ref 69), some (.int x1), some (.int zz)], [.int zz, .ref 71], (0, 0), (ab_up hp2 71 (.inl (1, 434, .inl (cpf f71 (fun i => f84 (o0 + i)) 0 nn)))))) rfl rfl ?_
                refine Ev.step (j := 40) (s' := ([some (.ref 69), some (.int x1), some (.int zz)], [.ref 69, .int zz, .ref 71], (0, 0), (ab_up hp2 71 (.inl (1, 434, .inl (cpf f71 (fun i => f84 (o0 + i)) 0 nn)))))) rfl rfl ?_
                refine Ev.getf rfl n69 m69 (hfl 40 145 84 rfl rfl) ?_
                refine (show Ev _ 43 ([some (.ref 69), some (.int x1), some (.int zz)], [.ref 84, .int zz, .ref 71], (0, 0), (ab_up hp2 71 (.inl (1, 434, .inl (cpf f71 (fun i => f84 (o0 + i)) 0 nn))))) _ from ?_)
                refine bs_lit (k := 434) rfl rfl fun z21 hz21 => ?_
                refine Ev.step (j := 47) (s' := ([some (.ref 69), some (.int x1), some (.int zz)], [.int x1, .int z21, .ref 84, .int zz, .ref 71], (0, 0), (ab_up hp2 71 (.inl (1, 434, .inl (cpf f71 (fun i => f84 (o0 + i)) 0 nn)))))) rfl rfl ?_
                refine bs_mul (434) rfl (Or.inl hz21) (by rw [hz21]; omega) (by rw [hz21]; omega) fun z22 hz22 => ?_
                rw [hz21] at hz22
                refine Ev.step (j := 49) (s' := ([some (.ref 69), some (.int x1), some (.int zz)], [.int zz, .int z22, .ref 84, .int zz, .ref 71], (0, 0), (ab_up hp2 71 (.inl (1, 434, .inl (cpf f71 (fun i => f84 (o0 + i)) 0 nn)))))) rfl rfl ?_
                first | (refine bs_add rfl (by omega) (by omega) fun z23 hz23 => ?_) | (refine bs_any rfl fun z23 => ?_)
                have rz23 := n_range z23
                refine Ev.ald rfl n84 m84 (n_in (by omega) (by omega)) ?_
                refine (show Ev _ 51 ([some (.ref 69), some (.int x1), some (.int zz)], [.int (f84 z23.toNatClampNeg), .int zz, .ref 71], (0, 0), (ab_up hp2 71 (.inl (1, 434, .inl (cpf f71 (fun i => f84 (o0 + i)) 0 nn))))) _ from ?_)
                refine Ev.ast rfl n71 (ab_up_eq _ _ _) (n_in (by omega) (by omega)) ?_
                refine Ev.hp (cpf_up (n_at (by omega)) (congrArg f84 (n_at (by omega)))) ?_
                refine bs_iinc (1) rfl rfl rfl rfl (by omega) (by omega) fun z24 hz24 => ?_
                refine (show Ev _ 55 ([some (.ref 69), some (.int x1), some (.int z24)], [], (0, 0), (ab_up hp2 71 (.inl (1, 434, .inl (cpf f71 (fun i => f84 (o0 + i)) 0 (nn + 1)))))) _ from ?_)
                refine Ev.step (j := 27) (s' := ([some (.ref 69), some (.int x1), some (.int z24)], [], (0, 0), (ab_up hp2 71 (.inl (1, 434, .inl (cpf f71 (fun i => f84 (o0 + i)) 0 (nn + 1))))))) rfl rfl ?_
                exact ih z24 (by omega)
            · intro zz hzz
              refine (show Ev _ 27 ([some (.ref 69), some (.int x1), some (.int zz)], [], (0, 0), (ab_up hp2 71 (.inl (1, 434, .inl (cpf f71 (fun i => f84 (o0 + i)) 0 434))))) _ from ?_)
              have m69 : (ab_up hp2 71 (.inl (1, 434, .inl (cpf f71 (fun i => f84 (o0 + i)) 0 434)))).2 69 = .inr (11, fl) := (ab_up_ne (by decide)).trans e69
              refine Ev.step (j := 28) (s' := ([some (.ref 69), some (.int x1), some (.int zz)], [.int zz], (0, 0), (ab_up hp2 71 (.inl (1, 434, .inl (cpf f71 (fun i => f84 (o0 + i)) 0 434)))))) rfl rfl ?_
              refine bs_lit (k := 434) rfl rfl fun z25 hz25 => ?_
              refine bs_ge rfl (fun c26 => ?_) (fun c26 => ?_)
              · skip
                have EK : ∀ q, q < 434 → sf_v t hp2.1 (sf_e (sf_A 132).2.2 q) (.int ((cpf f71 (fun i => f84 (o0 + i)) 0 434) q)) := by
                  intro q hq
                  by_cases c : 0 ≤ q ∧ q < 0 + 434
                  · rw [cpf_in c.1 c.2]
                    have h := KA84 (o0 + (q - 0)) (by omega)
                    rw [sg_145 _ (by omega), show (o0 + (q - 0)) % 434 = q by omega] at h
                    exact h
                  · rw [cpf_out (by omega)]
                    exact KA71 q hq
                have I3 := Hhp2.2.2.2.2.2
                have E3 : sf_I3 (ab_up hp2 71 (.inl (1, 434, .inl (cpf f71 (fun i => f84 (o0 + i)) 0 434)))) := by
                  refine ⟨?_, by rw [cd_ne (by decide)]; exact I3.2.1, by rw [cd_ne (by decide)]; exact I3.2.2⟩
                  rcases ho with h | h
                  · exact cd_ok_same (fun j hj => by rw [cd_up (by omega), cd_at e84 (by omega), cpf_in (by omega) (by omega), show o0 + (253 + j - 0) = 253 + j by omega]) I3.2.1
                  · exact cd_ok_same (fun j hj => by rw [cd_up (by omega), cd_at e84 (by omega), cpf_in (by omega) (by omega), show o0 + (253 + j - 0) = 687 + j by omega]) I3.2.2
                obtain ⟨Hhp27, fhp27⟩ := cp_end (a := 71) (len := 434) (f' := (cpf f71 (fun i => f84 (o0 + i)) 0 434)) (i0 := 0) (i1 := 433) Hhp2 (bs_R.uq Hhp2 (g := 132) rfl) (by decide) rfl rfl e71 EK (by decide) (fun q hq => cpf_out (by omega)) E3
                clear EK E3 I3
                obtain ⟨hp27, qhp27⟩ : ∃ x, x = (ab_up hp2 71 (.inl (1, 434, .inl (cpf f71 (fun i => f84 (o0 + i)) 0 434)))) := ⟨_, rfl⟩
                rw [← qhp27] at Hhp27 fhp27
                rw [← qhp27]
                have Fhp27 := sf_fr_tr Fhp2 (sf_fr_wider (W := [(11, 0, 0), (11, 25, 25), (132, 0, 433), (135, 0, 0)]) rfl fhp27)
                have h28 : sf_rd hp27 69 0 = some z1.toInt := (fhp27.2.2.1 _ (bs_R.uq Hhp2 (g := 11) (p := 69) rfl).1 _ (by rw [(bs_R.uq Hhp2 (g := 11) (p := 69) rfl).2]; rfl)).trans rhp2
                have h29 : sf_rd hp27 86 x1.toInt.toNat = some z16.toInt := (fhp27.2.2.1 _ (bs_R.uq Hhp2 (g := 147) (p := 86) rfl).1 _ (by rw [(bs_R.uq Hhp2 (g := 147) (p := 86) rfl).2]; rfl)).trans hz16
                refine bs_lit (k := 0) rfl rfl fun z30 hz30 => ?_
                refine Ev.step (j := 60) (s' := ([some (.ref 69), some (.int x1), some (.int z30)], [], (0, 0), hp27)) rfl rfl ?_
                refine bs_loop (ι := Int32 × ab_H × (Nat → Nat)) (fun ⟨k31, hp32, t33⟩ => ([some (.ref 69), some (.int x1), some (.int k31)], [], (0, 0), hp32)) (fun ⟨k31, hp32, t33⟩ => (sf_h t33 hp32) ∧ (sf_fr [(11, 0, 0), (11, 25, 25), (132, 0, 433), (135, 0, 0)] t hp t33 hp32) ∧ (0 ≤ k31.toInt ∧ k31.toInt ≤ 14)) (fun ⟨k31, hp32, t33⟩ => (14 - k31.toInt).toNat) ?_ (z30, hp27, t) ⟨Hhp27, Fhp27, (by first | omega | assumption)⟩
                rintro ⟨k31, hp32, t33⟩ ⟨Hhp32, Fhp32, i35⟩ ih34
                refine (show Ev _ 60 ([some (.ref 69), some (.int x1), some (.int k31)], [], (0, 0), hp32) _ from ?_)
                refine Ev.step (j := 61) (s' := ([some (.ref 69), some (.int x1), some (.int k31)], [.int k31], (0, 0), hp32)) rfl rfl ?_
                refine bs_lit (k := 14) rfl rfl fun z36 hz36 => ?_
                refine bs_ge rfl (fun c37 => ?_) (fun c37 => ?_)
                · skip
                  refine Ev.step (j := 90) (s' := ([some (.ref 69), some (.int x1), some (.int k31)], [.ref 69], (0, 0), hp32)) rfl rfl ?_
                  refine bs_lit (k := 0) rfl rfl fun z38 hz38 => ?_
                  refine bs_putI (W := [(11, 25, 25)]) (g := 11) rfl rfl Hhp32 (bs_R.uq Hhp32 (g := 11) rfl) (by decide) rfl rfl rfl rfl (Or.inl rfl) (by omega) (by omega) fun hp39 Hhp39 fhp39 rhp39 ehp39 qhp39 nhp39 => ?_
                  have Fhp39 := sf_fr_tr Fhp32 (sf_fr_wider (W := [(11, 0, 0), (11, 25, 25), (132, 0, 433), (135, 0, 0)]) rfl fhp39)
                  refine bs_lit (k := 1) rfl rfl fun z40 hz40 => ?_
                  exact bs_zret rfl rfl (by omega) (by omega) (by rw [hQ]; exact ⟨t33, Hhp39, Fhp39, bs_an0, sf_S_cons (sf_s1 (x := z40.toInt) rfl (by omega) (by omega)) (sf_S_nil), (fun x hx => by have hx2 : some (Value.int x1) = some (Value.int x) := hx; obtain rfl := Value.int.inj (Option.some.inj hx2); exact ⟨z40, rfl, by unfold rk_z; rw [if_pos ⟨by omega, by omega, by rw [K86]; exact fun e => absurd (Option.some.inj e) (by omega)⟩]; omega⟩)⟩)
                · skip
                  refine Ev.step (j := 67) (s' := ([some (.ref 69), some (.int x1), some (.int k31)], [.ref 69], (0, 0), hp32)) rfl rfl ?_
                  refine bs_getU (g := 11) (g1 := 135) rfl rfl Hhp32 (bs_R.uq Hhp32 (g := 11) rfl) (by decide) rfl rfl ?_
                  refine Ev.step (j := 71) (s' := ([some (.ref 69), some (.int x1), some (.int k31)], [.int k31, .ref 74], (0, 0), hp32)) rfl rfl ?_
                  refine Ev.step (j := 72) (s' := ([some (.ref 69), some (.int x1), some (.int k31)], [.ref 69, .int k31, .ref 74], (0, 0), hp32)) rfl rfl ?_
                  refine bs_getU (g := 11) (g1 := 146) rfl rfl Hhp32 (bs_R.uq Hhp32 (g := 11) rfl) (by decide) rfl rfl ?_
                  refine bs_lit (k := 14) rfl rfl fun z41 hz41 => ?_
                  refine Ev.step (j := 78) (s' := ([some (.ref 69), some (.int x1), some (.int k31)], [.int x1, .int z41, .ref 85, .int k31, .ref 74], (0, 0), hp32)) rfl rfl ?_
                  refine bs_mul (14) rfl (Or.inl hz41) (by rw [hz41]; omega) (by rw [hz41]; omega) fun z42 hz42 => ?_
                  rw [hz41] at hz42
                  refine Ev.step (j := 80) (s' := ([some (.ref 69), some (.int x1), some (.int k31)], [.int k31, .int z42, .ref 85, .int k31, .ref 74], (0, 0), hp32)) rfl rfl ?_
                  first | (refine bs_add rfl (by omega) (by omega) fun z43 hz43 => ?_) | (refine bs_any rfl fun z43 => ?_)
                  have rz43 := n_range z43
                  refine bs_lald (g := 146) rfl Hhp32 (bs_R.uq Hhp32 (g := 146) rfl) (by decide) rfl (by omega) (by show _ < ((28 : Nat) : Int); omega) fun w44 => ?_
                  refine bs_last (W := [(135, 0, 0)]) (g := 135) rfl Hhp32 (bs_R.uq Hhp32 (g := 135) rfl) (by decide) rfl rfl (by omega) (by show _ < ((28 : Nat) : Int); omega) fun hp45 Hhp45 fhp45 ehp45 qhp45 nhp45 => ?_
                  have Fhp45 := sf_fr_tr Fhp32 (sf_fr_wider (W := [(11, 0, 0), (11, 25, 25), (132, 0, 433), (135, 0, 0)]) rfl fhp45)
                  refine bs_iinc (1) rfl rfl rfl rfl (by omega) (by omega) fun z46 hz46 => ?_
                  refine (show Ev _ 86 ([some (.ref 69), some (.int x1), some (.int z46)], [], (0, 0), hp45) _ from ?_)
                  refine Ev.step (j := 60) (s' := ([some (.ref 69), some (.int x1), some (.int z46)], [], (0, 0), hp45)) rfl rfl ?_
                  refine ih34 (z46, hp45, t33) ⟨Hhp45, Fhp45, (by first | omega | assumption)⟩ ?_
                  show (14 - z46.toInt).toNat < (14 - k31.toInt).toNat
                  omega
              · exfalso; omega
          · skip
            have c47 : z16.toInt = 0 := by omega
            refine bs_lit (k := 0) rfl rfl fun z48 hz48 => ?_
            exact bs_zret rfl rfl (by omega) (by omega) (by rw [hQ]; exact ⟨t, Hhp2, Fhp2, bs_an0, sf_S_cons (sf_s1 (x := z48.toInt) rfl (by omega) (by omega)) (sf_S_nil), (fun x hx => by have hx2 : some (Value.int x1) = some (Value.int x) := hx; obtain rfl := Value.int.inj (Option.some.inj hx2); exact ⟨z48, rfl, by unfold rk_z; rw [if_neg (fun q => q.2.2 (by rw [K86]; exact congrArg some (by omega)))]; omega⟩)⟩)
theorem ct_X11_restore_r : sf_ct kq_X11_restore_r Z_X11_restore := ce_X11_restore_r.ct
