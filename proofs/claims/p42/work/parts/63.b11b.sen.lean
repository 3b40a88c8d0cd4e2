/-! ===== a sentence being read: codes, stack ===== -/
def rc (hp : ab_H) : Nat → Int := fun j => (sf_rd hp 73 (j - 1)).getD 0
def bn (hp : ab_H) : Nat → Nat
  | 0 => 0
  | n + 1 => bn hp n + cond (decide ((sf_rd hp 82 n).getD 0 = 21) || decide ((sf_rd hp 82 n).getD 0 = 22)) 1 0
theorem bn_same {hp hp' : ab_H} : ∀ n, (∀ q, q < n → sf_rd hp' 82 q = sf_rd hp 82 q) → bn hp' n = bn hp n
  | 0, _ => rfl
  | n + 1, h => by
    have e := bn_same n fun q hq => h q (by omega)
    have e2 := h n (by omega)
    simp only [bn, e, e2]
theorem bn_1 {hp : ab_H} {n : Nat} {v : Int} (h : sf_rd hp 82 n = some v) (hv : v = 21 ∨ v = 22) : bn hp (n + 1) = bn hp n + 1 := by
  rcases hv with rfl | rfl <;> simp [bn, h]
theorem bn_0 {hp : ab_H} {n : Nat} {v : Int} (h : sf_rd hp 82 n = some v) (h1 : v ≠ 21) (h2 : v ≠ 22) : bn hp (n + 1) = bn hp n := by
  simp [bn, h, h1, h2]
theorem rc_code {hp hp' : ab_H} {n : Nat} {x y : Int} (h1 : sf_rd hp' 73 (3 * n) = some x) (h2 : sf_rd hp' 73 (3 * n + 2) = some y) (h3 : ∀ q, q < 3 * n → sf_rd hp' 73 q = sf_rd hp 73 q) : rc hp' (1 + 3 * n) = x ∧ rc hp' (3 + 3 * n) = y ∧ cd_run (rc hp') n = cd_run (rc hp) n := by
  refine ⟨?_, ?_, cd_run_same n fun j h0 hj => ?_⟩
  · unfold rc
    rw [show 1 + 3 * n - 1 = 3 * n by omega, h1]
    rfl
  · unfold rc
    rw [show 3 + 3 * n - 1 = 3 * n + 2 by omega, h2]
    rfl
  · unfold rc
    rw [h3 (j - 1) (by omega)]
def se (hp : ab_H) (c o p w : Int) : Prop := sf_rd hp 69 34 = some c ∧ sf_rd hp 69 35 = some o ∧ sf_rd hp 69 36 = some p ∧ sf_rd hp 69 38 = some w ∧ 0 ≤ c ∧ 0 ≤ p ∧ o ≤ 20 ∧ 0 ≤ w ∧ w ≤ 1 ∧ c + p + w ≤ 2 * o ∧ cd_run (rc hp) c.toNat = some (w.toNat + bn hp p.toNat)
def seM (hp : ab_H) : Int := 100 * (20 - (sf_rd hp 69 35).getD 0) + 50 * (sf_rd hp 69 38).getD 0 + (sf_rd hp 69 36).getD 0
theorem se.M {hp : ab_H} {c o p w : Int} (h : se hp c o p w) : seM hp = 100 * (20 - o) + 50 * w + p := by
  obtain ⟨-, h2, h3, h4, -⟩ := h
  unfold seM
  rw [h2, h3, h4]
  rfl
theorem se.al {hp : ab_H} {c o p w : Int} (h : se hp c o p w) : 0 ≤ c ∧ 0 ≤ p ∧ o ≤ 20 ∧ 0 ≤ w ∧ w ≤ 1 ∧ c + p + w ≤ 2 * o := ⟨h.2.2.2.2.1, h.2.2.2.2.2.1, h.2.2.2.2.2.2.1, h.2.2.2.2.2.2.2.1, h.2.2.2.2.2.2.2.2.1, h.2.2.2.2.2.2.2.2.2.1⟩
/-- the same sentence on another heap -/
theorem se_mv {hp hp' : ab_H} {c o p w : Int} (h : se hp c o p w) (e : ∀ i, i = 34 ∨ i = 35 ∨ i = 36 ∨ i = 38 → sf_rd hp' 69 i = sf_rd hp 69 i) (e73 : ∀ q, sf_rd hp' 73 q = sf_rd hp 73 q) (e82 : ∀ q, sf_rd hp' 82 q = sf_rd hp 82 q) : se hp' c o p w := by
  obtain ⟨h1, h2, h3, h4, b1, b2, b3, b4, b5, b6, h5⟩ := h
  refine ⟨(e 34 (by omega)).trans h1, (e 35 (by omega)).trans h2, (e 36 (by omega)).trans h3, (e 38 (by omega)).trans h4, b1, b2, b3, b4, b5, b6, ?_⟩
  rw [bn_same _ fun q _ => e82 q, cd_run_same (c := rc hp') (c' := rc hp) _ fun j _ _ => by unfold rc; rw [e73]]
  exact h5
def se_w (W : List (Nat × Nat × Nat)) : Bool := !(sf_inW W 11 34) && !(sf_inW W 11 35) && !(sf_inW W 11 36) && !(sf_inW W 11 38) && W.all (fun w => decide (w.1 ≠ 134) && decide (w.1 ≠ 143))
theorem se_fr {W : List (Nat × Nat × Nat)} {t t' : Nat → Nat} {hp hp' : ab_H} {c o p w : Int} (H : sf_h t hp) (f : sf_fr W t hp t' hp') (hW : se_w W = true) (h : se hp c o p w) : se hp' c o p w := by
  unfold se_w at hW
  simp only [Bool.and_eq_true, Bool.not_eq_true', List.all_eq_true, decide_eq_true_eq] at hW
  obtain ⟨⟨⟨⟨w1, w2⟩, w3⟩, w4⟩, w5⟩ := hW
  obtain ⟨a1, a2⟩ := H.2.2.1 11 69 rfl
  obtain ⟨b1, b2⟩ := H.2.2.1 134 73 rfl
  obtain ⟨d1, d2⟩ := H.2.2.1 143 82 rfl
  have e73 : hp'.2 73 = hp.2 73 := f.2.2.2.1 73 b1 (List.all_eq_true.mpr fun x hx => by rw [b2]; exact decide_eq_true (w5 x hx).1)
  have e82 : hp'.2 82 = hp.2 82 := f.2.2.2.1 82 d1 (List.all_eq_true.mpr fun x hx => by rw [d2]; exact decide_eq_true (w5 x hx).2)
  refine se_mv h (fun i hi => f.2.2.1 69 a1 i ?_) (fun q => ?_) (fun q => ?_)
  · rw [a2]
    rcases hi with rfl | rfl | rfl | rfl
    · exact w1
    · exact w2
    · exact w3
    · exact w4
  · unfold sf_rd
    rw [e73]
  · unfold sf_rd
    rw [e82]
/-- a 'not' from the stack to the codes -/
theorem se_not {hp hp' : ab_H} {c o p c' p' v y : Int} (h : se hp c o p 1) (h0 : 0 < p) (hst : sf_rd hp 82 (p.toNat - 1) = some v) (hv : v = 20) (e34 : sf_rd hp' 69 34 = some c') (hc : c' = c + 1) (e35 : sf_rd hp' 69 35 = some o) (e36 : sf_rd hp' 69 36 = some p') (hq : p' = p - 1) (e38 : sf_rd hp' 69 38 = some 1) {x : Int} (h1 : sf_rd hp' 73 (3 * c.toNat) = some x) (hx : x = 20) (h2 : sf_rd hp' 73 (3 * c.toNat + 2) = some y) (h3 : ∀ q, q < 3 * c.toNat → sf_rd hp' 73 q = sf_rd hp 73 q) (h82 : ∀ q, sf_rd hp' 82 q = sf_rd hp 82 q) : se hp' c' o p' 1 := by
  obtain ⟨g1, g2, g3, g4, b1, b2, b3, b4, b5, b6, g5⟩ := h
  obtain ⟨r1, r2, r3⟩ := rc_code h1 h2 h3
  refine ⟨e34, e35, e36, e38, by omega, by omega, b3, b4, b5, by omega, ?_⟩
  subst hc hq hx hv
  have e1 : bn hp p.toNat = bn hp (p.toNat - 1) := by
    have e2 := bn_0 hst (by decide) (by decide)
    rw [show p.toNat - 1 + 1 = p.toNat by omega] at e2
    exact e2
  rw [bn_same _ fun q _ => h82 q, show (p - 1).toNat = p.toNat - 1 by omega, ← e1, show (c + 1).toNat = c.toNat + 1 by omega]
  rw [g5] at r3
  exact cd_not r3 r1 (by show 1 ≤ 1 + _; omega)
/-- an 'and' or 'or' from the stack to the codes -/
theorem se_bin {hp hp' : ab_H} {c o p c' p' v y : Int} (h : se hp c o p 1) (h0 : 0 < p) (hst : sf_rd hp 82 (p.toNat - 1) = some v) (hv : v = 21 ∨ v = 22) (e34 : sf_rd hp' 69 34 = some c') (hc : c' = c + 1) (e35 : sf_rd hp' 69 35 = some o) (e36 : sf_rd hp' 69 36 = some p') (hq : p' = p - 1) (e38 : sf_rd hp' 69 38 = some 1) {x : Int} (h1 : sf_rd hp' 73 (3 * c.toNat) = some x) (hx : x = v) (h2 : sf_rd hp' 73 (3 * c.toNat + 2) = some y) (h3 : ∀ q, q < 3 * c.toNat → sf_rd hp' 73 q = sf_rd hp 73 q) (h82 : ∀ q, sf_rd hp' 82 q = sf_rd hp 82 q) : se hp' c' o p' 1 := by
  obtain ⟨g1, g2, g3, g4, b1, b2, b3, b4, b5, b6, g5⟩ := h
  obtain ⟨r1, r2, r3⟩ := rc_code h1 h2 h3
  refine ⟨e34, e35, e36, e38, by omega, by omega, b3, b4, b5, by omega, ?_⟩
  subst hc hq hx
  have e1 : bn hp p.toNat = bn hp (p.toNat - 1) + 1 := by
    have e2 := bn_1 hst hv
    rw [show p.toNat - 1 + 1 = p.toNat by omega] at e2
    exact e2
  rw [bn_same _ fun q _ => h82 q, show (p - 1).toNat = p.toNat - 1 by omega, show (c + 1).toNat = c.toNat + 1 by omega]
  rw [g5, e1] at r3
  have r4 := cd_bin r3 (by rw [r1]; exact hv) (by show 2 ≤ 1 + (_ + 1); omega)
  rw [r4]
  rfl
/-- a leaf -/
theorem se_leaf {hp hp' : ab_H} {c o p c' o' x y : Int} (h : se hp c o p 0) (e34 : sf_rd hp' 69 34 = some c') (hc : c' = c + 1) (e35 : sf_rd hp' 69 35 = some o') (ho : o' = o + 1) (ho2 : o' ≤ 20) (e36 : sf_rd hp' 69 36 = some p) {w : Int} (e38 : sf_rd hp' 69 38 = some w) (hw : w = 1) (h1 : sf_rd hp' 73 (3 * c.toNat) = some x) (hx : 0 ≤ x ∧ x ≤ 8 ∧ (5 ≤ x ∨ (0 ≤ y ∧ y ≤ 1))) (h2 : sf_rd hp' 73 (3 * c.toNat + 2) = some y) (h3 : ∀ q, q < 3 * c.toNat → sf_rd hp' 73 q = sf_rd hp 73 q) (h82 : ∀ q, sf_rd hp' 82 q = sf_rd hp 82 q) : se hp' c' (o + 1) p 1 := by
  obtain ⟨g1, g2, g3, g4, b1, b2, b3, b4, b5, b6, g5⟩ := h
  obtain ⟨r1, r2, r3⟩ := rc_code h1 h2 h3
  subst hw ho
  refine ⟨e34, e35, e36, e38, by omega, b2, ho2, by omega, by omega, by omega, ?_⟩
  subst hc
  rw [bn_same _ fun q _ => h82 q, show (c + 1).toNat = c.toNat + 1 by omega]
  rw [g5] at r3
  have r4 := cd_leaf r3 (by rw [r1]; exact hx.1) (by rw [r1]; exact hx.2.1) (by rw [r1, r2]; exact hx.2.2)
  rw [r4]
  congr 1
  show 0 + _ + 1 = 1 + _
  omega
/-- onto the stack: a 'not' or a bracket -/
theorem se_push {hp hp' : ab_H} {c o p o' p' v : Int} (h : se hp c o p 0) (e34 : sf_rd hp' 69 34 = some c) (e35 : sf_rd hp' 69 35 = some o') (ho : o' = o + 1) (ho2 : o' ≤ 20) (e36 : sf_rd hp' 69 36 = some p') (hq : p' = p + 1) (e38 : sf_rd hp' 69 38 = some 0) (hst : sf_rd hp' 82 p.toNat = some v) (hv : v ≠ 21 ∧ v ≠ 22) (h73 : ∀ q, sf_rd hp' 73 q = sf_rd hp 73 q) (h82 : ∀ q, q < p.toNat → sf_rd hp' 82 q = sf_rd hp 82 q) : se hp' c (o + 1) p' 0 := by
  obtain ⟨g1, g2, g3, g4, b1, b2, b3, b4, b5, b6, g5⟩ := h
  subst ho
  refine ⟨e34, e35, e36, e38, b1, by omega, ho2, b4, b5, by omega, ?_⟩
  subst hq
  rw [show (p + 1).toNat = p.toNat + 1 by omega, bn_0 hst hv.1 hv.2, bn_same _ fun q hq => h82 q hq, cd_run_same (c := rc hp') (c' := rc hp) _ fun j _ _ => by unfold rc; rw [h73]]
  exact g5
/-- onto the stack: an 'and' or an 'or' -/
theorem se_pushb {hp hp' : ab_H} {c o p p' v w : Int} (h : se hp c o p 1) (e34 : sf_rd hp' 69 34 = some c) (e35 : sf_rd hp' 69 35 = some o) (e36 : sf_rd hp' 69 36 = some p') (hq : p' = p + 1) (e38 : sf_rd hp' 69 38 = some w) (hw : w = 0) (hst : sf_rd hp' 82 p.toNat = some v) (hv : v = 21 ∨ v = 22) (h73 : ∀ q, sf_rd hp' 73 q = sf_rd hp 73 q) (h82 : ∀ q, q < p.toNat → sf_rd hp' 82 q = sf_rd hp 82 q) : se hp' c o p' 0 := by
  obtain ⟨g1, g2, g3, g4, b1, b2, b3, b4, b5, b6, g5⟩ := h
  subst hw
  refine ⟨e34, e35, e36, e38, b1, by omega, b3, by omega, by omega, by omega, ?_⟩
  subst hq
  rw [show (p + 1).toNat = p.toNat + 1 by omega, bn_1 hst hv, bn_same _ fun q hq => h82 q hq, cd_run_same (c := rc hp') (c' := rc hp) _ fun j _ _ => by unfold rc; rw [h73], g5]
  congr 1
  show 1 + _ = 0 + (_ + 1)
  omega
/-- a bracket from the stack -/
theorem se_pop {hp hp' : ab_H} {c o p p' v : Int} (h : se hp c o p 1) (h0 : 0 < p) (hst : sf_rd hp 82 (p.toNat - 1) = some v) (hv : v ≠ 21 ∧ v ≠ 22) (e34 : sf_rd hp' 69 34 = some c) (e35 : sf_rd hp' 69 35 = some o) (e36 : sf_rd hp' 69 36 = some p') (hq : p' = p - 1) (e38 : sf_rd hp' 69 38 = some 1) (h73 : ∀ q, sf_rd hp' 73 q = sf_rd hp 73 q) (h82 : ∀ q, sf_rd hp' 82 q = sf_rd hp 82 q) : se hp' c o p' 1 := by
  obtain ⟨g1, g2, g3, g4, b1, b2, b3, b4, b5, b6, g5⟩ := h
  refine ⟨e34, e35, e36, e38, b1, by omega, b3, b4, b5, by omega, ?_⟩
  subst hq
  have e1 : bn hp p.toNat = bn hp (p.toNat - 1) := by
    have e2 := bn_0 hst hv.1 hv.2
    rw [show p.toNat - 1 + 1 = p.toNat by omega] at e2
    exact e2
  rw [bn_same _ fun q _ => h82 q, show (p - 1).toNat = p.toNat - 1 by omega, ← e1, cd_run_same (c := rc hp') (c' := rc hp) _ fun j _ _ => by unfold rc; rw [h73]]
  exact g5
/-! ===== contracts that want more ===== -/
def sf_cG (K : sf_Q) (X : List Value → ab_H → Option ab_O) (G : ab_H → Prop) (E : List Value → ab_H → Option Value → ab_H → Prop) : Prop := ∀ (t : Nat → Nat) (hp : ab_H) (as : List Value), sf_h t hp → as.length = K.1.length → (∀ (i : Nat) (j : sf_J), K.1[i]? = some j → sf_j t hp.1 j as[i]?) → sf_S (sf_v0 as hp) K.2.1 → G hp →
  ∃ (r : Option Value) (hp' : ab_H) (t' : Nat → Nat), X as hp = some (r, hp') ∧ sf_h t' hp' ∧ sf_fr K.2.2.2.2 t hp t' hp' ∧ sf_an t' hp'.1 K.2.2.1 r ∧ sf_S (sf_v1 r as hp') K.2.2.2.1 ∧ E as hp r hp'
theorem bs_callp {T : Nat → Option ab_A} {i j : Nat} {lo : List (Option Value)} {st : List Value} {u : Nat × Nat} {hp : ab_H} {Q : ab_O → Prop} {t : Nat → Nat} {K : sf_Q} {X : List Value → ab_H → Option ab_O} {G : ab_H → Prop} {E : List Value → ab_H → Option Value → ab_H → Prop} {nA ci mc ms MC MS : Nat} (as rest : List Value) (hT : T i = some (ab_nx j (ab_callV nA ci X mc ms MC MS))) (hK : sf_cG K X G E) (hG : G hp) (H : sf_h t hp) (hst : st = as.reverse ++ rest) (hn : as.length = nA) (hl : as.length = K.1.length) (hrc : ab_rcv ci as hp = true) (hcat : (decide (ab_cats rest ≤ 8) && decide (u.1 + mc ≤ MC) && decide (u.2 + ms ≤ MS)) = true)
    (hj : ∀ (q : Nat) (k : sf_J), K.1[q]? = some k → sf_j t hp.1 k as[q]?) (hpre : sf_S (sf_v0 as hp) K.2.1) (h : ∀ r hp' t', sf_h t' hp' → sf_fr K.2.2.2.2 t hp t' hp' → sf_an t' hp'.1 K.2.2.1 r → sf_S (sf_v1 r as hp') K.2.2.2.1 → E as hp r hp' → Ev T j (lo, r.toList ++ rest, (u.1 + mc, u.2 + ms), hp') Q) : Ev T i (lo, st, u, hp) Q := by
  subst hst
  obtain ⟨r, hp', t', h1, h2, h3, h4, h5, h6⟩ := hK t hp as H hl hj hpre hG
  have e1 : ((as.reverse ++ rest).take nA).reverse = as := by rw [List.take_left' (by rw [List.length_reverse]; exact hn), List.reverse_reverse]
  have e2 : (as.reverse ++ rest).drop nA = rest := List.drop_left' (by rw [List.length_reverse]; exact hn)
  have hh := h r hp' t' h2 h3 h4 h5 h6
  refine Ev.callV hT (by rw [e1]; exact hrc) ?_ (by rw [e1]; exact h1) (by rw [e2]; exact hh)
  rw [e2, decide_eq_true (show nA ≤ (as.reverse ++ rest).length by rw [List.length_append, List.length_reverse, hn]; exact Nat.le_add_right _ _), Bool.true_and]
  exact hcat
