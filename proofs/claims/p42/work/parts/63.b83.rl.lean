/-! ===== a line of a LOG: the reference ===== -/
/-- the line that is written down as the c-th: deed, then good, shore, number; or the man; or the days -/
def LIR (G : FW) (c d w x : Nat) : Prop := G.1 73 (4 * c) = Int32.ofNat d ∧ (d < 3 → G.1 73 (4 * c + 1) = Int32.ofNat (w / 2) ∧ G.1 73 (4 * c + 2) = Int32.ofNat (w % 2) ∧ G.1 73 (4 * c + 3) = Int32.ofNat x) ∧ (d = 3 → G.1 73 (4 * c + 1) = Int32.ofNat w) ∧ (d = 4 → G.1 73 (4 * c + 1) = Int32.ofNat x)
/-- what it changes -/
def RYX (c : Nat) (F G : FW) : Prop := FX (fun q => q = 69 ∨ q = 73) F G ∧ (∀ k, k ≠ 4 → k ≠ 11 → k ≠ 12 → k ≠ 13 → k ≠ 14 → k ≠ 15 → k ≠ 16 → k ≠ 18 → G.1 69 k = F.1 69 k) ∧ (∀ k, k ≠ 17 → G.2.2.1 69 k = F.2.2.1 69 k) ∧ ∀ k, k < 4 * c → G.1 73 k = F.1 73 k
theorem RYX.of {c : Nat} {F G : FW} (h : RLX F G) : RYX c F G := ⟨h.1.wd fun _ e => Or.inl e, h.2.1, h.2.2, fun k _ => h.1.1 73 k (by decide)⟩
theorem RYX.tr {c : Nat} {F G H : FW} (a : RYX c F G) (b : RYX c G H) : RYX c F H := ⟨a.1.tr b.1, fun k h1 h2 h3 h4 h5 h6 h7 h8 => (b.2.1 k h1 h2 h3 h4 h5 h6 h7 h8).trans (a.2.1 k h1 h2 h3 h4 h5 h6 h7 h8), fun k h => (b.2.2.1 k h).trans (a.2.2.1 k h), fun k h => (b.2.2.2 k h).trans (a.2.2.2 k h)⟩
theorem RYX.st {c : Nat} {F G : FW} {k : Nat} {v : Int32} (h : RYX c F G) (e : 4 * c ≤ k) : RYX c F (fp G 73 k v) := ⟨h.1.fp (Or.inr rfl), fun j h1 h2 h3 h4 h5 h6 h7 h8 => (fp_ne (Or.inl (by decide))).trans (h.2.1 j h1 h2 h3 h4 h5 h6 h7 h8), h.2.2.1, fun j hj => (fp_ne (Or.inr (by omega))).trans (h.2.2.2 j hj)⟩
theorem RYX.G {c : Nat} {F G : FW} (h : RYX c F G) (g : GW F) : GW G := g.fx h.1
theorem NTF.at73 {F : FW} {X : TT} {k : Nat} {v : Int32} (h : NTF F X) : NTF (fp F 73 k v) X := by
  have e : ∀ j, (fp F 73 k v).1 69 j = F.1 69 j := fun j => fp_ne (Or.inl (by decide))
  unfold NTF
  rw [e, e, e, e]
  exact h
theorem RTK.at73 {F : FW} {B : Nat → Int} {n lim i k : Nat} {v : Int32} (h : RTK F B n lim i) : RTK (fp F 73 k v) B n lim i :=
  ⟨(fp_ne (Or.inl (by decide))).trans h.1, (fp_ne (Or.inl (by decide))).trans h.2.1, (RBF_same fun _ => fp_ne (Or.inl (by decide))).trans h.2.2.1, h.2.2.2.1.at73, h.2.2.2.2⟩
/-- what comes of a line there -/
def LRP (F G : FW) (B : Nat → Int) (n lim c : Nat) (r : Option Value) (x : LL) : Prop := r = some (.int (ll_b x)) ∧ RYX c F G ∧ match x with
  | .inl y => RTK G B n lim y.2.2.2 ∧ G.1 69 15 = F.1 69 15 ∧ LIR G c y.1 y.2.1 y.2.2.1
  | .inr z => G.1 69 15 = z.1 ∧ (G.1 69 16).toInt = (tok B n lim z.2).pl
theorem LRP.mk_n {F G : FW} {B : Nat → Int} {n lim c j : Nat} {q : Int32} {x : LL} (e : x = ll_n q j) (h : RYX c F G) (h1 : G.1 69 15 = q) (h2 : (G.1 69 16).toInt = (tok B n lim j).pl) : LRP F G B n lim c (some (.int 0)) x := by
  rw [e]
  exact ⟨rfl, h, h1, h2⟩
theorem LRP.mk_y {F G : FW} {B : Nat → Int} {n lim c d w m j : Nat} {x : LL} (e : x = ll_y d w m j) (h : RYX c F G) (h1 : RTK G B n lim j) (h2 : G.1 69 15 = F.1 69 15) (h3 : LIR G c d w m) : LRP F G B n lim c (some (.int 1)) x := by
  rw [e]
  exact ⟨rfl, h, h1, h2, h3⟩
theorem lkc_y {nm : Nat → Int} {o q : Nat} {X : TT} (hq : q ≤ 8) (h : lkc nm o q X = 0) : X.k = 2 ∧ ∃ w, m_fst (fP nm o X.v) q = some w ∧ w < q := by
  unfold lkc at h
  by_cases c : X.k = 2
  · rw [if_pos c] at h
    refine ⟨c, ?_⟩
    cases e : m_fst (fP nm o X.v) q with
    | none =>
      rw [e] at h
      exact absurd h (by decide)
    | some w => exact ⟨w, rfl, (m_fst_lt e).1⟩
  · rw [if_neg c] at h
    exact absurd h (by decide)
theorem ll_lk {T : Nat → TT} {nm : Nat → Int} {tg tm c i : Nat} (ht : tm ≤ 8) (h1 : ¬ (72 ≤ (T i).k ∧ (T i).k ≤ 74)) (h2 : ¬ (T i).k = 76) (h : ¬ lkc nm 6 tm (T i) = 0) : ll T nm tg tm c i = ll_n (lkc nm 6 tm (T i)) i := by
  unfold ll
  rw [if_neg h1, if_neg h2]
  unfold lkc at h ⊢
  by_cases k : (T i).k = 2
  · rw [if_pos k] at h ⊢
    rw [if_pos k, fP_6] at *
    by_cases e : oN (m_fst (mP nm (T i).v) tm) = -1
    · rw [if_pos e, (oN_1 ht).mp e]
    · rw [if_neg e] at h
      exact absurd rfl h
  · rw [if_neg k, if_neg k]
