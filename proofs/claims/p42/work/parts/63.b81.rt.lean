/-! ===== the reference stands at token i ===== -/
def RTK (F : FW) (B : Nat → Int) (n lim i : Nat) : Prop := F.1 69 3 = Int32.ofNat n ∧ F.1 69 5 = Int32.ofNat lim ∧ RBF F n = B ∧ NTF F (tok B n lim i) ∧ n ≤ 940 ∧ lim ≤ 940
theorem tkt_n {B : Nat → Int} {n lim p : Nat} (h : p ≤ n) : (tkt B n lim p).nx ≤ n := tkq_n (tk_e_le h)
theorem tok_n {B : Nat → Int} {n lim : Nat} : ∀ i, (tok B n lim i).nx ≤ n
  | 0 => tkt_n (Nat.zero_le n)
  | i + 1 => tkt_n (tok_n i)
/-- what reading changes: FX 69, its cells of reading, the fault, its place, what was found -/
def RLX (F G : FW) : Prop := FX (fun q => q = 69) F G ∧ (∀ k, k ≠ 4 → k ≠ 11 → k ≠ 12 → k ≠ 13 → k ≠ 14 → k ≠ 15 → k ≠ 16 → k ≠ 18 → G.1 69 k = F.1 69 k) ∧ ∀ k, k ≠ 17 → G.2.2.1 69 k = F.2.2.1 69 k
theorem RLX.rf {F : FW} : RLX F F := ⟨FX.rf, fun _ _ _ _ _ _ _ _ _ => rfl, fun _ _ => rfl⟩
theorem RLX.tr {F G H : FW} (a : RLX F G) (b : RLX G H) : RLX F H := ⟨a.1.tr b.1, fun k h1 h2 h3 h4 h5 h6 h7 h8 => (b.2.1 k h1 h2 h3 h4 h5 h6 h7 h8).trans (a.2.1 k h1 h2 h3 h4 h5 h6 h7 h8), fun k h => (b.2.2 k h).trans (a.2.2 k h)⟩
theorem RLX.of {F G : FW} (h : RNX F G) : RLX F G := ⟨h.1, fun k h1 h2 h3 h4 h5 _ _ _ => h.2.1 k h1 h2 h3 h4 h5, h.2.2⟩
theorem RLX.G {F G : FW} (h : RLX F G) (g : GW F) : GW G := g.fx h.1
theorem RLX.fp {F G : FW} {k : Nat} {v : Int32} (h : RLX F G) (c : k = 15 ∨ k = 16 ∨ k = 18) : RLX F (fp G 69 k v) := ⟨h.1.fp rfl, fun j h1 h2 h3 h4 h5 h6 h7 h8 => (fp_ne (Or.inr (by omega))).trans (h.2.1 j h1 h2 h3 h4 h5 h6 h7 h8), h.2.2⟩
theorem RBF_same {F G : FW} {n : Nat} (h : ∀ k, G.1 70 k = F.1 70 k) : RBF G n = RBF F n := funext fun q => by
  unfold RBF bI
  rw [h]
theorem NTF.at {F : FW} {X : TT} {k : Nat} {v : Int32} (h : NTF F X) (c : k = 15 ∨ k = 16 ∨ k = 18) : NTF (fp F 69 k v) X := by
  have e : ∀ j, j = 4 ∨ j = 11 ∨ j = 12 ∨ j = 14 → (fp F 69 k v).1 69 j = F.1 69 j := fun j hj => fp_ne (Or.inr (by omega))
  unfold NTF
  rw [e 12 (by decide), e 4 (by decide), e 11 (by decide), e 14 (by decide)]
  exact h
theorem RTK.at {F : FW} {B : Nat → Int} {n lim i k : Nat} {v : Int32} (h : RTK F B n lim i) (c : k = 15 ∨ k = 16 ∨ k = 18) : RTK (fp F 69 k v) B n lim i :=
  ⟨(fp_ne (Or.inr (by omega))).trans h.1, (fp_ne (Or.inr (by omega))).trans h.2.1, (RBF_same fun _ => fp_ne (Or.inl (by decide))).trans h.2.2.1, h.2.2.2.1.at c, h.2.2.2.2⟩
theorem Pm.imp {X : List Value → ab_H → Option ab_O} {as : List Value} {F : FW} {Q Q' : Option Value → FW → Prop} (h : Pm X as F Q) (g : ∀ r F', Q r F' → Q' r F') : Pm X as F Q' := fun hp o hw hF e => ⟨(h hp o hw hF e).1, g _ _ (h hp o hw hF e).2⟩
theorem r_next {F : FW} {B : Nat → Int} {n lim i : Nat} (hG : GW F) (h : RTK F B n lim i) : Pm Z_X11_next [.ref 69] F (fun r F' => r = none ∧ RNX F F' ∧ RTK F' B n lim (i + 1)) :=
  Pm.imp (g_next hG h.1 h.2.2.2.1.2.1 h.2.1 h.2.2.2.2.1 (tok_n i) h.2.2.2.2.2) fun r F' x => by
    obtain ⟨rfl, x1, x2⟩ := x
    refine ⟨rfl, x1, (x1.2.1 3 (by decide) (by decide) (by decide) (by decide) (by decide)).trans h.1, (x1.2.1 5 (by decide) (by decide) (by decide) (by decide) (by decide)).trans h.2.1, (RBF_same fun k => x1.1.1 70 k (by decide)).trans h.2.2.1, ?_, h.2.2.2.2⟩
    rw [h.2.2.1] at x2
    exact x2
/-- what came of taking token i: then it stands at j; or c is wrong with it -/
def RSP (F G : FW) (B : Nat → Int) (n lim i j : Nat) (c : Int32) : Prop := RLX F G ∧ (c = 0 → RTK G B n lim j ∧ G.1 69 15 = F.1 69 15) ∧ (¬ c = 0 → G.1 69 15 = c ∧ (G.1 69 16).toInt = (tok B n lim i).pl)
theorem RSP.bad {F G : FW} {B : Nat → Int} {n lim i j : Nat} {c : Int32} (h : RLX F G) (t : RTK G B n lim i) (hc : ¬ c = 0) : RSP F (fp (fp G 69 15 c) 69 16 (G.1 69 12)) B n lim i j c :=
  ⟨(h.fp (Or.inl rfl)).fp (Or.inr (Or.inl rfl)), fun e => absurd e hc, fun _ => ⟨(fp_ne (Or.inr (by decide))).trans fp_eq, (congrArg Int32.toInt fp_eq).trans t.2.2.2.1.1⟩⟩
def lkc (nm : Nat → Int) (o n : Nat) (X : TT) : Int32 := if X.k = 2 then (if oN (m_fst (fP nm o X.v) n) = -1 then 3 else 0) else 1
theorem oN_neg {P : Nat → Bool} {n : Nat} (hn : n ≤ 8) : oN (m_fst P n) < 0 ↔ oN (m_fst P n) = -1 := by
  refine ⟨fun h => ?_, fun h => by rw [h]; decide⟩
  rw [oN_n (by omega) h]
  rfl
theorem ntf_2 {F : FW} {X : TT} (hN : NTF F X) : F.1 69 11 = 2 ↔ X.k = 3 := by
  constructor
  · intro e
    refine rkk_2 ?_
    rw [← hN.2.2.1, e]
    rfl
  · intro e
    refine Int32.toInt_inj.mp ?_
    rw [hN.2.2.1, e]
    rfl
theorem ntf_v {F : FW} {X : TT} (hN : NTF F X) (e : X.k = 3) : (F.1 69 14).toInt = X.v := hN.2.2.2.1 (by rw [e]; rfl)
