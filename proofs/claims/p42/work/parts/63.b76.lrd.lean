/-! ===== the class reads on: tokens that are laid, the one that is read ===== -/
def TKV (X : TT) : Prop := (X.k = 3 → 0 ≤ X.v ∧ X.v ≤ 999) ∧ (X.k = 2 → LW 7 X.v)
def TKF (F : FW) (T : Nat → TT) (m : Nat) : Prop := 1 ≤ m ∧ m ≤ 901 ∧ F.1 3 3 = Int32.ofNat m ∧ (∀ j, j < m → (F.1 4 j).toInt = (T j).k ∧ (F.1 5 j).toInt = (T j).pl ∧ ((T j).k = 3 → (F.2.2.1 6 j).toInt = (T j).v) ∧ ((T j).k = 2 → (F.2.2.1 6 j).toInt = c32 7 (T j).v) ∧ TKV (T j)) ∧ ∀ j, j < m → (T j).k ≠ 0 → (T j).k ≠ 1 → j + 1 < m
theorem TKF.n {F : FW} {T : Nat → TT} {m : Nat} (h : TKF F T m) : F.1 3 3 = Int32.ofNat m := h.2.2.1
theorem TKF.b {F : FW} {T : Nat → TT} {m : Nat} (h : TKF F T m) : m ≤ 901 := h.2.1
theorem TKF.v {F : FW} {T : Nat → TT} {m j : Nat} (h : TKF F T m) (hj : j < m) : TKV (T j) := (h.2.2.2.1 j hj).2.2.2.2
theorem TKF.up {F : FW} {T : Nat → TT} {m j : Nat} (h : TKF F T m) (hj : j < m) (h0 : (T j).k ≠ 0) (h1 : (T j).k ≠ 1) : j + 1 < m := h.2.2.2.2 j hj h0 h1
def CURF (F : FW) (X : TT) : Prop := (F.1 3 5).toInt = X.k ∧ (F.1 3 6).toInt = X.pl ∧ (X.k = 3 → (F.1 3 7).toInt = X.v) ∧ (X.k = 2 → (F.2.2.1 3 8).toInt = c32 7 X.v)
/-- what reading changes: the cells of the one that reads -/
def RCX (F G : FW) : Prop := FX (fun q => q = 3) F G ∧ (∀ k, k ≠ 4 → k ≠ 5 → k ≠ 6 → k ≠ 7 → k ≠ 9 → G.1 3 k = F.1 3 k) ∧ ∀ k, k ≠ 8 → G.2.2.1 3 k = F.2.2.1 3 k
theorem RCX.rf {F : FW} : RCX F F := ⟨FX.rf, fun _ _ _ _ _ _ => rfl, fun _ _ => rfl⟩
theorem RCX.tr {F G K : FW} (a : RCX F G) (b : RCX G K) : RCX F K := ⟨a.1.tr b.1, fun k h1 h2 h3 h4 h5 => (b.2.1 k h1 h2 h3 h4 h5).trans (a.2.1 k h1 h2 h3 h4 h5), fun k h => (b.2.2 k h).trans (a.2.2 k h)⟩
theorem RCX.fl {F G : FW} {v : Int64} (h : RCX F G) : RCX F (fpl G 3 8 v) := ⟨h.1.fpl rfl, h.2.1, fun j c => (fpl_ne (Or.inr c)).trans (h.2.2 j c)⟩
theorem RCX.fp {F G : FW} {k : Nat} {v : Int32} (h : RCX F G) (c : k = 4 ∨ k = 5 ∨ k = 6 ∨ k = 7 ∨ k = 9) : RCX F (fp G 3 k v) := ⟨h.1.fp rfl, fun j h1 h2 h3 h4 h5 => (fp_ne (Or.inr (by omega))).trans (h.2.1 j h1 h2 h3 h4 h5), h.2.2⟩
theorem RCX.G {F G : FW} (h : RCX F G) (g : GW F) : GW G := g.fx h.1
theorem RCX.TK {F G : FW} {T : Nat → TT} {m : Nat} (h : RCX F G) (t : TKF F T m) : TKF G T m := by
  have e4 : ∀ j, G.1 4 j = F.1 4 j := fun j => h.1.1 4 j (by decide)
  have e5 : ∀ j, G.1 5 j = F.1 5 j := fun j => h.1.1 5 j (by decide)
  have e6 : ∀ j, G.2.2.1 6 j = F.2.2.1 6 j := fun j => h.1.2.1 6 j (by decide)
  refine ⟨t.1, t.2.1, (h.2.1 3 (by decide) (by decide) (by decide) (by decide) (by decide)).trans t.2.2.1, fun j hj => ?_, t.2.2.2.2⟩
  rw [e4, e5, e6]
  exact t.2.2.2.1 j hj
def RDC (F G : FW) (X : TT) (i : Nat) (c : Int32) : Prop := RCX F G ∧ G.1 3 4 = Int32.ofNat (i + 1) ∧ CURF G X ∧ G.1 3 9 = (if c = 0 then F.1 3 9 else c)
def tnN (X : TT) (lo hi : Int) : Int32 := if X.k = 3 then (if X.v < lo ∨ hi < X.v then 2 else 0) else 1
def tnW (X : TT) : Int32 := if X.k = 2 then 0 else 1
def tnS (X : TT) (x : Int) : Int32 := if X.k = x then 0 else 1
theorem CURF.p9 {F : FW} {X : TT} {v : Int32} (h : CURF F X) : CURF (fp F 3 9 v) X := ⟨(congrArg Int32.toInt (fp_ne (Or.inr (by decide)))).trans h.1, (congrArg Int32.toInt (fp_ne (Or.inr (by decide)))).trans h.2.1, fun e => (congrArg Int32.toInt (fp_ne (Or.inr (by decide)))).trans (h.2.2.1 e), h.2.2.2⟩
theorem RDC.bad {F G : FW} {X : TT} {i : Nat} {c : Int32} (h : RDC F G X i 0) (hc : c ≠ 0) : RDC F (fp G 3 9 c) X i c := ⟨h.1.fp (Or.inr (Or.inr (Or.inr (Or.inr rfl)))), (fp_ne (Or.inr (by decide))).trans h.2.1, h.2.2.1.p9, fp_eq.trans (if_neg hc).symm⟩
theorem l2i_v {w : Int64} {v : Int} (h : w.toInt = v) (h1 : 0 ≤ v ∧ v ≤ 999) : w.toInt32.toInt = v := (l_l2i (by omega) (by omega)).trans h
theorem nm_eq {x w : Int64} {a v : Int} (h1 : x.toInt = c32 7 a ∧ LW 7 a) (hw : w.toInt = c32 7 v) (hv : LW 7 v) : x = w ↔ a = v := by
  constructor
  · intro e
    rw [e, hw] at h1
    exact (c32_inj hv h1.2 h1.1).symm
  · intro e
    rw [← e] at hw
    exact Int64.toInt_inj.mp (h1.1.trans hw.symm)
/-- is X's kind this number -/
theorem k_eq {a x : Int32} {k : Int} (h : a.toInt = k) : a = x ↔ k = x.toInt := by
  rw [← h]
  exact Int32.toInt_inj.symm
