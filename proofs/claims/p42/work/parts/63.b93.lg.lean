/-! ===== the reference: LOG, whole ===== -/
/-- the tape is taken -/
def TKN (F G : FW) : Prop := FX (fun q => q = 69) F G ∧ (∀ k, k ≠ 0 → k ≠ 2 → k ≠ 3 → k ≠ 4 → k ≠ 5 → k ≠ 11 → k ≠ 12 → k ≠ 13 → k ≠ 14 → k ≠ 15 → k ≠ 30 → G.1 69 k = F.1 69 k) ∧ ∀ k, k ≠ 17 → G.2.2.1 69 k = F.2.2.1 69 k
theorem TKN.rf {F : FW} : TKN F F := ⟨FX.rf, fun _ _ _ _ _ _ _ _ _ _ _ _ => rfl, fun _ _ => rfl⟩
theorem TKN.nx {F G K : FW} (h : TKN F G) (x : RNX G K) : TKN F K := ⟨h.1.tr x.1, fun k a0 a2 a3 a4 a5 b1 b2 b3 b4 b5 c0 => (x.2.1 k a4 b1 b2 b3 b4).trans (h.2.1 k a0 a2 a3 a4 a5 b1 b2 b3 b4 b5 c0), fun k c => (x.2.2 k c).trans (h.2.2 k c)⟩
theorem TKN.G {F G : FW} (h : TKN F G) (g : GW F) : GW G := g.fx h.1
theorem TKN.T {F G : FW} {T : St} (h : TKN F G) (t : XT F T) : XT G T := t.of fun k _ => h.1.1 71 k (by decide)
theorem TKN.S {F G : FW} {m : Nat} {S : Sh} (h : TKN F G) (hm : m ≤ 8) (t : XS F m S) : XS G m S := t.of hm fun k _ _ => h.1.1 71 k (by decide)
theorem TKN.H {F G : FW} {m n : Nat} {H : Nat → Sh} (h : TKN F G) (hm : m ≤ 8) (t : HSX F m n H) : HSX G m n H := HSX.same t hm (h.2.1 25 (by decide) (by decide) (by decide) (by decide) (by decide) (by decide) (by decide) (by decide) (by decide) (by decide) (by decide)) fun k => h.1.1 77 k (by decide)
theorem TKN.W {F G : FW} (h : TKN F G) (r : RWF F) : RWF G := fun j hj => (congrArg Int64.toInt (h.1.2.1 75 j (by decide))).trans (r j hj)
theorem TKN.N {F G : FW} {o n : Nat} {nm : Nat → Int} (h : TKN F G) (r : ∀ g, g < n → (F.2.2.1 74 (o + g)).toInt = nm (o + g)) : ∀ g, g < n → (G.2.2.1 74 (o + g)).toInt = nm (o + g) := fun j hj => (congrArg Int64.toInt (h.1.2.1 74 _ (by decide))).trans (r j hj)
theorem TKN.fp {F G : FW} {k : Nat} {v : Int32} (h : TKN F G) (c : k = 0 ∨ k = 2 ∨ k = 3 ∨ k = 4 ∨ k = 5 ∨ k = 15 ∨ k = 30) : TKN F (fp G 69 k v) := ⟨h.1.fp rfl, fun j a0 a2 a3 a4 a5 b1 b2 b3 b4 b5 c0 => (fp_ne (Or.inr (by omega))).trans (h.2.1 j a0 a2 a3 a4 a5 b1 b2 b3 b4 b5 c0), h.2.2⟩
theorem RTK.of0 {F0 F G : FW} {n lim : Nat} (h : RNX F G) (e : ∀ k, F.1 70 k = F0.1 70 k) (h3 : F.1 69 3 = Int32.ofNat n) (h5 : F.1 69 5 = Int32.ofNat lim) (hN : NTF G (tkt (RBF F n) n lim 0)) (hn : n ≤ 940) (hl : lim ≤ 940) : RTK G (RBF F0 n) n lim 0 := by
  have q : RBF F n = RBF F0 n := RBF_same e
  rw [q] at hN
  exact ⟨(h.2.1 3 (by decide) (by decide) (by decide) (by decide) (by decide)).trans h3, (h.2.1 5 (by decide) (by decide) (by decide) (by decide) (by decide)).trans h5, (RBF_same fun k => h.1.1 70 k (by decide)).trans q, hN, hn, hl⟩
theorem i_01 {x : Int32} (c : (decide (0 ≤ x) && decide (x ≤ 1)) = true) : x = 0 ∨ x = 1 := by
  rw [Bool.and_eq_true, decide_eq_true_eq, decide_eq_true_eq, Int32.le_iff_toInt_le, Int32.le_iff_toInt_le] at c
  have h1 : (0 : Int32).toInt = 0 := rfl
  have h2 : (1 : Int32).toInt = 1 := rfl
  rw [h1, h2] at c
  rcases (by omega : x.toInt = 0 ∨ x.toInt = 1) with e | e
  · exact Or.inl (Int32.toInt_inj.mp e)
  · exact Or.inr (Int32.toInt_inj.mp e)
theorem i_01n {x : Int32} (c : (decide (0 ≤ x) && decide (x ≤ 1)) = false) : ¬ (x = 0 ∨ x = 1) := by
  rintro (rfl | rfl) <;> exact absurd c (by decide)
