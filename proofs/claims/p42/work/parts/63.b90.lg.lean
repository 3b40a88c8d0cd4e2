/-! ===== what a LOG leaves behind: the reference ===== -/
def LGX (F G : FW) : Prop := FX (fun q => q = 69 ∨ q = 71 ∨ q = 77 ∨ q = 78 ∨ q = 81) F G ∧ (∀ k, k < 120 ∨ 253 ≤ k → G.1 71 k = F.1 71 k) ∧ ∀ k, k ≠ 0 → k ≠ 22 → k ≠ 25 → k ≠ 29 → k ≠ 32 → G.1 69 k = F.1 69 k
def LGF (G : FW) (c : Int32) (kk : Nat) (S S2 : Sh) : Prop := G.1 81 0 = c ∧ G.1 81 1 = Int32.ofNat kk ∧ G.1 81 2 = Int32.ofNat (h_d S2) ∧ G.1 81 3 = m_sum (h_u S2) 12 - m_sum (h_u S) 12 ∧ G.1 69 32 = 1
def LGO (F G : FW) (m n : Nat) (S S2 : Sh) (H : Nat → Sh) (l : Int32) (kk : Nat) (c : Int32) : Prop :=
  LGX F G ∧ XS G m (if l = 1 then S2 else S) ∧ HKX (decide (l = 1) && decide (0 < kk)) G m n H S ∧ LGF G c kk S S2
theorem LGF.fx {P : Nat → Prop} {F G : FW} {c : Int32} {kk : Nat} {S S2 : Sh} (f : LGF F c kk S S2) (x : FX P F G) (c1 : ¬ P 81) (e : G.1 69 32 = F.1 69 32) : LGF G c kk S S2 :=
  ⟨(x.1 81 0 c1).trans f.1, (x.1 81 1 c1).trans f.2.1, (x.1 81 2 c1).trans f.2.2.1, (x.1 81 3 c1).trans f.2.2.2.1, e.trans f.2.2.2.2⟩
theorem LGO.z {F0 F F1 G : FW} {m n kk : Nat} {S S2 : Sh} {H : Nat → Sh} {c : Int32} (hm : m ≤ 8) (hS0 : XS F0 m S) (hH : HSX F m n H) (hR : RTL F0 F) (b : RTB F0 G) (x : FX (fun q => q = 71) F1 G) (f : LGF F1 c kk S S2) : LGO F0 G m n S S2 H 0 kk c := by
  refine ⟨⟨b.1.wd fun q h => ?_, fun k _ => b.2.1 k, fun k h1 h2 _ h4 h5 => b.2.2 k h1 h2 h4 h5⟩, ?_, HKX.f (HSX.same hH hm ((b.2.2 25 (by decide) (by decide) (by decide) (by decide)).trans (hR.2.2.2 25 (by decide) (by decide) (by decide) (by decide)).symm) fun k => (b.1.1 77 k (by decide)).trans (hR.1.1 77 k (by decide)).symm) ?_, f.fx x (by decide) (x.1 69 32 (by decide))⟩
  · rcases h with h | h | h | h
    · exact Or.inl h
    · exact Or.inr (Or.inl h)
    · exact Or.inr (Or.inr (Or.inr (Or.inl h)))
    · exact Or.inr (Or.inr (Or.inr (Or.inr h)))
  · rw [if_neg (show ¬ (0 : Int32) = 1 by decide)]
    exact hS0.of hm fun k _ _ => b.2.1 k
  · rw [decide_eq_false (show ¬ (0 : Int32) = 1 by decide)]
    rfl
theorem LGX.of {F0 F : FW} (hR : RTL F0 F) : LGX F0 F := ⟨hR.1.wd fun q h => by
    rcases h with h | h | h | h
    · exact Or.inl h
    · exact Or.inr (Or.inl h)
    · exact Or.inr (Or.inr (Or.inr (Or.inl h)))
    · exact Or.inr (Or.inr (Or.inr (Or.inr h))), hR.2.2.1, fun k h1 h2 _ h4 h5 => hR.2.2.2 k h1 h2 h4 h5⟩
theorem LGO.y {F0 F G : FW} {m n kk : Nat} {S S2 : Sh} {H : Nat → Sh} {c : Int32} (hm : m ≤ 8) (hR : RTL F0 F) (hS : XS F m S2) (hH : HSX F m n H) (f : LGF F c kk S S2) (y1 : kk = 0 → G = F) (y2 : 0 < kk → KPL F G ∧ HSX G m (m_kn n) (m_kH n H S)) : LGO F0 G m n S S2 H 1 kk c := by
  have e1 : decide ((1 : Int32) = 1) = true := decide_eq_true rfl
  rcases Nat.eq_zero_or_pos kk with k0 | k0
  · obtain rfl := y1 k0
    refine ⟨LGX.of hR, ?_, HKX.f hH ?_, f⟩
    · rw [if_pos rfl]
      exact hS
    · rw [decide_eq_false (show ¬ 0 < kk by omega), Bool.and_false]
  · obtain ⟨⟨x1, x2, x3⟩, h⟩ := y2 k0
    have l := LGX.of hR
    refine ⟨⟨l.1.tr (x1.wd fun q h => ?_), fun k hk => (x2 k).trans (l.2.1 k hk), fun k h1 h2 h3 h4 h5 => (x3 k h3).trans (l.2.2 k h1 h2 h3 h4 h5)⟩, ?_, HKX.t h ?_, f.fx x1 (by decide) (x3 32 (by decide))⟩
    · rcases h with h | h
      · exact Or.inr (Or.inr (Or.inl h))
      · exact Or.inl h
    · rw [if_pos rfl]
      exact hS.of hm fun k _ _ => x2 k
    · rw [e1, decide_eq_true k0]
      rfl
theorem HSX.sd {F : FW} {m n a k : Nat} {v : Int32} {H : Nat → Sh} (h : HSX F m n H) (hm : m ≤ 8) (ha : a ≠ 77) (hk : a ≠ 69 ∨ k ≠ 25) : HSX (fp F a k v) m n H :=
  HSX.same h hm (fp_ne (hk.elim (fun e => Or.inl (fun q => e q.symm)) (fun e => Or.inr (fun q => e q.symm)))) fun _ => fp_ne (Or.inl (fun q => ha q.symm))
