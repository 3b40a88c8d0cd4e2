theorem fsc_1 {s : PS} {X : TT} (h : ¬ X.k = 2) : fsc s X = 1 := if_neg h
theorem fsc_e {s : PS} {X : TT} {g m : Nat} (hg : s.h 0 = (g : Int)) (hm : s.h 1 = (m : Int)) (bg : g ≤ 6) (bm : m ≤ 8) : (0 ≤ fnd s.nm 0 (s.h 0) X.v ↔ 0 ≤ oN (m_fst (fP (sn s) 14 X.v) g)) ∧ (0 ≤ fnd s.nm 6 (s.h 1) X.v ↔ 0 ≤ oN (m_fst (fP (sn s) 20 X.v) m)) := by
  rw [hg, hm, ← fP_f sn_g (by omega), ← fP_f sn_m (by omega), Int32.le_iff_toInt_le, Int32.le_iff_toInt_le]
  exact ⟨Iff.rfl, Iff.rfl⟩
theorem fsc_0 {s : PS} {X : TT} {g m : Nat} (hg : s.h 0 = (g : Int)) (hm : s.h 1 = (m : Int)) (bg : g ≤ 6) (bm : m ≤ 8) (k2 : X.k = 2) (c1 : ¬ 0 ≤ oN (m_fst (fP (sn s) 14 X.v) g)) (c2 : oN (m_fst (fP (sn s) 20 X.v) m) < 0) : fsc s X = 0 := by
  have e := fsc_e (X := X) hg hm bg bm
  unfold fsc
  rw [if_pos k2, if_neg]
  rintro (h | h)
  · exact c1 (e.1.mp h)
  · exact absurd (e.2.mp h) (Int32.not_le.mpr c2)
theorem fsc_3 {s : PS} {X : TT} {g m : Nat} (hg : s.h 0 = (g : Int)) (hm : s.h 1 = (m : Int)) (bg : g ≤ 6) (bm : m ≤ 8) (k2 : X.k = 2) (c : 0 ≤ oN (m_fst (fP (sn s) 14 X.v) g) ∨ ¬ oN (m_fst (fP (sn s) 20 X.v) m) < 0) : fsc s X = 3 := by
  have e := fsc_e (X := X) hg hm bg bm
  unfold fsc
  rw [if_pos k2, if_pos]
  exact c.elim (fun h => Or.inl (e.1.mpr h)) (fun h => Or.inr (e.2.mpr (Int32.not_lt.mp h)))
def PUX (F G : FW) (B : Nat → Int) (n lim i k : Nat) (C : Int32) : Prop := ∃ G1, RLX F G1 ∧ (C = 0 → RTK G1 B n lim (i + 1) ∧ G1.1 69 15 = F.1 69 15 ∧ (G1.1 69 18).toInt = (tok B n lim i).v ∧ G = fp G1 72 k (G1.1 69 18)) ∧ (¬ C = 0 → G = G1 ∧ G1.1 69 15 = C ∧ (G1.1 69 16).toInt = (tok B n lim i).pl)
def FRX (F G : FW) (B : Nat → Int) (n lim i a : Nat) (s : PS) : Prop := (fsc s (tok B n lim i) = 0 → ∃ w : Int64, w.toInt = (tok B n lim i).v ∧ RLX (fpl F 74 a w) G ∧ RTK G B n lim (i + 1) ∧ G.1 69 15 = F.1 69 15) ∧ (¬ fsc s (tok B n lim i) = 0 → RLX F G ∧ G.1 69 15 = fsc s (tok B n lim i) ∧ (G.1 69 16).toInt = (tok B n lim i).pl)
theorem FRX.bad {F : FW} {B : Nat → Int} {n lim i a : Nat} {s : PS} {c : Int32} (hT : RTK F B n lim i) (e : fsc s (tok B n lim i) = c) (hc : ¬ c = 0) : FRX F (fp (fp F 69 15 c) 69 16 (F.1 69 12)) B n lim i a s := by
  unfold FRX
  rw [e]
  exact ⟨fun z => absurd z hc, fun _ => ⟨(RLX.rf.fp (Or.inl rfl)).fp (Or.inr (Or.inl rfl)), (fp_ne (Or.inr (by decide))).trans fp_eq, (congrArg Int32.toInt fp_eq).trans hT.2.2.2.1.1⟩⟩
