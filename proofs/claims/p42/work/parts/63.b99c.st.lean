def LRQ (F G : FW) (B : Nat → Int) (n lim : Nat) (r : Option Value) (x : LR) : Prop := RSX F G ∧ match x with
  | .inl y => r = some (.int 1) ∧ RTK G B n lim y.2 ∧ G.1 69 15 = F.1 69 15 ∧ SRF G y.1
  | .inr z => r = some (.int 0) ∧ (G.1 69 15).toInt = z.1 ∧ (G.1 69 16).toInt = (tok B n lim z.2).pl
theorem LRQ.ok {F G : FW} {B : Nat → Int} {n lim j : Nat} {x : LR} {s : PS} (e : x = LR.ok s j) (h : RSX F G) (t : RTK G B n lim j) (e15 : G.1 69 15 = F.1 69 15) (hs : SRF G s) : LRQ F G B n lim (some (.int 1)) x := by
  rw [e]
  exact ⟨h, rfl, t, e15, hs⟩
theorem LRQ.bad {F G : FW} {B : Nat → Int} {n lim j : Nat} {x : LR} {f : Int} (e : x = LR.bad f j) (h : RSX F G) (h1 : (G.1 69 15).toInt = f) (h2 : (G.1 69 16).toInt = (tok B n lim j).pl) : LRQ F G B n lim (some (.int 0)) x := by
  rw [e]
  exact ⟨h, rfl, h1, h2⟩
theorem LRQ.rb {F G : FW} {B : Nat → Int} {n lim j : Nat} {x : LR} {c : Int32} (e : x = LR.bad c.toInt j) (h : RSX F G) (t : RTK G B n lim j) : LRQ F (fp (fp G 69 15 c) 69 16 (G.1 69 12)) B n lim (some (.int 0)) x :=
  LRQ.bad e (h.lx ((RLX.rf.fp (Or.inl rfl)).fp (Or.inr (Or.inl rfl)))) (congrArg Int32.toInt ((fp_ne (Or.inr (by decide))).trans fp_eq)) ((congrArg Int32.toInt fp_eq).trans t.2.2.2.1.1)
theorem LRQ.put {F Fm G : FW} {B : Nat → Int} {n lim j k : Nat} {x : LR} {lo hi : Int} {s : PS} (hR : RSX F Fm) (e15 : Fm.1 69 15 = F.1 69 15) (hs : SRF Fm s) (hk : k ≠ 0 ∧ k ≠ 1 ∧ k ≠ 3) (p : PUX Fm G B n lim j k (tnN (tok B n lim j) lo hi)) (ex : x = lnum (tok B n lim) j lo hi fun v => LR.ok (ups s.h k v, s.2) (j + 1)) : LRQ F G B n lim (some (.int (b2i (decide (tnN (tok B n lim j) lo hi = 0))))) x := by
  obtain ⟨G1, x1, hy, hn⟩ := p
  by_cases c : tnN (tok B n lim j) lo hi = 0
  · obtain ⟨t, z15, hv, rfl⟩ := hy c
    rw [decide_eq_true c]
    exact LRQ.ok (ex.trans (lnum_y c)) (hR.lx x1).p72 (t.oth (Or.inl rfl)) ((fp_ne (Or.inl (by decide))).trans (z15.trans e15)) ((hs.lx x1).put hk hv)
  · obtain ⟨rfl, z1, z2⟩ := hn c
    rw [decide_eq_false c]
    exact LRQ.bad (ex.trans (lnum_n c)) (hR.lx x1) (congrArg Int32.toInt z1) z2
theorem ld_0 {b : Bool} : (if b = true then (1 : Int32) else 0) = 0 ↔ ¬ b = true := by
  cases b <;> decide
theorem fresh_gw {F G : FW} {B : Nat → Int} {n lim i a : Nat} {s : PS} (g : GW F) (h : fsc s (tok B n lim i) = 0 → ∃ w : Int64, w.toInt = (tok B n lim i).v ∧ RLX (fpl F 74 a w) G ∧ RTK G B n lim (i + 1) ∧ G.1 69 15 = F.1 69 15) (h2 : ¬ fsc s (tok B n lim i) = 0 → RLX F G ∧ G.1 69 15 = fsc s (tok B n lim i) ∧ (G.1 69 16).toInt = (tok B n lim i).pl) : GW G := by
  by_cases c : fsc s (tok B n lim i) = 0
  · obtain ⟨w, -, x, -⟩ := h c
    exact RLX.G x (g.fx ((FX.rf (P := fun q => q = 74)).fpl rfl))
  · exact RLX.G (h2 c).1 g
theorem puts_gw {F G G1 : FW} {P1 P2 P3 P4 P5 : Prop} {k : Nat} {C v : Int32} (g : GW F) (x : RLX F G1) (h : C = 0 → P1 ∧ P2 ∧ P3 ∧ G = fp G1 72 k v) (h2 : ¬ C = 0 → G = G1 ∧ P4 ∧ P5) : GW G := by
  by_cases c : C = 0
  · obtain ⟨-, -, -, rfl⟩ := h c
    exact (RLX.G x g).fx ((FX.rf (P := fun q => q = 72)).fp rfl)
  · obtain ⟨rfl, -⟩ := h2 c
    exact RLX.G x g
theorem lnMan_y {T : Nat → TT} {s : PS} {m i : Nat} (h8 : ¬ 8 ≤ s.h 1) (hm : s.h 1 = (m : Int)) (ez : fsc s (T (i + 1)) = 0) (ep : tnN (T (i + 2)) 0 1 = 0) : lnMan T s i = LR.ok (ups (ups s.h (52 + m) (T (i + 2)).v) 1 (ups s.h (52 + m) (T (i + 2)).v 1 + 1), ups s.nm (6 + m) (T (i + 1)).v, s.ld, s.tl) (i + 3) := by
  unfold lnMan
  rw [if_neg h8, lnew_y ez, lnum_y ep, show (s.h 1).toNat = m by omega, ups_ne (show 1 ≠ 52 + m by omega)]
