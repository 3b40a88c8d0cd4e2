-- 63.b9zd.fr.lean.txt
section
/-! ===== operations of which only the frame is wanted ===== -/
theorem CR.frz {P : Nat → Prop} {F G : FW} {D : DD} (h : CR F D) (z : FRZ P F G) (g : GW G) (hP : ∀ q, P q → q < 88 ∧ q ≠ 0 ∧ q ≠ 10 ∧ q ≠ 11 ∧ ¬ (12 ≤ q ∧ q ≤ 19) ∧ q ≠ 41 ∧ ¬ (45 ≤ q ∧ q ≤ 60)) : CR G D := by
  have c := h.c
  have z0 := (z.2 0 (by omega) (fun p => by have := hP 0 p; omega)).2.1
  refine ⟨g, Nat.le_trans c z.1, ?_, ?_, h.s.frz z (by omega) (fun a a1 a2 p => by have := hP a p; omega), h.h.frz z (fun a p => by have := hP a p; omega) c, h.i.ce (z.2 41 (by omega) (fun p => by have := hP 41 p; omega)).2.1 (z.2 11 (by omega) (fun p => by have := hP 11 p; omega)).2.1 z.1 (fun a a1 a2 => z.2 a a2 (fun p => by have := hP a p; omega))⟩
  · obtain ⟨t, p, j0, h1, h2, h3, h4⟩ := h.l
    exact ⟨t, p, j0, (z0 13).trans h1, (z0 14).trans h2, h3.frz z (by omega) (fun a a1 a2 p => by have := hP a p; omega), h4.frz z (by omega) (fun p => by have := hP _ p; omega) (fun p => by have := hP _ p; omega)⟩
  · obtain ⟨u, v, j0, h1, h2⟩ := h.e
    exact ⟨u, v, j0, (z0 15).trans h1, (z0 16).trans h2⟩
theorem XR.frz {P : Nat → Prop} {F G : FW} {D : DD} (h : XR F D) (c : 88 ≤ F.2.2.2.1) (z : FRZ P F G) (g : GW G) (e25 : G.1 69 25 = F.1 69 25) (hP : ∀ q, P q → q ≠ 71 ∧ q ≠ 74 ∧ q ≠ 75 ∧ q ≠ 77 ∧ q ≠ 84 ∧ q ≠ 85 ∧ q ≠ 86) : XR G D := by
  have i71 := (z.2 71 (by omega) (fun p => by have := hP _ p; omega)).1
  have l74 := (z.2 74 (by omega) (fun p => by have := hP _ p; omega)).2.2
  have l75 := (z.2 75 (by omega) (fun p => by have := hP _ p; omega)).2.2
  exact ⟨g, h.T.of fun k _ => i71 k, h.s.of h.T.mb fun k _ _ => i71 k, HSX.same h.h h.T.mb e25 (z.2 77 (by omega) (fun p => by have := hP _ p; omega)).1, ⟨fun q hq => by rw [l74]; exact h.n.1 q hq, fun q hq => by rw [l74]; exact h.n.2 q hq⟩, fun j hj => by rw [l75]; exact h.w j hj, fun k hk => (h.i hk).ce (z.2 84 (by omega) (fun p => by have := hP _ p; omega)).1 ((z.2 86 (by omega) (fun p => by have := hP _ p; omega)).1 k) (z.2 85 (by omega) (fun p => by have := hP _ p; omega)).2.2⟩
abbrev P12 (q : Nat) : Prop := q = 1 ∨ q = 2 ∨ q = 87
theorem wires_12 : ∀ y ∈ wires, P12 y.1 → y = (1, 0, 2) := by decide
abbrev P69 (q : Nat) : Prop := q = 69 ∨ q = 70 ∨ q = 83
theorem wires_69 : ∀ y ∈ wires, P69 y.1 → y = (69, 1, 70) ∨ y = (69, 6, 71) ∨ y = (69, 7, 72) ∨ y = (69, 8, 73) ∨ y = (69, 9, 74) ∨ y = (69, 10, 75) ∨ y = (69, 21, 76) ∨ y = (69, 23, 77) ∨ y = (69, 24, 78) ∨ y = (69, 26, 79) ∨ y = (69, 27, 80) ∨ y = (69, 31, 81) ∨ y = (69, 33, 82) ∨ y = (69, 39, 83) ∨ y = (69, 40, 84) ∨ y = (69, 41, 85) ∨ y = (69, 42, 86) := by decide
def okC (w : Nat × Nat × Nat) : Bool := decide (w.1 = 8) || decide (w.1 = 123) || decide (w.1 = 148)
def okX (w : Nat × Nat × Nat) : Bool := decide (w.1 = 11) || decide (w.1 = 131) || decide (w.1 = 144)
theorem okC_p {W : List (Nat × Nat × Nat)} (h : W.all okC = true) : ∀ w ∈ W, ∃ q, sf_P w.1 = some q ∧ P12 q := fun w hw => by
  have q := List.all_eq_true.mp h w hw
  unfold okC at q
  rw [Bool.or_eq_true, Bool.or_eq_true, decide_eq_true_eq, decide_eq_true_eq, decide_eq_true_eq] at q
  rcases q with (e | e) | e <;> rw [e]
  · exact ⟨1, rfl, by decide⟩
  · exact ⟨2, rfl, by decide⟩
  · exact ⟨87, rfl, by decide⟩
theorem okX_p {W : List (Nat × Nat × Nat)} (h : W.all okX = true) : ∀ w ∈ W, ∃ q, sf_P w.1 = some q ∧ P69 q := fun w hw => by
  have q := List.all_eq_true.mp h w hw
  unfold okX at q
  rw [Bool.or_eq_true, Bool.or_eq_true, decide_eq_true_eq, decide_eq_true_eq, decide_eq_true_eq] at q
  rcases q with (e | e) | e <;> rw [e]
  · exact ⟨69, rfl, by decide⟩
  · exact ⟨70, rfl, by decide⟩
  · exact ⟨83, rfl, by decide⟩
theorem gw12 {t' : Nat → Nat} {F : FW} {hp' : ab_H} (H' : sf_h t' hp') (g : GW F) (c : 88 ≤ F.2.2.2.1) (z : FRZ P12 F (fl hp')) : GW (fl hp') := fun y my => by
  by_cases p : P12 y.1
  · rw [wires_12 y my p]
    exact sfh_ref H' (g := 8) (g1 := 123) rfl (by decide) rfl rfl
  · exact ((z.2 y.1 (by have := (wires_lt y my).2; omega) p).2.1 _).trans (g y my)
theorem gw69 {t' : Nat → Nat} {F : FW} {hp' : ab_H} (H' : sf_h t' hp') (g : GW F) (c : 88 ≤ F.2.2.2.1) (z : FRZ P69 F (fl hp')) : GW (fl hp') := fun y my => by
  by_cases p : P69 y.1
  · rcases wires_69 y my p with e | e | e | e | e | e | e | e | e | e | e | e | e | e | e | e | e <;> rw [e]
    · exact sfh_ref H' (g := 11) (g1 := 131) rfl (by decide) rfl rfl
    · exact sfh_ref H' (g := 11) (g1 := 132) rfl (by decide) rfl rfl
    · exact sfh_ref H' (g := 11) (g1 := 133) rfl (by decide) rfl rfl
    · exact sfh_ref H' (g := 11) (g1 := 134) rfl (by decide) rfl rfl
    · exact sfh_ref H' (g := 11) (g1 := 135) rfl (by decide) rfl rfl
    · exact sfh_ref H' (g := 11) (g1 := 136) rfl (by decide) rfl rfl
    · exact sfh_ref H' (g := 11) (g1 := 137) rfl (by decide) rfl rfl
    · exact sfh_ref H' (g := 11) (g1 := 138) rfl (by decide) rfl rfl
    · exact sfh_ref H' (g := 11) (g1 := 139) rfl (by decide) rfl rfl
    · exact sfh_ref H' (g := 11) (g1 := 140) rfl (by decide) rfl rfl
    · exact sfh_ref H' (g := 11) (g1 := 141) rfl (by decide) rfl rfl
    · exact sfh_ref H' (g := 11) (g1 := 142) rfl (by decide) rfl rfl
    · exact sfh_ref H' (g := 11) (g1 := 143) rfl (by decide) rfl rfl
    · exact sfh_ref H' (g := 11) (g1 := 144) rfl (by decide) rfl rfl
    · exact sfh_ref H' (g := 11) (g1 := 145) rfl (by decide) rfl rfl
    · exact sfh_ref H' (g := 11) (g1 := 146) rfl (by decide) rfl rfl
    · exact sfh_ref H' (g := 11) (g1 := 147) rfl (by decide) rfl rfl
  · exact ((z.2 y.1 (by have := (wires_lt y my).2; omega) p).2.1 _).trans (g y my)
/-- a field of a place that stands alone -/
theorem gi_fr {W : List (Nat × Nat × Nat)} {t t' : Nat → Nat} {hp hp' : ab_H} {g p k : Nat} {lo hi : Int} (H : sf_h t hp) (f : sf_fr W t hp t' hp') (hP : sf_P g = some p) (hg : g < 100) (hk : (sf_C g)[k]? = some (0, lo, hi)) (hW : sf_inW W g k = false) : (fl hp').1 p k = (fl hp).1 p k := by
  obtain ⟨a1, a2⟩ := H.2.2.1 g p hP
  have e := f.2.2.1 p a1 k (by rw [a2]; exact hW)
  have c := H.1 p a1
  rw [a2] at c
  unfold sf_c at c
  have q : ∃ v : Int, sf_rd hp p k = some v := by
    unfold sf_rd
    split at c
    · rename_i o ho
      obtain ⟨v, hv, hk'⟩ := c.2.2 k _ hk
      unfold sf_v at hk'
      split at hk'
      · rename_i x
        exact ⟨x.toInt, by first | (rw [hv]; rfl) | (rw [ho]; dsimp only; rw [hv]; rfl)⟩
      · exact absurd hk'.1 (by show ¬ (0 : Nat) = 1; decide)
      · exact absurd hk'.1 (by show ¬ (0 : Nat) = 1; decide)
      · exact absurd hk' (by show ¬ (0 : Nat) = 2; decide)
      · exact absurd hk' id
    · exact absurd c.1 (by omega)
  obtain ⟨v, hv⟩ := q
  exact Int32.toInt_inj.mp ((gi_rd (e.trans hv)).trans (gi_rd hv).symm)
theorem CRW {W : List (Nat × Nat × Nat)} {t t' : Nat → Nat} {hp hp' : ab_H} {D : DD} (ok : W.all okC = true) (H : sf_h t hp) (H' : sf_h t' hp') (f : sf_fr W t hp t' hp') (h : CR (fl hp) D) : CR (fl hp') D ∧ KX (fl hp) (fl hp') := by
  have z : FRZ P12 (fl hp) (fl hp') := sfr_frz H f (okC_p ok)
  have g := gw12 H' h.G h.c z
  refine ⟨h.frz z g (fun q (c : q = 1 ∨ q = 2 ∨ q = 87) => by omega), fun E x => ?_⟩
  exact x.frz h.c z g ((z.2 69 (by have := h.c; omega) (by decide)).1 25) (fun q (c : q = 1 ∨ q = 2 ∨ q = 87) => by omega)
theorem XRW {W : List (Nat × Nat × Nat)} {t t' : Nat → Nat} {hp hp' : ab_H} {D : DD} (ok : W.all okX = true) (o25 : sf_inW W 11 25 = false) (H : sf_h t hp) (H' : sf_h t' hp') (f : sf_fr W t hp t' hp') (c : 88 ≤ (fl hp).2.2.2.1) (h : XR (fl hp) D) : XR (fl hp') D ∧ KC (fl hp) (fl hp') := by
  have z : FRZ P69 (fl hp) (fl hp') := sfr_frz H f (okX_p ok)
  have g := gw69 H' h.G c z
  refine ⟨h.frz c z g (gi_fr H f (g := 11) rfl (by decide) rfl o25) (fun q (c : q = 69 ∨ q = 70 ∨ q = 83) => by omega), fun E x => x.frz z g (fun q (c : q = 69 ∨ q = 70 ∨ q = 83) => by omega)⟩
end
-- 63.b9ze.fs.lean.txt
section
/-! ===== where a sentence is read: the frame alone ===== -/
def FSX (u : Nat) (F G : FW) : Prop := FX (fun q => q = 3 ∨ (u ≤ q ∧ q ≤ u + 3)) F G
theorem FSX.rf {u : Nat} {F : FW} : FSX u F F := FX.rf
theorem FSX.tr {u : Nat} {F G K : FW} (a : FSX u F G) (b : FSX u G K) : FSX u F K := FX.tr a b
theorem FSX.of {u : Nat} {F G : FW} (x : FX (fun q => q = 3) F G) : FSX u F G := x.wd fun _ h => Or.inl h
theorem FSX.ou {u : Nat} {F G : FW} (x : FX (fun q => u ≤ q ∧ q ≤ u + 3) F G) : FSX u F G := x.wd fun _ h => Or.inr h
theorem FSX.p3 {u k : Nat} {v : Int32} {F G : FW} (x : FSX u F G) : FSX u F (fp G 3 k v) := FX.fp x (Or.inl rfl)
theorem FSX.pu {u k : Nat} {v : Int32} {F G : FW} (x : FSX u F G) : FSX u F (fp G u k v) := FX.fp x (Or.inr ⟨Nat.le_refl _, Nat.le_add_right _ _⟩)
theorem FSX.G {u : Nat} {F G : FW} (x : FSX u F G) (g : GW F) : GW G := g.fx x
theorem FSX.O {u : Nat} {F G : FW} (x : FSX u F G) (o : O3 F u) : O3 G u := FX.O3 x o
/-- a reader that keeps to its places -/
def FSP (X : List Value → ab_H → Option ab_O) : Prop := ∀ (u : Nat) (F : FW) (w : Int32), GW F → O3 F u → Pm X [.ref u, .ref 3, .int w] F (fun v F' => (∃ z, v = some (.int z)) ∧ FSX u F F')
theorem fsp_no : FSP ab_no0 := fun u F w _ _ hp o _ _ e => by cases e
end
-- 63.b9zf.lean.txt
section
set_option maxRecDepth 100000 in
set_option maxHeartbeats 4000000 in
theorem fs_step {F : FW} (hG : GW F) : Pm Z_X9_step [.ref 3] F (fun v F' => v = none ∧ FX (fun q => q = 3) F F') := by
  refine Pm.of fun N => ?_
  obtain ⟨Q, hQ⟩ : ∃ Q : Option Value → FW → Prop, Q = (fun v F' => v = none ∧ FX (fun q => q = 3) F F') := ⟨_, rfl⟩
  rw [← hQ]
  refine (show Pv (ab_T L_X9_step) N 0 [some (.ref 3)] [] F Q from ?_)
  refine Pv.aload rfl rfl ?_
  refine Pv.getI (z := F.1 3 4) rfl rfl (rfl) ?_
  refine Pv.aload rfl rfl ?_
  refine Pv.getI (z := F.1 3 3) rfl rfl (rfl) ?_
  refine Pv.icmp rfl (fun c1 => ?_) (fun c1 => ?_)
  · skip
    replace c1 := of_decide_eq_true c1
    exact Pv.vret rfl (by rw [hQ]; exact ⟨rfl, (FX.rf (P := fun q => q = 3) (F := F))⟩)
  · skip
    replace c1 := of_decide_eq_false c1
    refine Pv.aload rfl rfl ?_
    refine Pv.getI (z := F.1 3 4) rfl rfl (rfl) ?_
    refine Pv.lit rfl ?_
    refine Pv.icmp rfl (fun c2 => ?_) (fun c2 => ?_)
    · skip
      replace c2 := of_decide_eq_true c2
      exact Pv.vret rfl (by rw [hQ]; exact ⟨rfl, (FX.rf (P := fun q => q = 3) (F := F))⟩)
    · skip
      replace c2 := of_decide_eq_false c2
      refine Pv.aload rfl rfl ?_
      refine Pv.aload rfl rfl ?_
      refine Pv.getR (v := .ref 4) rfl rfl (GW.at (a := 3) (k := 0) (b := 4) hG (by decide)) ?_
      refine Pv.aload rfl rfl ?_
      refine Pv.getI (z := F.1 3 4) rfl rfl (rfl) ?_
      refine Pv.ald (z := F.1 4 (F.1 3 4).toNatClampNeg) rfl rfl ?_
      refine Pv.putI rfl rfl ?_
      refine Pv.aload rfl rfl ?_
      refine Pv.aload rfl rfl ?_
      refine Pv.getR (v := .ref 5) rfl rfl (GW.at (a := 3) (k := 1) (b := 5) hG (by decide)) ?_
      refine Pv.aload rfl rfl ?_
      refine Pv.getI (z := (fp F 3 5 (F.1 4 (F.1 3 4).toNatClampNeg)).1 3 4) rfl rfl (rfl) ?_
      refine Pv.ald (z := (fp F 3 5 (F.1 4 (F.1 3 4).toNatClampNeg)).1 5 ((fp F 3 5 (F.1 4 (F.1 3 4).toNatClampNeg)).1 3 4).toNatClampNeg) rfl rfl ?_
      refine Pv.putI rfl rfl ?_
      refine Pv.aload rfl rfl ?_
      refine Pv.aload rfl rfl ?_
      refine Pv.getR (v := .ref 6) rfl rfl (GW.at (a := 3) (k := 2) (b := 6) hG (by decide)) ?_
      refine Pv.aload rfl rfl ?_
      refine Pv.getI (z := (fp (fp F 3 5 (F.1 4 (F.1 3 4).toNatClampNeg)) 3 6 ((fp F 3 5 (F.1 4 (F.1 3 4).toNatClampNeg)).1 5 ((fp F 3 5 (F.1 4 (F.1 3 4).toNatClampNeg)).1 3 4).toNatClampNeg)).1 3 4) rfl rfl (rfl) ?_
      refine Pv.lald (z := (fp (fp F 3 5 (F.1 4 (F.1 3 4).toNatClampNeg)) 3 6 ((fp F 3 5 (F.1 4 (F.1 3 4).toNatClampNeg)).1 5 ((fp F 3 5 (F.1 4 (F.1 3 4).toNatClampNeg)).1 3 4).toNatClampNeg)).2.2.1 6 ((fp (fp F 3 5 (F.1 4 (F.1 3 4).toNatClampNeg)) 3 6 ((fp F 3 5 (F.1 4 (F.1 3 4).toNatClampNeg)).1 5 ((fp F 3 5 (F.1 4 (F.1 3 4).toNatClampNeg)).1 3 4).toNatClampNeg)).1 3 4).toNatClampNeg) rfl rfl ?_
      refine Pv.putL rfl rfl ?_
      refine Pv.aload rfl rfl ?_
      refine Pv.aload rfl rfl ?_
      refine Pv.getR (v := .ref 6) rfl rfl (GW.at (a := 3) (k := 2) (b := 6) hG (by decide)) ?_
      refine Pv.aload rfl rfl ?_
      refine Pv.getI (z := (fpl (fp (fp F 3 5 (F.1 4 (F.1 3 4).toNatClampNeg)) 3 6 ((fp F 3 5 (F.1 4 (F.1 3 4).toNatClampNeg)).1 5 ((fp F 3 5 (F.1 4 (F.1 3 4).toNatClampNeg)).1 3 4).toNatClampNeg)) 3 8 ((fp (fp F 3 5 (F.1 4 (F.1 3 4).toNatClampNeg)) 3 6 ((fp F 3 5 (F.1 4 (F.1 3 4).toNatClampNeg)).1 5 ((fp F 3 5 (F.1 4 (F.1 3 4).toNatClampNeg)).1 3 4).toNatClampNeg)).2.2.1 6 ((fp (fp F 3 5 (F.1 4 (F.1 3 4).toNatClampNeg)) 3 6 ((fp F 3 5 (F.1 4 (F.1 3 4).toNatClampNeg)).1 5 ((fp F 3 5 (F.1 4 (F.1 3 4).toNatClampNeg)).1 3 4).toNatClampNeg)).1 3 4).toNatClampNeg)).1 3 4) rfl rfl (rfl) ?_
      refine Pv.lald (z := (fpl (fp (fp F 3 5 (F.1 4 (F.1 3 4).toNatClampNeg)) 3 6 ((fp F 3 5 (F.1 4 (F.1 3 4).toNatClampNeg)).1 5 ((fp F 3 5 (F.1 4 (F.1 3 4).toNatClampNeg)).1 3 4).toNatClampNeg)) 3 8 ((fp (fp F 3 5 (F.1 4 (F.1 3 4).toNatClampNeg)) 3 6 ((fp F 3 5 (F.1 4 (F.1 3 4).toNatClampNeg)).1 5 ((fp F 3 5 (F.1 4 (F.1 3 4).toNatClampNeg)).1 3 4).toNatClampNeg)).2.2.1 6 ((fp (fp F 3 5 (F.1 4 (F.1 3 4).toNatClampNeg)) 3 6 ((fp F 3 5 (F.1 4 (F.1 3 4).toNatClampNeg)).1 5 ((fp F 3 5 (F.1 4 (F.1 3 4).toNatClampNeg)).1 3 4).toNatClampNeg)).1 3 4).toNatClampNeg)).2.2.1 6 ((fpl (fp (fp F 3 5 (F.1 4 (F.1 3 4).toNatClampNeg)) 3 6 ((fp F 3 5 (F.1 4 (F.1 3 4).toNatClampNeg)).1 5 ((fp F 3 5 (F.1 4 (F.1 3 4).toNatClampNeg)).1 3 4).toNatClampNeg)) 3 8 ((fp (fp F 3 5 (F.1 4 (F.1 3 4).toNatClampNeg)) 3 6 ((fp F 3 5 (F.1 4 (F.1 3 4).toNatClampNeg)).1 5 ((fp F 3 5 (F.1 4 (F.1 3 4).toNatClampNeg)).1 3 4).toNatClampNeg)).2.2.1 6 ((fp (fp F 3 5 (F.1 4 (F.1 3 4).toNatClampNeg)) 3 6 ((fp F 3 5 (F.1 4 (F.1 3 4).toNatClampNeg)).1 5 ((fp F 3 5 (F.1 4 (F.1 3 4).toNatClampNeg)).1 3 4).toNatClampNeg)).1 3 4).toNatClampNeg)).1 3 4).toNatClampNeg) rfl rfl ?_
      refine Pv.l2i (z := Int64.toInt32 ((fpl (fp (fp F 3 5 (F.1 4 (F.1 3 4).toNatClampNeg)) 3 6 ((fp F 3 5 (F.1 4 (F.1 3 4).toNatClampNeg)).1 5 ((fp F 3 5 (F.1 4 (F.1 3 4).toNatClampNeg)).1 3 4).toNatClampNeg)) 3 8 ((fp (fp F 3 5 (F.1 4 (F.1 3 4).toNatClampNeg)) 3 6 ((fp F 3 5 (F.1 4 (F.1 3 4).toNatClampNeg)).1 5 ((fp F 3 5 (F.1 4 (F.1 3 4).toNatClampNeg)).1 3 4).toNatClampNeg)).2.2.1 6 ((fp (fp F 3 5 (F.1 4 (F.1 3 4).toNatClampNeg)) 3 6 ((fp F 3 5 (F.1 4 (F.1 3 4).toNatClampNeg)).1 5 ((fp F 3 5 (F.1 4 (F.1 3 4).toNatClampNeg)).1 3 4).toNatClampNeg)).1 3 4).toNatClampNeg)).2.2.1 6 ((fpl (fp (fp F 3 5 (F.1 4 (F.1 3 4).toNatClampNeg)) 3 6 ((fp F 3 5 (F.1 4 (F.1 3 4).toNatClampNeg)).1 5 ((fp F 3 5 (F.1 4 (F.1 3 4).toNatClampNeg)).1 3 4).toNatClampNeg)) 3 8 ((fp (fp F 3 5 (F.1 4 (F.1 3 4).toNatClampNeg)) 3 6 ((fp F 3 5 (F.1 4 (F.1 3 4).toNatClampNeg)).1 5 ((fp F 3 5 (F.1 4 (F.1 3 4).toNatClampNeg)).1 3 4).toNatClampNeg)).2.2.1 6 ((fp (fp F 3 5 (F.1 4 (F.1 3 4).toNatClampNeg)) 3 6 ((fp F 3 5 (F.1 4 (F.1 3 4).toNatClampNeg)).1 5 ((fp F 3 5 (F.1 4 (F.1 3 4).toNatClampNeg)).1 3 4).toNatClampNeg)).1 3 4).toNatClampNeg)).1 3 4).toNatClampNeg)) rfl (rfl) ?_
      refine Pv.putI rfl rfl ?_
      refine Pv.aload rfl rfl ?_
      refine Pv.dup rfl ?_
      refine Pv.getI (z := (fp (fpl (fp (fp F 3 5 (F.1 4 (F.1 3 4).toNatClampNeg)) 3 6 ((fp F 3 5 (F.1 4 (F.1 3 4).toNatClampNeg)).1 5 ((fp F 3 5 (F.1 4 (F.1 3 4).toNatClampNeg)).1 3 4).toNatClampNeg)) 3 8 ((fp (fp F 3 5 (F.1 4 (F.1 3 4).toNatClampNeg)) 3 6 ((fp F 3 5 (F.1 4 (F.1 3 4).toNatClampNeg)).1 5 ((fp F 3 5 (F.1 4 (F.1 3 4).toNatClampNeg)).1 3 4).toNatClampNeg)).2.2.1 6 ((fp (fp F 3 5 (F.1 4 (F.1 3 4).toNatClampNeg)) 3 6 ((fp F 3 5 (F.1 4 (F.1 3 4).toNatClampNeg)).1 5 ((fp F 3 5 (F.1 4 (F.1 3 4).toNatClampNeg)).1 3 4).toNatClampNeg)).1 3 4).toNatClampNeg)) 3 7 (Int64.toInt32 ((fpl (fp (fp F 3 5 (F.1 4 (F.1 3 4).toNatClampNeg)) 3 6 ((fp F 3 5 (F.1 4 (F.1 3 4).toNatClampNeg)).1 5 ((fp F 3 5 (F.1 4 (F.1 3 4).toNatClampNeg)).1 3 4).toNatClampNeg)) 3 8 ((fp (fp F 3 5 (F.1 4 (F.1 3 4).toNatClampNeg)) 3 6 ((fp F 3 5 (F.1 4 (F.1 3 4).toNatClampNeg)).1 5 ((fp F 3 5 (F.1 4 (F.1 3 4).toNatClampNeg)).1 3 4).toNatClampNeg)).2.2.1 6 ((fp (fp F 3 5 (F.1 4 (F.1 3 4).toNatClampNeg)) 3 6 ((fp F 3 5 (F.1 4 (F.1 3 4).toNatClampNeg)).1 5 ((fp F 3 5 (F.1 4 (F.1 3 4).toNatClampNeg)).1 3 4).toNatClampNeg)).1 3 4).toNatClampNeg)).2.2.1 6 ((fpl (fp (fp F 3 5 (F.1 4 (F.1 3 4).toNatClampNeg)) 3 6 ((fp F 3 5 (F.1 4 (F.1 3 4).toNatClampNeg)).1 5 ((fp F 3 5 (F.1 4 (F.1 3 4).toNatClampNeg)).1 3 4).toNatClampNeg)) 3 8 ((fp (fp F 3 5 (F.1 4 (F.1 3 4).toNatClampNeg)) 3 6 ((fp F 3 5 (F.1 4 (F.1 3 4).toNatClampNeg)).1 5 ((fp F 3 5 (F.1 4 (F.1 3 4).toNatClampNeg)).1 3 4).toNatClampNeg)).2.2.1 6 ((fp (fp F 3 5 (F.1 4 (F.1 3 4).toNatClampNeg)) 3 6 ((fp F 3 5 (F.1 4 (F.1 3 4).toNatClampNeg)).1 5 ((fp F 3 5 (F.1 4 (F.1 3 4).toNatClampNeg)).1 3 4).toNatClampNeg)).1 3 4).toNatClampNeg)).1 3 4).toNatClampNeg))).1 3 4) rfl rfl (rfl) ?_
      refine Pv.lit rfl ?_
      refine Pv.bin (z := ((fp (fpl (fp (fp F 3 5 (F.1 4 (F.1 3 4).toNatClampNeg)) 3 6 ((fp F 3 5 (F.1 4 (F.1 3 4).toNatClampNeg)).1 5 ((fp F 3 5 (F.1 4 (F.1 3 4).toNatClampNeg)).1 3 4).toNatClampNeg)) 3 8 ((fp (fp F 3 5 (F.1 4 (F.1 3 4).toNatClampNeg)) 3 6 ((fp F 3 5 (F.1 4 (F.1 3 4).toNatClampNeg)).1 5 ((fp F 3 5 (F.1 4 (F.1 3 4).toNatClampNeg)).1 3 4).toNatClampNeg)).2.2.1 6 ((fp (fp F 3 5 (F.1 4 (F.1 3 4).toNatClampNeg)) 3 6 ((fp F 3 5 (F.1 4 (F.1 3 4).toNatClampNeg)).1 5 ((fp F 3 5 (F.1 4 (F.1 3 4).toNatClampNeg)).1 3 4).toNatClampNeg)).1 3 4).toNatClampNeg)) 3 7 (Int64.toInt32 ((fpl (fp (fp F 3 5 (F.1 4 (F.1 3 4).toNatClampNeg)) 3 6 ((fp F 3 5 (F.1 4 (F.1 3 4).toNatClampNeg)).1 5 ((fp F 3 5 (F.1 4 (F.1 3 4).toNatClampNeg)).1 3 4).toNatClampNeg)) 3 8 ((fp (fp F 3 5 (F.1 4 (F.1 3 4).toNatClampNeg)) 3 6 ((fp F 3 5 (F.1 4 (F.1 3 4).toNatClampNeg)).1 5 ((fp F 3 5 (F.1 4 (F.1 3 4).toNatClampNeg)).1 3 4).toNatClampNeg)).2.2.1 6 ((fp (fp F 3 5 (F.1 4 (F.1 3 4).toNatClampNeg)) 3 6 ((fp F 3 5 (F.1 4 (F.1 3 4).toNatClampNeg)).1 5 ((fp F 3 5 (F.1 4 (F.1 3 4).toNatClampNeg)).1 3 4).toNatClampNeg)).1 3 4).toNatClampNeg)).2.2.1 6 ((fpl (fp (fp F 3 5 (F.1 4 (F.1 3 4).toNatClampNeg)) 3 6 ((fp F 3 5 (F.1 4 (F.1 3 4).toNatClampNeg)).1 5 ((fp F 3 5 (F.1 4 (F.1 3 4).toNatClampNeg)).1 3 4).toNatClampNeg)) 3 8 ((fp (fp F 3 5 (F.1 4 (F.1 3 4).toNatClampNeg)) 3 6 ((fp F 3 5 (F.1 4 (F.1 3 4).toNatClampNeg)).1 5 ((fp F 3 5 (F.1 4 (F.1 3 4).toNatClampNeg)).1 3 4).toNatClampNeg)).2.2.1 6 ((fp (fp F 3 5 (F.1 4 (F.1 3 4).toNatClampNeg)) 3 6 ((fp F 3 5 (F.1 4 (F.1 3 4).toNatClampNeg)).1 5 ((fp F 3 5 (F.1 4 (F.1 3 4).toNatClampNeg)).1 3 4).toNatClampNeg)).1 3 4).toNatClampNeg)).1 3 4).toNatClampNeg))).1 3 4) + 1) rfl (rfl) ?_
      refine Pv.putI rfl rfl ?_
      exact Pv.vret rfl (by rw [hQ]; exact ⟨rfl, ((((((FX.rf (P := fun q => q = 3) (F := F)).fp rfl).fp rfl).fpl rfl).fp rfl).fp rfl)⟩)
set_option maxRecDepth 100000 in
set_option maxHeartbeats 4000000 in
theorem fs_num {F : FW} (hG : GW F) (lo hi : Int32) : Pm Z_X9_takeNumber [.ref 3, .int lo, .int hi] F (fun v F' => (∃ z, v = some (.int z)) ∧ FX (fun q => q = 3) F F') := by
  refine Pm.of fun N => ?_
  obtain ⟨Q, hQ⟩ : ∃ Q : Option Value → FW → Prop, Q = (fun v F' => (∃ z, v = some (.int z)) ∧ FX (fun q => q = 3) F F') := ⟨_, rfl⟩
  rw [← hQ]
  refine (show Pv (ab_T (L_X9_takeNumber Z_X9_step Z_X9_fail)) N 0 [some (.ref 3), some (.int lo), some (.int hi)] [] F Q from ?_)
  refine Pv.aload rfl rfl ?_
  refine Pv.callV (as := [.ref 3]) (rest := []) rfl rfl rfl (fs_step hG) ?_
  rintro _ G1 ⟨rfl, x2⟩
  refine (show Pv _ _ 4 [some (.ref 3), some (.int lo), some (.int hi)] [] G1 Q from ?_)
  refine Pv.aload rfl rfl ?_
  refine Pv.getI (z := G1.1 3 5) rfl rfl (rfl) ?_
  refine Pv.lit rfl ?_
  refine Pv.icmp rfl (fun c3 => ?_) (fun c3 => ?_)
  · skip
    replace c3 := of_decide_eq_true c3
    refine Pv.aload rfl rfl ?_
    refine Pv.getI (z := G1.1 3 7) rfl rfl (rfl) ?_
    refine Pv.iload rfl rfl ?_
    refine Pv.icmp rfl (fun c4 => ?_) (fun c4 => ?_)
    · skip
      replace c4 := of_decide_eq_true c4
      refine Pv.aload rfl rfl ?_
      refine Pv.lit rfl ?_
      refine Pv.callVI (as := [.ref 3, .int 2]) (rest := []) (z := 0) rfl rfl rfl (c_fail (c := 2)) ?_
      refine Pv.if0 rfl (fun c5 => ?_) (fun c5 => ?_)
      · skip
        replace c5 := (i_eq (a := 0) (b := 0) (by omega) (by omega)).mp (of_decide_eq_true c5)
        refine Pv.lit rfl ?_
        exact Pv.zret rfl (by rw [hQ]; exact ⟨⟨_, rfl⟩, (((FX.rf (P := fun q => q = 3) (F := F)).tr x2).fp rfl)⟩)
      · skip
        replace c5 := mt (i_eq (a := 0) (b := 0) (by omega) (by omega)).mpr (of_decide_eq_false c5)
        omega
    · skip
      replace c4 := of_decide_eq_false c4
      refine Pv.aload rfl rfl ?_
      refine Pv.getI (z := G1.1 3 7) rfl rfl (rfl) ?_
      refine Pv.iload rfl rfl ?_
      refine Pv.icmp rfl (fun c6 => ?_) (fun c6 => ?_)
      · skip
        replace c6 := of_decide_eq_true c6
        refine Pv.lit rfl ?_
        refine Pv.goto rfl ?_
        exact Pv.zret rfl (by rw [hQ]; exact ⟨⟨_, rfl⟩, ((FX.rf (P := fun q => q = 3) (F := F)).tr x2)⟩)
      · skip
        replace c6 := of_decide_eq_false c6
        refine Pv.aload rfl rfl ?_
        refine Pv.lit rfl ?_
        refine Pv.callVI (as := [.ref 3, .int 2]) (rest := []) (z := 0) rfl rfl rfl (c_fail (c := 2)) ?_
        refine Pv.if0 rfl (fun c7 => ?_) (fun c7 => ?_)
        · skip
          replace c7 := (i_eq (a := 0) (b := 0) (by omega) (by omega)).mp (of_decide_eq_true c7)
          refine Pv.lit rfl ?_
          exact Pv.zret rfl (by rw [hQ]; exact ⟨⟨_, rfl⟩, (((FX.rf (P := fun q => q = 3) (F := F)).tr x2).fp rfl)⟩)
        · skip
          replace c7 := mt (i_eq (a := 0) (b := 0) (by omega) (by omega)).mpr (of_decide_eq_false c7)
          omega
  · skip
    replace c3 := of_decide_eq_false c3
    refine Pv.aload rfl rfl ?_
    refine Pv.lit rfl ?_
    refine Pv.callVI (as := [.ref 3, .int 1]) (rest := []) (z := 0) rfl rfl rfl (c_fail (c := 1)) ?_
    exact Pv.zret rfl (by rw [hQ]; exact ⟨⟨_, rfl⟩, (((FX.rf (P := fun q => q = 3) (F := F)).tr x2).fp rfl)⟩)
set_option maxRecDepth 100000 in
set_option maxHeartbeats 4000000 in
theorem fs_add {F : FW} {u : Nat} (hO : O3 F u) (a b c : Int32) : Pm Z_X5_addOp [.ref u, .int a, .int b, .int c] F (fun v F' => (∃ z, v = some (.int z)) ∧ FX (fun q => u ≤ q ∧ q ≤ u + 3) F F') := by
  refine Pm.of fun N => ?_
  obtain ⟨Q, hQ⟩ : ∃ Q : Option Value → FW → Prop, Q = (fun v F' => (∃ z, v = some (.int z)) ∧ FX (fun q => u ≤ q ∧ q ≤ u + 3) F F') := ⟨_, rfl⟩
  rw [← hQ]
  refine (show Pv (ab_T L_X5_addOp) N 0 [some (.ref u), some (.int a), some (.int b), some (.int c)] [] F Q from ?_)
  refine Pv.aload rfl rfl ?_
  refine Pv.getI (z := F.1 u 3) rfl rfl (rfl) ?_
  refine Pv.lit rfl ?_
  refine Pv.icmp rfl (fun c1 => ?_) (fun c1 => ?_)
  · skip
    replace c1 := of_decide_eq_true c1
    refine Pv.aload rfl rfl ?_
    refine Pv.getR (v := .ref (u + 1)) rfl rfl (hO 0 (by decide)) ?_
    refine Pv.aload rfl rfl ?_
    refine Pv.getI (z := F.1 u 3) rfl rfl (rfl) ?_
    refine Pv.iload rfl rfl ?_
    refine Pv.astk (k := (F.1 u 3).toNatClampNeg) (z := a) rfl rfl rfl ?_
    refine Pv.aload rfl rfl ?_
    refine Pv.getR (v := .ref (u + 2)) rfl rfl (hO 1 (by decide)) ?_
    refine Pv.aload rfl rfl ?_
    refine Pv.getI (z := (fp F (u + 1) ((F.1 u 3).toNatClampNeg) a).1 u 3) rfl rfl (rfl) ?_
    refine Pv.iload rfl rfl ?_
    refine Pv.astk (k := ((fp F (u + 1) ((F.1 u 3).toNatClampNeg) a).1 u 3).toNatClampNeg) (z := b) rfl rfl rfl ?_
    refine Pv.aload rfl rfl ?_
    refine Pv.getR (v := .ref (u + 3)) rfl rfl (hO 2 (by decide)) ?_
    refine Pv.aload rfl rfl ?_
    refine Pv.getI (z := (fp (fp F (u + 1) ((F.1 u 3).toNatClampNeg) a) (u + 2) (((fp F (u + 1) ((F.1 u 3).toNatClampNeg) a).1 u 3).toNatClampNeg) b).1 u 3) rfl rfl (rfl) ?_
    refine Pv.iload rfl rfl ?_
    refine Pv.astk (k := ((fp (fp F (u + 1) ((F.1 u 3).toNatClampNeg) a) (u + 2) (((fp F (u + 1) ((F.1 u 3).toNatClampNeg) a).1 u 3).toNatClampNeg) b).1 u 3).toNatClampNeg) (z := c) rfl rfl rfl ?_
    refine Pv.aload rfl rfl ?_
    refine Pv.dup rfl ?_
    refine Pv.getI (z := (fp (fp (fp F (u + 1) ((F.1 u 3).toNatClampNeg) a) (u + 2) (((fp F (u + 1) ((F.1 u 3).toNatClampNeg) a).1 u 3).toNatClampNeg) b) (u + 3) (((fp (fp F (u + 1) ((F.1 u 3).toNatClampNeg) a) (u + 2) (((fp F (u + 1) ((F.1 u 3).toNatClampNeg) a).1 u 3).toNatClampNeg) b).1 u 3).toNatClampNeg) c).1 u 3) rfl rfl (rfl) ?_
    refine Pv.lit rfl ?_
    refine Pv.bin (z := ((fp (fp (fp F (u + 1) ((F.1 u 3).toNatClampNeg) a) (u + 2) (((fp F (u + 1) ((F.1 u 3).toNatClampNeg) a).1 u 3).toNatClampNeg) b) (u + 3) (((fp (fp F (u + 1) ((F.1 u 3).toNatClampNeg) a) (u + 2) (((fp F (u + 1) ((F.1 u 3).toNatClampNeg) a).1 u 3).toNatClampNeg) b).1 u 3).toNatClampNeg) c).1 u 3) + 1) rfl (rfl) ?_
    refine Pv.putI rfl rfl ?_
    refine Pv.lit rfl ?_
    exact Pv.zret rfl (by rw [hQ]; exact ⟨⟨_, rfl⟩, (((((FX.rf (P := fun q => u ≤ q ∧ q ≤ u + 3) (F := F)).fp (show u ≤ u + 1 ∧ u + 1 ≤ u + 3 by omega)).fp (show u ≤ u + 2 ∧ u + 2 ≤ u + 3 by omega)).fp (show u ≤ u + 3 ∧ u + 3 ≤ u + 3 by omega)).fp (show u ≤ u ∧ u ≤ u + 3 by omega))⟩)
  · skip
    replace c1 := of_decide_eq_false c1
    refine Pv.lit rfl ?_
    exact Pv.zret rfl (by rw [hQ]; exact ⟨⟨_, rfl⟩, (FX.rf (P := fun q => u ≤ q ∧ q ≤ u + 3) (F := F))⟩)
set_option maxRecDepth 100000 in
set_option maxHeartbeats 4000000 in
theorem fs_onShore {F : FW} {u : Nat} (hG : GW F) (hO : O3 F u) (w : Int32) : Pm Z_X5_readOnShore [.ref u, .ref 3, .int w] F (fun v F' => (∃ z, v = some (.int z)) ∧ FSX u F F') := by
  refine Pm.of fun N => ?_
  obtain ⟨Q, hQ⟩ : ∃ Q : Option Value → FW → Prop, Q = (fun v F' => (∃ z, v = some (.int z)) ∧ FSX u F F') := ⟨_, rfl⟩
  rw [← hQ]
  refine (show Pv (ab_T (L_X5_readOnShore Z_X9_takeNumber Z_X9_step Z_X5_addOp)) N 0 [some (.ref u), some (.ref 3), some (.int w), none] [] F Q from ?_)
  refine Pv.aload rfl rfl ?_
  refine Pv.lit rfl ?_
  refine Pv.lit rfl ?_
  refine Pv.callV (as := [.ref 3, .int 0, .int 1]) (rest := []) rfl rfl rfl (fs_num ((FSX.rf (u := u) (F := F)).G hG) 0 1) ?_
  rintro _ G1 ⟨⟨z3, rfl⟩, x2⟩
  refine (show Pv _ _ 6 [some (.ref u), some (.ref 3), some (.int w), none] [.int z3] G1 Q from ?_)
  refine Pv.if0 rfl (fun c4 => ?_) (fun c4 => ?_)
  · skip
    replace c4 : decide (z3 = 0) = false := by simpa using c4
    replace c4 := of_decide_eq_false c4
    refine Pv.aload rfl rfl ?_
    refine Pv.getI (z := G1.1 3 7) rfl rfl (rfl) ?_
    refine Pv.istore (lo' := [some (.ref u), some (.ref 3), some (.int w), some (.int (G1.1 3 7))]) rfl rfl ?_
    refine Pv.aload rfl rfl ?_
    refine Pv.callV (as := [.ref 3]) (rest := []) rfl rfl rfl (fs_step (((FSX.rf (u := u) (F := F)).tr (FSX.of x2)).G hG)) ?_
    rintro _ G5 ⟨rfl, x6⟩
    refine (show Pv _ _ 20 [some (.ref u), some (.ref 3), some (.int w), some (.int (G1.1 3 7))] [] G5 Q from ?_)
    refine Pv.aload rfl rfl ?_
    refine Pv.iload rfl rfl ?_
    refine Pv.iload rfl rfl ?_
    refine Pv.lit rfl ?_
    refine Pv.callV (as := [.ref u, .int w, .int (G1.1 3 7), .int 0]) (rest := []) rfl rfl rfl (fs_add ((((FSX.rf (u := u) (F := F)).tr (FSX.of x2)).tr (FSX.of x6)).O hO) w (G1.1 3 7) 0) ?_
    rintro _ G7 ⟨⟨z9, rfl⟩, x8⟩
    refine (show Pv _ _ 27 [some (.ref u), some (.ref 3), some (.int w), some (.int (G1.1 3 7))] [.int z9] G7 Q from ?_)
    exact Pv.zret rfl (by rw [hQ]; exact ⟨⟨_, rfl⟩, ((((FSX.rf (u := u) (F := F)).tr (FSX.of x2)).tr (FSX.of x6)).tr (FSX.ou x8))⟩)
  · skip
    replace c4 : decide (z3 = 0) = true := by simpa using c4
    replace c4 := of_decide_eq_true c4
    refine Pv.lit rfl ?_
    exact Pv.zret rfl (by rw [hQ]; exact ⟨⟨_, rfl⟩, ((FSX.rf (u := u) (F := F)).tr (FSX.of x2))⟩)
set_option maxRecDepth 100000 in
set_option maxHeartbeats 4000000 in
theorem fs_compared {F : FW} {u : Nat} (hG : GW F) (hO : O3 F u) (w : Int32) : Pm Z_X5_readCompared [.ref u, .ref 3, .int w] F (fun v F' => (∃ z, v = some (.int z)) ∧ FSX u F F') := by
  refine Pm.of fun N => ?_
  obtain ⟨Q, hQ⟩ : ∃ Q : Option Value → FW → Prop, Q = (fun v F' => (∃ z, v = some (.int z)) ∧ FSX u F F') := ⟨_, rfl⟩
  rw [← hQ]
  refine (show Pv (ab_T (L_X5_readCompared Z_X9_step Z_X9_fail Z_X9_takeNumber Z_X5_addOp)) N 0 [some (.ref u), some (.ref 3), some (.int w), none, none] [] F Q from ?_)
  refine Pv.aload rfl rfl ?_
  refine Pv.callV (as := [.ref 3]) (rest := []) rfl rfl rfl (fs_step ((FSX.rf (u := u) (F := F)).G hG)) ?_
  rintro _ G1 ⟨rfl, x2⟩
  refine (show Pv _ _ 4 [some (.ref u), some (.ref 3), some (.int w), none, none] [] G1 Q from ?_)
  refine Pv.aload rfl rfl ?_
  refine Pv.getI (z := G1.1 3 5) rfl rfl (rfl) ?_
  refine Pv.istore (lo' := [some (.ref u), some (.ref 3), some (.int w), some (.int (G1.1 3 5)), none]) rfl rfl ?_
  refine Pv.iload rfl rfl ?_
  refine Pv.lit rfl ?_
  refine Pv.icmp rfl (fun c3 => ?_) (fun c3 => ?_)
  · skip
    replace c3 := of_decide_eq_true c3
    refine Pv.aload rfl rfl ?_
    refine Pv.lit rfl ?_
    refine Pv.lit rfl ?_
    refine Pv.callV (as := [.ref 3, .int 0, .int 999]) (rest := []) rfl rfl rfl (fs_num (((FSX.rf (u := u) (F := F)).tr (FSX.of x2)).G hG) 0 999) ?_
    rintro _ G4 ⟨⟨z6, rfl⟩, x5⟩
    refine (show Pv _ _ 41 [some (.ref u), some (.ref 3), some (.int w), some (.int (G1.1 3 5)), none] [.int z6] G4 Q from ?_)
    refine Pv.if0 rfl (fun c7 => ?_) (fun c7 => ?_)
    · skip
      replace c7 : decide (z6 = 0) = false := by simpa using c7
      replace c7 := of_decide_eq_false c7
      refine Pv.aload rfl rfl ?_
      refine Pv.getI (z := G4.1 3 7) rfl rfl (rfl) ?_
      refine Pv.istore (lo' := [some (.ref u), some (.ref 3), some (.int w), some (.int (G1.1 3 5)), some (.int (G4.1 3 7))]) rfl rfl ?_
      refine Pv.aload rfl rfl ?_
      refine Pv.callV (as := [.ref 3]) (rest := []) rfl rfl rfl (fs_step ((((FSX.rf (u := u) (F := F)).tr (FSX.of x2)).tr (FSX.of x5)).G hG)) ?_
      rintro _ G8 ⟨rfl, x9⟩
      refine (show Pv _ _ 56 [some (.ref u), some (.ref 3), some (.int w), some (.int (G1.1 3 5)), some (.int (G4.1 3 7))] [] G8 Q from ?_)
      refine Pv.aload rfl rfl ?_
      refine Pv.iload rfl rfl ?_
      refine Pv.iload rfl rfl ?_
      refine Pv.iload rfl rfl ?_
      refine Pv.callV (as := [.ref u, .int w, .int (G1.1 3 5), .int (G4.1 3 7)]) (rest := []) rfl rfl rfl (fs_add (((((FSX.rf (u := u) (F := F)).tr (FSX.of x2)).tr (FSX.of x5)).tr (FSX.of x9)).O hO) w (G1.1 3 5) (G4.1 3 7)) ?_
      rintro _ G10 ⟨⟨z12, rfl⟩, x11⟩
      refine (show Pv _ _ 64 [some (.ref u), some (.ref 3), some (.int w), some (.int (G1.1 3 5)), some (.int (G4.1 3 7))] [.int z12] G10 Q from ?_)
      exact Pv.zret rfl (by rw [hQ]; exact ⟨⟨_, rfl⟩, (((((FSX.rf (u := u) (F := F)).tr (FSX.of x2)).tr (FSX.of x5)).tr (FSX.of x9)).tr (FSX.ou x11))⟩)
    · skip
      replace c7 : decide (z6 = 0) = true := by simpa using c7
      replace c7 := of_decide_eq_true c7
      refine Pv.lit rfl ?_
      exact Pv.zret rfl (by rw [hQ]; exact ⟨⟨_, rfl⟩, (((FSX.rf (u := u) (F := F)).tr (FSX.of x2)).tr (FSX.of x5))⟩)
  · skip
    replace c3 := of_decide_eq_false c3
    refine Pv.iload rfl rfl ?_
    refine Pv.lit rfl ?_
    refine Pv.icmp rfl (fun c13 => ?_) (fun c13 => ?_)
    · skip
      replace c13 := of_decide_eq_true c13
      refine Pv.aload rfl rfl ?_
      refine Pv.lit rfl ?_
      refine Pv.lit rfl ?_
      refine Pv.callV (as := [.ref 3, .int 0, .int 999]) (rest := []) rfl rfl rfl (fs_num (((FSX.rf (u := u) (F := F)).tr (FSX.of x2)).G hG) 0 999) ?_
      rintro _ G14 ⟨⟨z16, rfl⟩, x15⟩
      refine (show Pv _ _ 41 [some (.ref u), some (.ref 3), some (.int w), some (.int (G1.1 3 5)), none] [.int z16] G14 Q from ?_)
      refine Pv.if0 rfl (fun c17 => ?_) (fun c17 => ?_)
      · skip
        replace c17 : decide (z16 = 0) = false := by simpa using c17
        replace c17 := of_decide_eq_false c17
        refine Pv.aload rfl rfl ?_
        refine Pv.getI (z := G14.1 3 7) rfl rfl (rfl) ?_
        refine Pv.istore (lo' := [some (.ref u), some (.ref 3), some (.int w), some (.int (G1.1 3 5)), some (.int (G14.1 3 7))]) rfl rfl ?_
        refine Pv.aload rfl rfl ?_
        refine Pv.callV (as := [.ref 3]) (rest := []) rfl rfl rfl (fs_step ((((FSX.rf (u := u) (F := F)).tr (FSX.of x2)).tr (FSX.of x15)).G hG)) ?_
        rintro _ G18 ⟨rfl, x19⟩
        refine (show Pv _ _ 56 [some (.ref u), some (.ref 3), some (.int w), some (.int (G1.1 3 5)), some (.int (G14.1 3 7))] [] G18 Q from ?_)
        refine Pv.aload rfl rfl ?_
        refine Pv.iload rfl rfl ?_
        refine Pv.iload rfl rfl ?_
        refine Pv.iload rfl rfl ?_
        refine Pv.callV (as := [.ref u, .int w, .int (G1.1 3 5), .int (G14.1 3 7)]) (rest := []) rfl rfl rfl (fs_add (((((FSX.rf (u := u) (F := F)).tr (FSX.of x2)).tr (FSX.of x15)).tr (FSX.of x19)).O hO) w (G1.1 3 5) (G14.1 3 7)) ?_
        rintro _ G20 ⟨⟨z22, rfl⟩, x21⟩
        refine (show Pv _ _ 64 [some (.ref u), some (.ref 3), some (.int w), some (.int (G1.1 3 5)), some (.int (G14.1 3 7))] [.int z22] G20 Q from ?_)
        exact Pv.zret rfl (by rw [hQ]; exact ⟨⟨_, rfl⟩, (((((FSX.rf (u := u) (F := F)).tr (FSX.of x2)).tr (FSX.of x15)).tr (FSX.of x19)).tr (FSX.ou x21))⟩)
      · skip
        replace c17 : decide (z16 = 0) = true := by simpa using c17
        replace c17 := of_decide_eq_true c17
        refine Pv.lit rfl ?_
        exact Pv.zret rfl (by rw [hQ]; exact ⟨⟨_, rfl⟩, (((FSX.rf (u := u) (F := F)).tr (FSX.of x2)).tr (FSX.of x15))⟩)
    · skip
      replace c13 := of_decide_eq_false c13
      refine Pv.iload rfl rfl ?_
      refine Pv.lit rfl ?_
      refine Pv.icmp rfl (fun c23 => ?_) (fun c23 => ?_)
      · skip
        replace c23 := of_decide_eq_true c23
        refine Pv.aload rfl rfl ?_
        refine Pv.lit rfl ?_
        refine Pv.lit rfl ?_
        refine Pv.callV (as := [.ref 3, .int 0, .int 999]) (rest := []) rfl rfl rfl (fs_num (((FSX.rf (u := u) (F := F)).tr (FSX.of x2)).G hG) 0 999) ?_
        rintro _ G24 ⟨⟨z26, rfl⟩, x25⟩
        refine (show Pv _ _ 41 [some (.ref u), some (.ref 3), some (.int w), some (.int (G1.1 3 5)), none] [.int z26] G24 Q from ?_)
        refine Pv.if0 rfl (fun c27 => ?_) (fun c27 => ?_)
        · skip
          replace c27 : decide (z26 = 0) = false := by simpa using c27
          replace c27 := of_decide_eq_false c27
          refine Pv.aload rfl rfl ?_
          refine Pv.getI (z := G24.1 3 7) rfl rfl (rfl) ?_
          refine Pv.istore (lo' := [some (.ref u), some (.ref 3), some (.int w), some (.int (G1.1 3 5)), some (.int (G24.1 3 7))]) rfl rfl ?_
          refine Pv.aload rfl rfl ?_
          refine Pv.callV (as := [.ref 3]) (rest := []) rfl rfl rfl (fs_step ((((FSX.rf (u := u) (F := F)).tr (FSX.of x2)).tr (FSX.of x25)).G hG)) ?_
          rintro _ G28 ⟨rfl, x29⟩
          refine (show Pv _ _ 56 [some (.ref u), some (.ref 3), some (.int w), some (.int (G1.1 3 5)), some (.int (G24.1 3 7))] [] G28 Q from ?_)
          refine Pv.aload rfl rfl ?_
          refine Pv.iload rfl rfl ?_
          refine Pv.iload rfl rfl ?_
          refine Pv.iload rfl rfl ?_
          refine Pv.callV (as := [.ref u, .int w, .int (G1.1 3 5), .int (G24.1 3 7)]) (rest := []) rfl rfl rfl (fs_add (((((FSX.rf (u := u) (F := F)).tr (FSX.of x2)).tr (FSX.of x25)).tr (FSX.of x29)).O hO) w (G1.1 3 5) (G24.1 3 7)) ?_
          rintro _ G30 ⟨⟨z32, rfl⟩, x31⟩
          refine (show Pv _ _ 64 [some (.ref u), some (.ref 3), some (.int w), some (.int (G1.1 3 5)), some (.int (G24.1 3 7))] [.int z32] G30 Q from ?_)
          exact Pv.zret rfl (by rw [hQ]; exact ⟨⟨_, rfl⟩, (((((FSX.rf (u := u) (F := F)).tr (FSX.of x2)).tr (FSX.of x25)).tr (FSX.of x29)).tr (FSX.ou x31))⟩)
        · skip
          replace c27 : decide (z26 = 0) = true := by simpa using c27
          replace c27 := of_decide_eq_true c27
          refine Pv.lit rfl ?_
          exact Pv.zret rfl (by rw [hQ]; exact ⟨⟨_, rfl⟩, (((FSX.rf (u := u) (F := F)).tr (FSX.of x2)).tr (FSX.of x25))⟩)
      · skip
        replace c23 := of_decide_eq_false c23
        refine Pv.aload rfl rfl ?_
        refine Pv.lit rfl ?_
        refine Pv.callVI (as := [.ref 3, .int 1]) (rest := []) (z := 0) rfl rfl rfl (c_fail (c := 1)) ?_
        exact Pv.zret rfl (by rw [hQ]; exact ⟨⟨_, rfl⟩, (((FSX.rf (u := u) (F := F)).tr (FSX.of x2)).p3)⟩)
set_option maxRecDepth 100000 in
set_option maxHeartbeats 4000000 in
theorem fs_bracket {xC : List Value → ab_H → Option ab_O} (hC : FSP xC) {F : FW} {u : Nat} (hG : GW F) (hO : O3 F u) (w : Int32) : Pm (ab_X (ab_T (L_X5_readBracket Z_X9_step xC Z_X9_fail)) 3) [.ref u, .ref 3, .int w] F (fun v F' => (∃ z, v = some (.int z)) ∧ FSX u F F') := by
  refine Pm.of fun N => ?_
  obtain ⟨Q, hQ⟩ : ∃ Q : Option Value → FW → Prop, Q = (fun v F' => (∃ z, v = some (.int z)) ∧ FSX u F F') := ⟨_, rfl⟩
  rw [← hQ]
  refine (show Pv (ab_T (L_X5_readBracket Z_X9_step xC Z_X9_fail)) N 0 [some (.ref u), some (.ref 3), some (.int w)] [] F Q from ?_)
  refine Pv.aload rfl rfl ?_
  refine Pv.callV (as := [.ref 3]) (rest := []) rfl rfl rfl (fs_step ((FSX.rf (u := u) (F := F)).G hG)) ?_
  rintro _ G1 ⟨rfl, x2⟩
  refine (show Pv _ _ 4 [some (.ref u), some (.ref 3), some (.int w)] [] G1 Q from ?_)
  refine Pv.aload rfl rfl ?_
  refine Pv.aload rfl rfl ?_
  refine Pv.iload rfl rfl ?_
  refine Pv.lit rfl ?_
  refine Pv.bin (z := w + 1) rfl (rfl) ?_
  refine Pv.callV (as := [.ref u, .ref 3, .int (w + 1)]) (rest := []) rfl rfl rfl (hC u _ (w + 1) (((FSX.rf (u := u) (F := F)).tr (FSX.of x2)).G hG) (((FSX.rf (u := u) (F := F)).tr (FSX.of x2)).O hO)) ?_
  rintro _ G3 ⟨⟨z5, rfl⟩, x4⟩
  refine (show Pv _ _ 12 [some (.ref u), some (.ref 3), some (.int w)] [.int z5] G3 Q from ?_)
  refine Pv.if0 rfl (fun c6 => ?_) (fun c6 => ?_)
  · skip
    replace c6 : decide (z5 = 0) = false := by simpa using c6
    replace c6 := of_decide_eq_false c6
    refine Pv.aload rfl rfl ?_
    refine Pv.getI (z := G3.1 3 5) rfl rfl (rfl) ?_
    refine Pv.lit rfl ?_
    refine Pv.icmp rfl (fun c7 => ?_) (fun c7 => ?_)
    · skip
      replace c7 := of_decide_eq_true c7
      refine Pv.aload rfl rfl ?_
      refine Pv.callV (as := [.ref 3]) (rest := []) rfl rfl rfl (fs_step ((((FSX.rf (u := u) (F := F)).tr (FSX.of x2)).tr x4).G hG)) ?_
      rintro _ G8 ⟨rfl, x9⟩
      refine (show Pv _ _ 36 [some (.ref u), some (.ref 3), some (.int w)] [] G8 Q from ?_)
      refine Pv.lit rfl ?_
      exact Pv.zret rfl (by rw [hQ]; exact ⟨⟨_, rfl⟩, ((((FSX.rf (u := u) (F := F)).tr (FSX.of x2)).tr x4).tr (FSX.of x9))⟩)
    · skip
      replace c7 := of_decide_eq_false c7
      refine Pv.aload rfl rfl ?_
      refine Pv.lit rfl ?_
      refine Pv.callVI (as := [.ref 3, .int 1]) (rest := []) (z := 0) rfl rfl rfl (c_fail (c := 1)) ?_
      exact Pv.zret rfl (by rw [hQ]; exact ⟨⟨_, rfl⟩, ((((FSX.rf (u := u) (F := F)).tr (FSX.of x2)).tr x4).p3)⟩)
  · skip
    replace c6 : decide (z5 = 0) = true := by simpa using c6
    replace c6 := of_decide_eq_true c6
    refine Pv.lit rfl ?_
    exact Pv.zret rfl (by rw [hQ]; exact ⟨⟨_, rfl⟩, (((FSX.rf (u := u) (F := F)).tr (FSX.of x2)).tr x4)⟩)
set_option maxRecDepth 100000 in
set_option maxHeartbeats 4000000 in
theorem fs_one {xB : List Value → ab_H → Option ab_O} (hB : FSP xB) {xO : List Value → ab_H → Option ab_O} (h1 : FSP xO) {F : FW} {u : Nat} (hG : GW F) (hO : O3 F u) (w : Int32) : Pm (ab_X (ab_T (L_X5_readOne Z_X9_fail xB Z_X9_step xO Z_X5_addOp Z_X5_readOnShore Z_X5_readCompared)) 6) [.ref u, .ref 3, .int w] F (fun v F' => (∃ z, v = some (.int z)) ∧ FSX u F F') := by
  refine Pm.of fun N => ?_
  obtain ⟨Q, hQ⟩ : ∃ Q : Option Value → FW → Prop, Q = (fun v F' => (∃ z, v = some (.int z)) ∧ FSX u F F') := ⟨_, rfl⟩
  rw [← hQ]
  refine (show Pv (ab_T (L_X5_readOne Z_X9_fail xB Z_X9_step xO Z_X5_addOp Z_X5_readOnShore Z_X5_readCompared)) N 0 [some (.ref u), some (.ref 3), some (.int w), none, none, none] [] F Q from ?_)
  refine Pv.aload rfl rfl ?_
  refine Pv.getI (z := F.1 3 5) rfl rfl (rfl) ?_
  refine Pv.lit rfl ?_
  refine Pv.icmp rfl (fun c1 => ?_) (fun c1 => ?_)
  · skip
    replace c1 : decide (F.1 3 5 = 40) = false := by simpa using c1
    replace c1 := of_decide_eq_false c1
    refine Pv.lit rfl ?_
    refine Pv.istore (lo' := [some (.ref u), some (.ref 3), some (.int w), some (.int 0), none, none]) rfl rfl ?_
    refine Pv.iload rfl rfl ?_
    refine Pv.if0 rfl (fun c2 => ?_) (fun c2 => ?_)
    · skip
      replace c2 : decide ((0 : Int32) = 0) = false := by simpa using c2
      replace c2 := mt (i_eq (a := 0) (b := 0) (by omega) (by omega)).mpr (of_decide_eq_false c2)
      omega
    · skip
      replace c2 : decide ((0 : Int32) = 0) = true := by simpa using c2
      replace c2 := (i_eq (a := 0) (b := 0) (by omega) (by omega)).mp (of_decide_eq_true c2)
      refine Pv.aload rfl rfl ?_
      refine Pv.getI (z := F.1 3 5) rfl rfl (rfl) ?_
      refine Pv.lit rfl ?_
      refine Pv.icmp rfl (fun c3 => ?_) (fun c3 => ?_)
      · skip
        replace c3 := of_decide_eq_true c3
        refine Pv.lit rfl ?_
        refine Pv.istore (lo' := [some (.ref u), some (.ref 3), some (.int w), some (.int 0), some (.int 0), none]) rfl rfl ?_
        refine Pv.iload rfl rfl ?_
        refine Pv.if0 rfl (fun c4 => ?_) (fun c4 => ?_)
        · skip
          replace c4 : decide ((0 : Int32) = 0) = false := by simpa using c4
          replace c4 := mt (i_eq (a := 0) (b := 0) (by omega) (by omega)).mpr (of_decide_eq_false c4)
          omega
        · skip
          replace c4 : decide ((0 : Int32) = 0) = true := by simpa using c4
          replace c4 := (i_eq (a := 0) (b := 0) (by omega) (by omega)).mp (of_decide_eq_true c4)
          refine Pv.aload rfl rfl ?_
          refine Pv.lit rfl ?_
          refine Pv.callVI (as := [.ref 3, .int 1]) (rest := []) (z := 0) rfl rfl rfl (c_fail (c := 1)) ?_
          exact Pv.zret rfl (by rw [hQ]; exact ⟨⟨_, rfl⟩, ((FSX.rf (u := u) (F := F)).p3)⟩)
      · skip
        replace c3 := of_decide_eq_false c3
        refine Pv.aload rfl rfl ?_
        refine Pv.getI (z := F.1 3 5) rfl rfl (rfl) ?_
        refine Pv.lit rfl ?_
        refine Pv.icmp rfl (fun c5 => ?_) (fun c5 => ?_)
        · skip
          replace c5 := of_decide_eq_true c5
          refine Pv.lit rfl ?_
          refine Pv.istore (lo' := [some (.ref u), some (.ref 3), some (.int w), some (.int 0), some (.int 0), none]) rfl rfl ?_
          refine Pv.iload rfl rfl ?_
          refine Pv.if0 rfl (fun c6 => ?_) (fun c6 => ?_)
          · skip
            replace c6 : decide ((0 : Int32) = 0) = false := by simpa using c6
            replace c6 := mt (i_eq (a := 0) (b := 0) (by omega) (by omega)).mpr (of_decide_eq_false c6)
            omega
          · skip
            replace c6 : decide ((0 : Int32) = 0) = true := by simpa using c6
            replace c6 := (i_eq (a := 0) (b := 0) (by omega) (by omega)).mp (of_decide_eq_true c6)
            refine Pv.aload rfl rfl ?_
            refine Pv.lit rfl ?_
            refine Pv.callVI (as := [.ref 3, .int 1]) (rest := []) (z := 0) rfl rfl rfl (c_fail (c := 1)) ?_
            exact Pv.zret rfl (by rw [hQ]; exact ⟨⟨_, rfl⟩, ((FSX.rf (u := u) (F := F)).p3)⟩)
        · skip
          replace c5 := of_decide_eq_false c5
          refine Pv.lit rfl ?_
          refine Pv.goto rfl ?_
          refine Pv.istore (lo' := [some (.ref u), some (.ref 3), some (.int w), some (.int 0), some (.int 1), none]) rfl rfl ?_
          refine Pv.iload rfl rfl ?_
          refine Pv.if0 rfl (fun c7 => ?_) (fun c7 => ?_)
          · skip
            replace c7 : decide ((1 : Int32) = 0) = false := by simpa using c7
            replace c7 := mt (i_eq (a := 1) (b := 0) (by omega) (by omega)).mpr (of_decide_eq_false c7)
            refine Pv.aload rfl rfl ?_
            refine Pv.getI (z := F.1 u 4) rfl rfl (rfl) ?_
            refine Pv.lit rfl ?_
            refine Pv.icmp rfl (fun c8 => ?_) (fun c8 => ?_)
            · skip
              replace c8 := of_decide_eq_true c8
              refine Pv.aload rfl rfl ?_
              refine Pv.lit rfl ?_
              refine Pv.callVI (as := [.ref 3, .int 4]) (rest := []) (z := 0) rfl rfl rfl (c_fail (c := 4)) ?_
              exact Pv.zret rfl (by rw [hQ]; exact ⟨⟨_, rfl⟩, ((FSX.rf (u := u) (F := F)).p3)⟩)
            · skip
              replace c8 := of_decide_eq_false c8
              refine Pv.iload rfl rfl ?_
              refine Pv.lit rfl ?_
              refine Pv.icmp rfl (fun c9 => ?_) (fun c9 => ?_)
              · skip
                replace c9 := of_decide_eq_true c9
                refine Pv.aload rfl rfl ?_
                refine Pv.dup rfl ?_
                refine Pv.getI (z := F.1 u 4) rfl rfl (rfl) ?_
                refine Pv.lit rfl ?_
                refine Pv.bin (z := (F.1 u 4) + 1) rfl (rfl) ?_
                refine Pv.putI rfl rfl ?_
                refine Pv.iload rfl rfl ?_
                refine Pv.if0 rfl (fun c10 => ?_) (fun c10 => ?_)
                · skip
                  replace c10 := (i_eq (a := 0) (b := 0) (by omega) (by omega)).mp (of_decide_eq_true c10)
                  refine Pv.aload rfl rfl ?_
                  refine Pv.getI (z := (fp F u 4 ((F.1 u 4) + 1)).1 3 5) rfl rfl (rfl) ?_
                  refine Pv.istore (lo' := [some (.ref u), some (.ref 3), some (.int w), some (.int 0), some (.int 1), some (.int ((fp F u 4 ((F.1 u 4) + 1)).1 3 5))]) rfl rfl ?_
                  refine Pv.iload rfl rfl ?_
                  refine Pv.lit rfl ?_
                  refine Pv.icmp rfl (fun c11 => ?_) (fun c11 => ?_)
                  · skip
                    replace c11 : decide ((fp F u 4 ((F.1 u 4) + 1)).1 3 5 = 79) = false := by simpa using c11
                    replace c11 := of_decide_eq_false c11
                    refine Pv.iload rfl rfl ?_
                    refine Pv.lit rfl ?_
                    refine Pv.icmp rfl (fun c12 => ?_) (fun c12 => ?_)
                    · skip
                      replace c12 := of_decide_eq_true c12
                      refine Pv.aload rfl rfl ?_
                      refine Pv.aload rfl rfl ?_
                      refine Pv.iload rfl rfl ?_
                      refine Pv.callV (as := [.ref u, .ref 3, .int ((fp F u 4 ((F.1 u 4) + 1)).1 3 5)]) (rest := []) rfl rfl rfl (fs_compared (((FSX.rf (u := u) (F := F)).pu).G hG) (((FSX.rf (u := u) (F := F)).pu).O hO) ((fp F u 4 ((F.1 u 4) + 1)).1 3 5)) ?_
                      rintro _ G13 ⟨⟨z15, rfl⟩, x14⟩
                      refine (show Pv _ _ 166 [some (.ref u), some (.ref 3), some (.int w), some (.int 0), some (.int 1), some (.int ((fp F u 4 ((F.1 u 4) + 1)).1 3 5))] [.int z15] G13 Q from ?_)
                      exact Pv.zret rfl (by rw [hQ]; exact ⟨⟨_, rfl⟩, (((FSX.rf (u := u) (F := F)).pu).tr x14)⟩)
                    · skip
                      replace c12 := of_decide_eq_false c12
                      refine Pv.aload rfl rfl ?_
                      refine Pv.aload rfl rfl ?_
                      refine Pv.iload rfl rfl ?_
                      refine Pv.callV (as := [.ref u, .ref 3, .int ((fp F u 4 ((F.1 u 4) + 1)).1 3 5)]) (rest := []) rfl rfl rfl (fs_onShore (((FSX.rf (u := u) (F := F)).pu).G hG) (((FSX.rf (u := u) (F := F)).pu).O hO) ((fp F u 4 ((F.1 u 4) + 1)).1 3 5)) ?_
                      rintro _ G16 ⟨⟨z18, rfl⟩, x17⟩
                      refine (show Pv _ _ 156 [some (.ref u), some (.ref 3), some (.int w), some (.int 0), some (.int 1), some (.int ((fp F u 4 ((F.1 u 4) + 1)).1 3 5))] [.int z18] G16 Q from ?_)
                      refine Pv.goto rfl ?_
                      exact Pv.zret rfl (by rw [hQ]; exact ⟨⟨_, rfl⟩, (((FSX.rf (u := u) (F := F)).pu).tr x17)⟩)
                  · skip
                    replace c11 : decide ((fp F u 4 ((F.1 u 4) + 1)).1 3 5 = 79) = true := by simpa using c11
                    replace c11 := of_decide_eq_true c11
                    refine Pv.aload rfl rfl ?_
                    refine Pv.callV (as := [.ref 3]) (rest := []) rfl rfl rfl (fs_step (((FSX.rf (u := u) (F := F)).pu).G hG)) ?_
                    rintro _ G19 ⟨rfl, x20⟩
                    refine (show Pv _ _ 114 [some (.ref u), some (.ref 3), some (.int w), some (.int 0), some (.int 1), some (.int ((fp F u 4 ((F.1 u 4) + 1)).1 3 5))] [] G19 Q from ?_)
                    refine Pv.aload rfl rfl ?_
                    refine Pv.aload rfl rfl ?_
                    refine Pv.iload rfl rfl ?_
                    refine Pv.lit rfl ?_
                    refine Pv.bin (z := w + 1) rfl (rfl) ?_
                    refine Pv.callV (as := [.ref u, .ref 3, .int (w + 1)]) (rest := []) rfl rfl rfl (h1 u _ (w + 1) ((((FSX.rf (u := u) (F := F)).pu).tr (FSX.of x20)).G hG) ((((FSX.rf (u := u) (F := F)).pu).tr (FSX.of x20)).O hO)) ?_
                    rintro _ G21 ⟨⟨z23, rfl⟩, x22⟩
                    refine (show Pv _ _ 122 [some (.ref u), some (.ref 3), some (.int w), some (.int 0), some (.int 1), some (.int ((fp F u 4 ((F.1 u 4) + 1)).1 3 5))] [.int z23] G21 Q from ?_)
                    refine Pv.if0 rfl (fun c24 => ?_) (fun c24 => ?_)
                    · skip
                      replace c24 := of_decide_eq_true c24
                      refine Pv.lit rfl ?_
                      exact Pv.zret rfl (by rw [hQ]; exact ⟨⟨_, rfl⟩, ((((FSX.rf (u := u) (F := F)).pu).tr (FSX.of x20)).tr x22)⟩)
                    · skip
                      replace c24 := of_decide_eq_false c24
                      refine Pv.aload rfl rfl ?_
                      refine Pv.lit rfl ?_
                      refine Pv.lit rfl ?_
                      refine Pv.lit rfl ?_
                      refine Pv.callV (as := [.ref u, .int 79, .int 0, .int 0]) (rest := []) rfl rfl rfl (fs_add (((((FSX.rf (u := u) (F := F)).pu).tr (FSX.of x20)).tr x22).O hO) 79 0 0) ?_
                      rintro _ G25 ⟨⟨z27, rfl⟩, x26⟩
                      refine (show Pv _ _ 133 [some (.ref u), some (.ref 3), some (.int w), some (.int 0), some (.int 1), some (.int ((fp F u 4 ((F.1 u 4) + 1)).1 3 5))] [.int z27] G25 Q from ?_)
                      refine Pv.if0 rfl (fun c28 => ?_) (fun c28 => ?_)
                      · skip
                        replace c28 := of_decide_eq_true c28
                        refine Pv.lit rfl ?_
                        exact Pv.zret rfl (by rw [hQ]; exact ⟨⟨_, rfl⟩, (((((FSX.rf (u := u) (F := F)).pu).tr (FSX.of x20)).tr x22).tr (FSX.ou x26))⟩)
                      · skip
                        replace c28 := of_decide_eq_false c28
                        refine Pv.lit rfl ?_
                        refine Pv.goto rfl ?_
                        exact Pv.zret rfl (by rw [hQ]; exact ⟨⟨_, rfl⟩, (((((FSX.rf (u := u) (F := F)).pu).tr (FSX.of x20)).tr x22).tr (FSX.ou x26))⟩)
                · skip
                  replace c10 := mt (i_eq (a := 0) (b := 0) (by omega) (by omega)).mpr (of_decide_eq_false c10)
                  omega
              · skip
                replace c9 := of_decide_eq_false c9
                refine Pv.aload rfl rfl ?_
                refine Pv.lit rfl ?_
                refine Pv.callVI (as := [.ref 3, .int 4]) (rest := []) (z := 0) rfl rfl rfl (c_fail (c := 4)) ?_
                exact Pv.zret rfl (by rw [hQ]; exact ⟨⟨_, rfl⟩, ((FSX.rf (u := u) (F := F)).p3)⟩)
          · skip
            replace c7 : decide ((1 : Int32) = 0) = true := by simpa using c7
            replace c7 := (i_eq (a := 1) (b := 0) (by omega) (by omega)).mp (of_decide_eq_true c7)
            omega
  · skip
    replace c1 : decide (F.1 3 5 = 40) = true := by simpa using c1
    replace c1 := of_decide_eq_true c1
    refine Pv.lit rfl ?_
    refine Pv.goto rfl ?_
    refine Pv.istore (lo' := [some (.ref u), some (.ref 3), some (.int w), some (.int 1), none, none]) rfl rfl ?_
    refine Pv.iload rfl rfl ?_
    refine Pv.if0 rfl (fun c29 => ?_) (fun c29 => ?_)
    · skip
      replace c29 : decide ((1 : Int32) = 0) = false := by simpa using c29
      replace c29 := mt (i_eq (a := 1) (b := 0) (by omega) (by omega)).mpr (of_decide_eq_false c29)
      refine Pv.lit rfl ?_
      refine Pv.goto rfl ?_
      refine Pv.istore (lo' := [some (.ref u), some (.ref 3), some (.int w), some (.int 1), some (.int 1), none]) rfl rfl ?_
      refine Pv.iload rfl rfl ?_
      refine Pv.if0 rfl (fun c30 => ?_) (fun c30 => ?_)
      · skip
        replace c30 : decide ((1 : Int32) = 0) = false := by simpa using c30
        replace c30 := mt (i_eq (a := 1) (b := 0) (by omega) (by omega)).mpr (of_decide_eq_false c30)
        refine Pv.aload rfl rfl ?_
        refine Pv.getI (z := F.1 u 4) rfl rfl (rfl) ?_
        refine Pv.lit rfl ?_
        refine Pv.icmp rfl (fun c31 => ?_) (fun c31 => ?_)
        · skip
          replace c31 := of_decide_eq_true c31
          refine Pv.aload rfl rfl ?_
          refine Pv.lit rfl ?_
          refine Pv.callVI (as := [.ref 3, .int 4]) (rest := []) (z := 0) rfl rfl rfl (c_fail (c := 4)) ?_
          exact Pv.zret rfl (by rw [hQ]; exact ⟨⟨_, rfl⟩, ((FSX.rf (u := u) (F := F)).p3)⟩)
        · skip
          replace c31 := of_decide_eq_false c31
          refine Pv.iload rfl rfl ?_
          refine Pv.lit rfl ?_
          refine Pv.icmp rfl (fun c32 => ?_) (fun c32 => ?_)
          · skip
            replace c32 := of_decide_eq_true c32
            refine Pv.aload rfl rfl ?_
            refine Pv.dup rfl ?_
            refine Pv.getI (z := F.1 u 4) rfl rfl (rfl) ?_
            refine Pv.lit rfl ?_
            refine Pv.bin (z := (F.1 u 4) + 1) rfl (rfl) ?_
            refine Pv.putI rfl rfl ?_
            refine Pv.iload rfl rfl ?_
            refine Pv.if0 rfl (fun c33 => ?_) (fun c33 => ?_)
            · skip
              replace c33 := (i_eq (a := 1) (b := 0) (by omega) (by omega)).mp (of_decide_eq_true c33)
              omega
            · skip
              replace c33 := mt (i_eq (a := 1) (b := 0) (by omega) (by omega)).mpr (of_decide_eq_false c33)
              refine Pv.aload rfl rfl ?_
              refine Pv.aload rfl rfl ?_
              refine Pv.iload rfl rfl ?_
              refine Pv.callV (as := [.ref u, .ref 3, .int w]) (rest := []) rfl rfl rfl (hB u _ w (((FSX.rf (u := u) (F := F)).pu).G hG) (((FSX.rf (u := u) (F := F)).pu).O hO)) ?_
              rintro _ G34 ⟨⟨z36, rfl⟩, x35⟩
              refine (show Pv _ _ 96 [some (.ref u), some (.ref 3), some (.int w), some (.int 1), some (.int 1), none] [.int z36] G34 Q from ?_)
              exact Pv.zret rfl (by rw [hQ]; exact ⟨⟨_, rfl⟩, (((FSX.rf (u := u) (F := F)).pu).tr x35)⟩)
          · skip
            replace c32 := of_decide_eq_false c32
            refine Pv.aload rfl rfl ?_
            refine Pv.lit rfl ?_
            refine Pv.callVI (as := [.ref 3, .int 4]) (rest := []) (z := 0) rfl rfl rfl (c_fail (c := 4)) ?_
            exact Pv.zret rfl (by rw [hQ]; exact ⟨⟨_, rfl⟩, ((FSX.rf (u := u) (F := F)).p3)⟩)
      · skip
        replace c30 : decide ((1 : Int32) = 0) = true := by simpa using c30
        replace c30 := (i_eq (a := 1) (b := 0) (by omega) (by omega)).mp (of_decide_eq_true c30)
        omega
    · skip
      replace c29 : decide ((1 : Int32) = 0) = true := by simpa using c29
      replace c29 := (i_eq (a := 1) (b := 0) (by omega) (by omega)).mp (of_decide_eq_true c29)
      omega
set_option maxRecDepth 100000 in
set_option maxHeartbeats 4000000 in
theorem fs_all {xO : List Value → ab_H → Option ab_O} (h1 : FSP xO) {F : FW} {u : Nat} (hG : GW F) (hO : O3 F u) (w : Int32) : Pm (ab_X (ab_T (L_X5_readAll xO Z_X9_step Z_X5_addOp)) 4) [.ref u, .ref 3, .int w] F (fun v F' => (∃ z, v = some (.int z)) ∧ FSX u F F') := by
  refine Pm.of fun N => ?_
  obtain ⟨Q, hQ⟩ : ∃ Q : Option Value → FW → Prop, Q = (fun v F' => (∃ z, v = some (.int z)) ∧ FSX u F F') := ⟨_, rfl⟩
  rw [← hQ]
  refine (show Pv (ab_T (L_X5_readAll xO Z_X9_step Z_X5_addOp)) N 0 [some (.ref u), some (.ref 3), some (.int w), none] [] F Q from ?_)
  refine Pv.aload rfl rfl ?_
  refine Pv.aload rfl rfl ?_
  refine Pv.iload rfl rfl ?_
  refine Pv.callV (as := [.ref u, .ref 3, .int w]) (rest := []) rfl rfl rfl (h1 u _ w ((FSX.rf (u := u) (F := F)).G hG) ((FSX.rf (u := u) (F := F)).O hO)) ?_
  rintro _ G1 ⟨⟨z3, rfl⟩, x2⟩
  refine (show Pv _ _ 6 [some (.ref u), some (.ref 3), some (.int w), none] [.int z3] G1 Q from ?_)
  refine Pv.if0 rfl (fun c4 => ?_) (fun c4 => ?_)
  · skip
    replace c4 : decide (z3 = 0) = false := by simpa using c4
    replace c4 := of_decide_eq_false c4
    refine Pv.lit rfl ?_
    refine Pv.istore (lo' := [some (.ref u), some (.ref 3), some (.int w), some (.int 0)]) rfl rfl ?_
    refine Pv.lp (ι := Nat × FW) (lof := fun ⟨k, G⟩ => [some (.ref u), some (.ref 3), some (.int w), some (.int (Int32.ofNat k))]) (Ff := fun ⟨k, G⟩ => G) (P := fun ⟨k, G⟩ => k ≤ 20 ∧ FSX u F G) ?_ (0, G1) (⟨by omega, ((FSX.rf (u := u) (F := F)).tr x2)⟩)
    rintro N5 hN6 ⟨k, G⟩ hi7 ih8
    refine (show Pv _ _ 13 [some (.ref u), some (.ref 3), some (.int w), some (.int (Int32.ofNat k))] [] G Q from ?_)
    obtain ⟨hk, hx⟩ := hi7
    refine Pv.iloadS rfl rfl ?_
    refine Pv.lit rfl ?_
    refine Pv.icmp rfl (fun c9 => ?_) (fun c9 => ?_)
    · skip
      replace c9 := (i_le (a := 20) (b := k) (by omega) (by omega)).mp (of_decide_eq_true c9)
      refine Pv.lit rfl ?_
      exact Pv.zret rfl (by rw [hQ]; exact ⟨⟨_, rfl⟩, hx⟩)
    · skip
      replace c9 := mt (i_le (a := 20) (b := k) (by omega) (by omega)).mpr (of_decide_eq_false c9)
      refine Pv.aload rfl rfl ?_
      refine Pv.getI (z := G.1 3 5) rfl rfl (rfl) ?_
      refine Pv.lit rfl ?_
      refine Pv.icmp rfl (fun c10 => ?_) (fun c10 => ?_)
      · skip
        replace c10 : decide (G.1 3 5 = 78) = false := by simpa using c10
        replace c10 := of_decide_eq_false c10
        refine Pv.lit rfl ?_
        exact Pv.zret rfl (by rw [hQ]; exact ⟨⟨_, rfl⟩, hx⟩)
      · skip
        replace c10 : decide (G.1 3 5 = 78) = true := by simpa using c10
        replace c10 := of_decide_eq_true c10
        refine Pv.aload rfl rfl ?_
        refine Pv.callV (as := [.ref 3]) (rest := []) rfl rfl rfl (fs_step (hx.G hG)) ?_
        rintro _ G11 ⟨rfl, x12⟩
        refine (show Pv _ _ 32 [some (.ref u), some (.ref 3), some (.int w), some (.int (Int32.ofNat k))] [] G11 Q from ?_)
        refine Pv.aload rfl rfl ?_
        refine Pv.aload rfl rfl ?_
        refine Pv.iload rfl rfl ?_
        refine Pv.callV (as := [.ref u, .ref 3, .int w]) (rest := []) rfl rfl rfl (h1 u _ w ((hx.tr (FSX.of x12)).G hG) ((hx.tr (FSX.of x12)).O hO)) ?_
        rintro _ G13 ⟨⟨z15, rfl⟩, x14⟩
        refine (show Pv _ _ 38 [some (.ref u), some (.ref 3), some (.int w), some (.int (Int32.ofNat k))] [.int z15] G13 Q from ?_)
        refine Pv.if0 rfl (fun c16 => ?_) (fun c16 => ?_)
        · skip
          replace c16 := of_decide_eq_true c16
          refine Pv.lit rfl ?_
          exact Pv.zret rfl (by rw [hQ]; exact ⟨⟨_, rfl⟩, ((hx.tr (FSX.of x12)).tr x14)⟩)
        · skip
          replace c16 := of_decide_eq_false c16
          refine Pv.aload rfl rfl ?_
          refine Pv.lit rfl ?_
          refine Pv.lit rfl ?_
          refine Pv.lit rfl ?_
          refine Pv.callV (as := [.ref u, .int 78, .int 0, .int 0]) (rest := []) rfl rfl rfl (fs_add (((hx.tr (FSX.of x12)).tr x14).O hO) 78 0 0) ?_
          rintro _ G17 ⟨⟨z19, rfl⟩, x18⟩
          refine (show Pv _ _ 49 [some (.ref u), some (.ref 3), some (.int w), some (.int (Int32.ofNat k))] [.int z19] G17 Q from ?_)
          refine Pv.if0 rfl (fun c20 => ?_) (fun c20 => ?_)
          · skip
            replace c20 : decide (z19 = 0) = false := by simpa using c20
            replace c20 := of_decide_eq_false c20
            refine Pv.iinc (y := Int32.ofNat (k + 1)) (lo' := [some (.ref u), some (.ref 3), some (.int w), some (.int (Int32.ofNat (k + 1)))]) rfl rfl (i_add k 1) rfl ?_
            refine Pv.goto rfl ?_
            exact ih8 (k + 1, G17) (⟨by omega, (((hx.tr (FSX.of x12)).tr x14).tr (FSX.ou x18))⟩)
          · skip
            replace c20 : decide (z19 = 0) = true := by simpa using c20
            replace c20 := of_decide_eq_true c20
            refine Pv.lit rfl ?_
            exact Pv.zret rfl (by rw [hQ]; exact ⟨⟨_, rfl⟩, (((hx.tr (FSX.of x12)).tr x14).tr (FSX.ou x18))⟩)
  · skip
    replace c4 : decide (z3 = 0) = true := by simpa using c4
    replace c4 := of_decide_eq_true c4
    refine Pv.lit rfl ?_
    exact Pv.zret rfl (by rw [hQ]; exact ⟨⟨_, rfl⟩, ((FSX.rf (u := u) (F := F)).tr x2)⟩)
set_option maxRecDepth 100000 in
set_option maxHeartbeats 4000000 in
theorem fs_cond {xA : List Value → ab_H → Option ab_O} (hA : FSP xA) {F : FW} {u : Nat} (hG : GW F) (hO : O3 F u) (w : Int32) : Pm (ab_X (ab_T (L_X5_readCond xA Z_X9_step Z_X5_addOp)) 4) [.ref u, .ref 3, .int w] F (fun v F' => (∃ z, v = some (.int z)) ∧ FSX u F F') := by
  refine Pm.of fun N => ?_
  obtain ⟨Q, hQ⟩ : ∃ Q : Option Value → FW → Prop, Q = (fun v F' => (∃ z, v = some (.int z)) ∧ FSX u F F') := ⟨_, rfl⟩
  rw [← hQ]
  refine (show Pv (ab_T (L_X5_readCond xA Z_X9_step Z_X5_addOp)) N 0 [some (.ref u), some (.ref 3), some (.int w), none] [] F Q from ?_)
  refine Pv.aload rfl rfl ?_
  refine Pv.aload rfl rfl ?_
  refine Pv.iload rfl rfl ?_
  refine Pv.callV (as := [.ref u, .ref 3, .int w]) (rest := []) rfl rfl rfl (hA u _ w ((FSX.rf (u := u) (F := F)).G hG) ((FSX.rf (u := u) (F := F)).O hO)) ?_
  rintro _ G1 ⟨⟨z3, rfl⟩, x2⟩
  refine (show Pv _ _ 6 [some (.ref u), some (.ref 3), some (.int w), none] [.int z3] G1 Q from ?_)
  refine Pv.if0 rfl (fun c4 => ?_) (fun c4 => ?_)
  · skip
    replace c4 : decide (z3 = 0) = false := by simpa using c4
    replace c4 := of_decide_eq_false c4
    refine Pv.lit rfl ?_
    refine Pv.istore (lo' := [some (.ref u), some (.ref 3), some (.int w), some (.int 0)]) rfl rfl ?_
    refine Pv.lp (ι := Nat × FW) (lof := fun ⟨k, G⟩ => [some (.ref u), some (.ref 3), some (.int w), some (.int (Int32.ofNat k))]) (Ff := fun ⟨k, G⟩ => G) (P := fun ⟨k, G⟩ => k ≤ 20 ∧ FSX u F G) ?_ (0, G1) (⟨by omega, ((FSX.rf (u := u) (F := F)).tr x2)⟩)
    rintro N5 hN6 ⟨k, G⟩ hi7 ih8
    refine (show Pv _ _ 13 [some (.ref u), some (.ref 3), some (.int w), some (.int (Int32.ofNat k))] [] G Q from ?_)
    obtain ⟨hk, hx⟩ := hi7
    refine Pv.iloadS rfl rfl ?_
    refine Pv.lit rfl ?_
    refine Pv.icmp rfl (fun c9 => ?_) (fun c9 => ?_)
    · skip
      replace c9 := (i_le (a := 20) (b := k) (by omega) (by omega)).mp (of_decide_eq_true c9)
      refine Pv.lit rfl ?_
      exact Pv.zret rfl (by rw [hQ]; exact ⟨⟨_, rfl⟩, hx⟩)
    · skip
      replace c9 := mt (i_le (a := 20) (b := k) (by omega) (by omega)).mpr (of_decide_eq_false c9)
      refine Pv.aload rfl rfl ?_
      refine Pv.getI (z := G.1 3 5) rfl rfl (rfl) ?_
      refine Pv.lit rfl ?_
      refine Pv.icmp rfl (fun c10 => ?_) (fun c10 => ?_)
      · skip
        replace c10 : decide (G.1 3 5 = 77) = false := by simpa using c10
        replace c10 := of_decide_eq_false c10
        refine Pv.lit rfl ?_
        exact Pv.zret rfl (by rw [hQ]; exact ⟨⟨_, rfl⟩, hx⟩)
      · skip
        replace c10 : decide (G.1 3 5 = 77) = true := by simpa using c10
        replace c10 := of_decide_eq_true c10
        refine Pv.aload rfl rfl ?_
        refine Pv.callV (as := [.ref 3]) (rest := []) rfl rfl rfl (fs_step (hx.G hG)) ?_
        rintro _ G11 ⟨rfl, x12⟩
        refine (show Pv _ _ 32 [some (.ref u), some (.ref 3), some (.int w), some (.int (Int32.ofNat k))] [] G11 Q from ?_)
        refine Pv.aload rfl rfl ?_
        refine Pv.aload rfl rfl ?_
        refine Pv.iload rfl rfl ?_
        refine Pv.callV (as := [.ref u, .ref 3, .int w]) (rest := []) rfl rfl rfl (hA u _ w ((hx.tr (FSX.of x12)).G hG) ((hx.tr (FSX.of x12)).O hO)) ?_
        rintro _ G13 ⟨⟨z15, rfl⟩, x14⟩
        refine (show Pv _ _ 38 [some (.ref u), some (.ref 3), some (.int w), some (.int (Int32.ofNat k))] [.int z15] G13 Q from ?_)
        refine Pv.if0 rfl (fun c16 => ?_) (fun c16 => ?_)
        · skip
          replace c16 := of_decide_eq_true c16
          refine Pv.lit rfl ?_
          exact Pv.zret rfl (by rw [hQ]; exact ⟨⟨_, rfl⟩, ((hx.tr (FSX.of x12)).tr x14)⟩)
        · skip
          replace c16 := of_decide_eq_false c16
          refine Pv.aload rfl rfl ?_
          refine Pv.lit rfl ?_
          refine Pv.lit rfl ?_
          refine Pv.lit rfl ?_
          refine Pv.callV (as := [.ref u, .int 77, .int 0, .int 0]) (rest := []) rfl rfl rfl (fs_add (((hx.tr (FSX.of x12)).tr x14).O hO) 77 0 0) ?_
          rintro _ G17 ⟨⟨z19, rfl⟩, x18⟩
          refine (show Pv _ _ 49 [some (.ref u), some (.ref 3), some (.int w), some (.int (Int32.ofNat k))] [.int z19] G17 Q from ?_)
          refine Pv.if0 rfl (fun c20 => ?_) (fun c20 => ?_)
          · skip
            replace c20 : decide (z19 = 0) = false := by simpa using c20
            replace c20 := of_decide_eq_false c20
            refine Pv.iinc (y := Int32.ofNat (k + 1)) (lo' := [some (.ref u), some (.ref 3), some (.int w), some (.int (Int32.ofNat (k + 1)))]) rfl rfl (i_add k 1) rfl ?_
            refine Pv.goto rfl ?_
            exact ih8 (k + 1, G17) (⟨by omega, (((hx.tr (FSX.of x12)).tr x14).tr (FSX.ou x18))⟩)
          · skip
            replace c20 : decide (z19 = 0) = true := by simpa using c20
            replace c20 := of_decide_eq_true c20
            refine Pv.lit rfl ?_
            exact Pv.zret rfl (by rw [hQ]; exact ⟨⟨_, rfl⟩, (((hx.tr (FSX.of x12)).tr x14).tr (FSX.ou x18))⟩)
  · skip
    replace c4 : decide (z3 = 0) = true := by simpa using c4
    replace c4 := of_decide_eq_true c4
    refine Pv.lit rfl ?_
    exact Pv.zret rfl (by rw [hQ]; exact ⟨⟨_, rfl⟩, ((FSX.rf (u := u) (F := F)).tr x2)⟩)
end
-- 63.b9zg.fs.lean.txt
section
/-! ===== the searches stacked: nine deep ===== -/
theorem fsp_bracket {xC : List Value → ab_H → Option ab_O} (hC : FSP xC) : FSP (ab_X (ab_T (L_X5_readBracket Z_X9_step xC Z_X9_fail)) 3) := fun _ _ w g o => fs_bracket hC g o w
theorem fsp_one {xB xO : List Value → ab_H → Option ab_O} (hB : FSP xB) (h1 : FSP xO) : FSP (ab_X (ab_T (L_X5_readOne Z_X9_fail xB Z_X9_step xO Z_X5_addOp Z_X5_readOnShore Z_X5_readCompared)) 6) := fun _ _ w g o => fs_one hB h1 g o w
theorem fsp_all {xO : List Value → ab_H → Option ab_O} (h1 : FSP xO) : FSP (ab_X (ab_T (L_X5_readAll xO Z_X9_step Z_X5_addOp)) 4) := fun _ _ w g o => fs_all h1 g o w
theorem fsp_cond {xA : List Value → ab_H → Option ab_O} (hA : FSP xA) : FSP (ab_X (ab_T (L_X5_readCond xA Z_X9_step Z_X5_addOp)) 4) := fun _ _ w g o => fs_cond hA g o w
theorem fz_readOne_9 : FSP Z_X5_readOne_9 := fsp_one fsp_no fsp_no
theorem fz_readAll_9 : FSP Z_X5_readAll_9 := fsp_all fz_readOne_9
theorem fz_readCond_9 : FSP Z_X5_readCond_9 := fsp_cond fz_readAll_9
theorem fz_readBracket_8 : FSP Z_X5_readBracket_8 := fsp_bracket fz_readCond_9
theorem fz_readOne_8 : FSP Z_X5_readOne_8 := fsp_one fz_readBracket_8 fz_readOne_9
theorem fz_readAll_8 : FSP Z_X5_readAll_8 := fsp_all fz_readOne_8
theorem fz_readCond_8 : FSP Z_X5_readCond_8 := fsp_cond fz_readAll_8
theorem fz_readBracket_7 : FSP Z_X5_readBracket_7 := fsp_bracket fz_readCond_8
theorem fz_readOne_7 : FSP Z_X5_readOne_7 := fsp_one fz_readBracket_7 fz_readOne_8
theorem fz_readAll_7 : FSP Z_X5_readAll_7 := fsp_all fz_readOne_7
theorem fz_readCond_7 : FSP Z_X5_readCond_7 := fsp_cond fz_readAll_7
theorem fz_readBracket_6 : FSP Z_X5_readBracket_6 := fsp_bracket fz_readCond_7
theorem fz_readOne_6 : FSP Z_X5_readOne_6 := fsp_one fz_readBracket_6 fz_readOne_7
theorem fz_readAll_6 : FSP Z_X5_readAll_6 := fsp_all fz_readOne_6
theorem fz_readCond_6 : FSP Z_X5_readCond_6 := fsp_cond fz_readAll_6
theorem fz_readBracket_5 : FSP Z_X5_readBracket_5 := fsp_bracket fz_readCond_6
theorem fz_readOne_5 : FSP Z_X5_readOne_5 := fsp_one fz_readBracket_5 fz_readOne_6
theorem fz_readAll_5 : FSP Z_X5_readAll_5 := fsp_all fz_readOne_5
theorem fz_readCond_5 : FSP Z_X5_readCond_5 := fsp_cond fz_readAll_5
theorem fz_readBracket_4 : FSP Z_X5_readBracket_4 := fsp_bracket fz_readCond_5
theorem fz_readOne_4 : FSP Z_X5_readOne_4 := fsp_one fz_readBracket_4 fz_readOne_5
theorem fz_readAll_4 : FSP Z_X5_readAll_4 := fsp_all fz_readOne_4
theorem fz_readCond_4 : FSP Z_X5_readCond_4 := fsp_cond fz_readAll_4
theorem fz_readBracket_3 : FSP Z_X5_readBracket_3 := fsp_bracket fz_readCond_4
theorem fz_readOne_3 : FSP Z_X5_readOne_3 := fsp_one fz_readBracket_3 fz_readOne_4
theorem fz_readAll_3 : FSP Z_X5_readAll_3 := fsp_all fz_readOne_3
theorem fz_readCond_3 : FSP Z_X5_readCond_3 := fsp_cond fz_readAll_3
theorem fz_readBracket_2 : FSP Z_X5_readBracket_2 := fsp_bracket fz_readCond_3
theorem fz_readOne_2 : FSP Z_X5_readOne_2 := fsp_one fz_readBracket_2 fz_readOne_3
theorem fz_readAll_2 : FSP Z_X5_readAll_2 := fsp_all fz_readOne_2
theorem fz_readCond_2 : FSP Z_X5_readCond_2 := fsp_cond fz_readAll_2
theorem fz_readBracket_1 : FSP Z_X5_readBracket_1 := fsp_bracket fz_readCond_2
theorem fz_readOne_1 : FSP Z_X5_readOne_1 := fsp_one fz_readBracket_1 fz_readOne_2
theorem fz_readAll_1 : FSP Z_X5_readAll_1 := fsp_all fz_readOne_1
theorem fz_readCond_1 : FSP Z_X5_readCond_1 := fsp_cond fz_readAll_1
end
-- 63.b9zh.lean.txt
section
set_option maxRecDepth 100000 in
set_option maxHeartbeats 4000000 in
theorem fs_rtext {F : FW} {u : Nat} (hG : GW F) (hO : O3 F u) : Pm Z_X5_readText [.ref u, .ref 3] F (fun v F' => v = none ∧ FSX u F F') := by
  refine Pm.of fun N => ?_
  obtain ⟨Q, hQ⟩ : ∃ Q : Option Value → FW → Prop, Q = (fun v F' => v = none ∧ FSX u F F') := ⟨_, rfl⟩
  rw [← hQ]
  refine (show Pv (ab_T (L_X5_readText Z_X9_step Z_X5_readCond_1 Z_X9_fail)) N 0 [some (.ref u), some (.ref 3)] [] F Q from ?_)
  refine Pv.aload rfl rfl ?_
  refine Pv.lit rfl ?_
  refine Pv.putI rfl rfl ?_
  refine Pv.aload rfl rfl ?_
  refine Pv.lit rfl ?_
  refine Pv.putI rfl rfl ?_
  refine Pv.aload rfl rfl ?_
  refine Pv.callV (as := [.ref 3]) (rest := []) rfl rfl rfl (fs_step ((((FSX.rf (u := u) (F := F)).pu).pu).G hG)) ?_
  rintro _ G1 ⟨rfl, x2⟩
  refine (show Pv _ _ 14 [some (.ref u), some (.ref 3)] [] G1 Q from ?_)
  refine Pv.aload rfl rfl ?_
  refine Pv.aload rfl rfl ?_
  refine Pv.aload rfl rfl ?_
  refine Pv.lit rfl ?_
  refine Pv.callV (as := [.ref u, .ref 3, .int 1]) (rest := [.ref u]) rfl rfl rfl (fz_readCond_1 u _ 1 (((((FSX.rf (u := u) (F := F)).pu).pu).tr (FSX.of x2)).G hG) (((((FSX.rf (u := u) (F := F)).pu).pu).tr (FSX.of x2)).O hO)) ?_
  rintro _ G3 ⟨⟨z5, rfl⟩, x4⟩
  refine (show Pv _ _ 21 [some (.ref u), some (.ref 3)] [.int z5, .ref u] G3 Q from ?_)
  refine Pv.if0 rfl (fun c6 => ?_) (fun c6 => ?_)
  · skip
    replace c6 := of_decide_eq_true c6
    refine Pv.lit rfl ?_
    refine Pv.putI rfl rfl ?_
    exact Pv.vret rfl (by rw [hQ]; exact ⟨rfl, ((((((FSX.rf (u := u) (F := F)).pu).pu).tr (FSX.of x2)).tr x4).pu)⟩)
  · skip
    replace c6 := of_decide_eq_false c6
    refine Pv.aload rfl rfl ?_
    refine Pv.getI (z := G3.1 3 5) rfl rfl (rfl) ?_
    refine Pv.if0 rfl (fun c7 => ?_) (fun c7 => ?_)
    · skip
      replace c7 := of_decide_eq_true c7
      refine Pv.lit rfl ?_
      refine Pv.goto rfl ?_
      refine Pv.putI rfl rfl ?_
      exact Pv.vret rfl (by rw [hQ]; exact ⟨rfl, ((((((FSX.rf (u := u) (F := F)).pu).pu).tr (FSX.of x2)).tr x4).pu)⟩)
    · skip
      replace c7 := of_decide_eq_false c7
      refine Pv.aload rfl rfl ?_
      refine Pv.lit rfl ?_
      refine Pv.callVI (as := [.ref 3, .int 1]) (rest := [.ref u]) (z := 0) rfl rfl rfl (c_fail (c := 1)) ?_
      refine Pv.if0 rfl (fun c8 => ?_) (fun c8 => ?_)
      · skip
        replace c8 := (i_eq (a := 0) (b := 0) (by omega) (by omega)).mp (of_decide_eq_true c8)
        refine Pv.lit rfl ?_
        refine Pv.putI rfl rfl ?_
        exact Pv.vret rfl (by rw [hQ]; exact ⟨rfl, (((((((FSX.rf (u := u) (F := F)).pu).pu).tr (FSX.of x2)).tr x4).p3).pu)⟩)
      · skip
        replace c8 := mt (i_eq (a := 0) (b := 0) (by omega) (by omega)).mpr (of_decide_eq_false c8)
        omega
set_option maxRecDepth 100000 in
set_option maxHeartbeats 4000000 in
theorem o_se14 {F : FW} {p u : Nat} (hG : GW F) (hp : F.2.1 0 15 = .ref p) (hu : F.2.1 0 16 = .ref u) (hO : O3 F u) (N : Nat) : Pv (ab_T (L_X10_sentence Z_X8_moveInto Z_X5_readText)) N 14 [some (.ref 0), none] [] F (fun v F' => ∃ K z, FSX u F K ∧ v = some (.int z) ∧ (F' = fp K 0 18 (K.1 3 9) ∨ F' = fpr (fpr (fp K 0 18 (K.1 3 9)) 0 15 (.ref u)) 0 16 (.ref p))) := by
  obtain ⟨Q, hQ⟩ : ∃ Q : Option Value → FW → Prop, Q = (fun v F' => ∃ K z, FSX u F K ∧ v = some (.int z) ∧ (F' = fp K 0 18 (K.1 3 9) ∨ F' = fpr (fpr (fp K 0 18 (K.1 3 9)) 0 15 (.ref u)) 0 16 (.ref p))) := ⟨_, rfl⟩
  rw [← hQ]
  refine (show Pv (ab_T (L_X10_sentence Z_X8_moveInto Z_X5_readText)) N 14 [some (.ref 0), none] [] F Q from ?_)
  refine Pv.aload rfl rfl ?_
  refine Pv.getR (v := .ref u) rfl rfl (hu) ?_
  refine Pv.aload rfl rfl ?_
  refine Pv.getR (v := .ref 3) rfl rfl (GW.at (a := 0) (k := 1) (b := 3) hG (by decide)) ?_
  refine Pv.callV (as := [.ref u, .ref 3]) (rest := []) rfl rfl rfl (fs_rtext hG hO) ?_
  rintro _ G ⟨rfl, x⟩
  refine (show Pv _ _ 25 [some (.ref 0), none] [] G Q from ?_)
  refine Pv.aload rfl rfl ?_
  refine Pv.aload rfl rfl ?_
  refine Pv.getR (v := .ref 3) rfl rfl (GW.at (a := 0) (k := 1) (b := 3) (x.G hG) (by decide)) ?_
  refine Pv.getI (z := G.1 3 9) rfl rfl (rfl) ?_
  refine Pv.putI rfl rfl ?_
  refine Pv.aload rfl rfl ?_
  refine Pv.getI (z := (fp G 0 18 (G.1 3 9)).1 0 18) rfl rfl (rfl) ?_
  refine Pv.if0 rfl (fun c1 => ?_) (fun c1 => ?_)
  · skip
    replace c1 := of_decide_eq_true c1
    refine Pv.aload rfl rfl ?_
    refine Pv.getR (v := .ref p) rfl rfl ((congrArg (fun z => z 0 15) x.2.2.1).trans hp) ?_
    refine Pv.astore (lo' := [some (.ref 0), some (.ref p)]) rfl rfl ?_
    refine Pv.aload rfl rfl ?_
    refine Pv.aload rfl rfl ?_
    refine Pv.getR (v := .ref u) rfl rfl ((congrArg (fun z => z 0 16) x.2.2.1).trans hu) ?_
    refine Pv.putR rfl rfl (Or.inr ⟨_, rfl⟩) ?_
    refine Pv.aload rfl rfl ?_
    refine Pv.aload rfl rfl ?_
    refine Pv.putR rfl rfl (Or.inr ⟨_, rfl⟩) ?_
    refine Pv.aload rfl rfl ?_
    refine Pv.getR (v := .ref u) rfl rfl ((fpr_ne (Or.inr (by decide))).trans (fpr_eq)) ?_
    refine Pv.getI (z := (fpr (fpr (fp G 0 18 (G.1 3 9)) 0 15 (.ref u)) 0 16 (.ref p)).1 u 4) rfl rfl (rfl) ?_
    exact Pv.ret rfl (by rw [hQ]; exact ⟨G, _, x, rfl, Or.inr rfl⟩)
  · skip
    replace c1 := of_decide_eq_false c1
    refine Pv.lit rfl ?_
    refine Pv.aload rfl rfl ?_
    refine Pv.getR (v := .ref 3) rfl rfl (GW.at (a := 0) (k := 1) (b := 3) (x.G hG) (by decide)) ?_
    refine Pv.getI (z := (fp G 0 18 (G.1 3 9)).1 3 6) rfl rfl (rfl) ?_
    refine Pv.bin (z := (-1) - ((fp G 0 18 (G.1 3 9)).1 3 6)) rfl (rfl) ?_
    exact Pv.ret rfl (by rw [hQ]; exact ⟨G, _, x, rfl, Or.inl rfl⟩)
end
-- 63.b9zi.se.lean.txt
section
/-! ===== sentences on both sides: what stays ===== -/
theorem wires_15 : ∀ y ∈ wires, ¬ (y.1 = 0 ∧ (y.2.1 = 15 ∨ y.2.1 = 16)) := by decide
theorem CR.sw {K : FW} {D : DD} {p u : Nat} (h : CR K D) (ju : (p = 61 ∧ u = 65) ∨ (p = 65 ∧ u = 61)) : CR (fpr (fpr K 0 15 (.ref u)) 0 16 (.ref p)) D ∧ KX K (fpr (fpr K 0 15 (.ref u)) 0 16 (.ref p)) := by
  have e15 : (fpr (fpr K 0 15 (.ref u)) 0 16 (.ref p)).2.1 0 15 = .ref u := (fpr_ne (Or.inr (by decide))).trans fpr_eq
  have e16 : (fpr (fpr K 0 15 (.ref u)) 0 16 (.ref p)).2.1 0 16 = .ref p := fpr_eq
  have z : FRZ (fun q => q = 0) K (fpr (fpr K 0 15 (.ref u)) 0 16 (.ref p)) := (fpr_frz (P := fun q => q = 0) rfl).tr (fpr_frz (P := fun q => q = 0) rfl)
  have r : ∀ a k, ¬ (a = 0 ∧ (k = 15 ∨ k = 16)) → (fpr (fpr K 0 15 (.ref u)) 0 16 (.ref p)).2.1 a k = K.2.1 a k := fun a k c => (fpr_ne (by omega)).trans (fpr_ne (by omega))
  obtain ⟨G, hGe⟩ : ∃ G : FW, G = fpr (fpr K 0 15 (.ref u)) 0 16 (.ref p) := ⟨_, rfl⟩
  rw [← hGe] at e15 e16 z r
  rw [← hGe]
  have g : GW G := fun y my => (r y.1 y.2.1 (wires_15 y my)).trans (h.G y my)
  have c := h.c
  refine ⟨⟨g, Nat.le_trans c z.1, ?_, ⟨u, p, by omega, e15, e16⟩, h.s.frz z (by omega) (fun a a1 a2 (q : a = 0) => by omega), h.h.frz z (fun a (q : a = 0) => by omega) c, h.i.ce (z.2 41 (by omega) (by decide)).2.1 (z.2 11 (by omega) (by decide)).2.1 z.1 (fun a a1 a2 => z.2 a a2 (fun (q : a = 0) => by omega))⟩, fun E x => x.cells g (fun a k a1 a2 => (z.2 a (by omega) (fun (q : a = 0) => by omega)).1 k) (fun a k a1 a2 => (z.2 a (by omega) (fun (q : a = 0) => by omega)).2.2 k)⟩
  obtain ⟨t, s, j0, h1, h2, h3, h4⟩ := h.l
  exact ⟨t, s, j0, (r 0 13 (by omega)).trans h1, (r 0 14 (by omega)).trans h2, h3.frz z (by omega) (fun a a1 a2 (q : a = 0) => by omega), h4.frz z (by omega) (fun (q : t + 1 = 0) => by omega) (fun (q : t + 2 = 0) => by omega)⟩
theorem d_sentence {tt : Nat → Nat} {hp : ab_H} {tn : Nat} {D : DD} (Hs : sf_h tt hp) (hce : sf_cE kq_X8_moveInto_v Z_X8_moveInto ke_X8_moveInto_v) (hn : sf_rd hp 1 1 = some (tn : Int)) (h : CR (fl hp) D) : Pj Z_X10_sentence [.ref 0] hp (fun r F' => (∃ z, r = some (.int z)) ∧ CR F' D ∧ KX (fl hp) F') := by
  have hw := wt_of Hs
  refine Pj.of fun N => ?_
  obtain ⟨Q, hQ⟩ : ∃ Q : Option Value → FW → Prop, Q = (fun r F' => (∃ z, r = some (.int z)) ∧ CR F' D ∧ KX (fl hp) F') := ⟨_, rfl⟩
  rw [← hQ]
  obtain ⟨p, u, ju, h15, h16⟩ := h.e
  refine (show Pw (ab_T (L_X10_sentence Z_X8_moveInto Z_X5_readText)) N 0 [some (.ref 0), none] [] hp Q from ?_)
  refine Pw.aload rfl rfl ?_
  refine Pw.getR (v := .ref 1) hw rfl rfl (GW.at (a := 0) (k := 0) (b := 1) h.G (by decide)) ?_
  refine Pw.aload rfl rfl ?_
  refine Pw.getR (v := .ref 3) hw rfl rfl (GW.at (a := 0) (k := 1) (b := 3) h.G (by decide)) ?_
  refine Pw.lit rfl ?_
  refine Pw.callV (as := [.ref 1, .ref 3, .int (Int32.ofNat 200)]) (rest := []) rfl rfl rfl (fun o e => ?_)
  obtain ⟨w, r0, q⟩ := mv_flat (x := 200) Hs (by omega) hce h.G h.c hn o e
  rw [r0]
  refine Pw.v w ?_
  refine (show Pv (ab_T (L_X10_sentence Z_X8_moveInto Z_X5_readText)) N 14 [some (.ref 0), none] [] (fl o.2) Q from ?_)
  have h1 := h.mv q
  have kx1 := KX.mv h.c q
  have z0 := (q.1.2 0 (by have := h.c; omega) (by decide)).2.1
  have o3 := o3w h1.G
  refine Pv.imp (o_se14 (p := p) (u := u) h1.G ((z0 15).trans h15) ((z0 16).trans h16) (by rcases ju with ⟨-, rfl⟩ | ⟨-, rfl⟩; exact o3.2; exact o3.1) N) ?_
  rintro r F' ⟨K, z, x, e1, c⟩
  rw [hQ]
  have y : FX (fun q => q = 0 ∨ q = 3 ∨ (u ≤ q ∧ q ≤ u + 3)) (fl o.2) (fp K 0 18 (K.1 3 9)) := FX.fp (FX.wd x (fun _ c => Or.inr c)) (Or.inl rfl)
  have h2 : CR (fp K 0 18 (K.1 3 9)) D := h1.fx y (fun q (c : q = 0 ∨ q = 3 ∨ (u ≤ q ∧ q ≤ u + 3)) => by omega)
  have kx2 : KX (fl hp) (fp K 0 18 (K.1 3 9)) := kx1.tr (FX.kx h1 y (fun q (c : q = 0 ∨ q = 3 ∨ (u ≤ q ∧ q ≤ u + 3)) => by omega))
  rcases c with rfl | rfl
  · exact ⟨⟨z, e1⟩, h2, kx2⟩
  · have s := h2.sw ju
    exact ⟨⟨z, e1⟩, s.1, kx2.tr s.2⟩
/-- as sfr_frz, but for the mark that no cell bears -/
theorem sfr_frz9 {P : Nat → Prop} {W : List (Nat × Nat × Nat)} {t t' : Nat → Nat} {hp hp' : ab_H} (H : sf_h t hp) (f : sf_fr W t hp t' hp') (hW : ∀ w ∈ W, w.1 = 999 ∨ ∃ q, sf_P w.1 = some q ∧ P q) : FRZ P (fl hp) (fl hp') := by
  refine ⟨f.1, fun a ha c => ?_⟩
  have e : hp'.2 a = hp.2 a := f.2.2.2.1 a ha (by
    rw [List.all_eq_true]
    intro w hw
    refine decide_eq_true fun e => ?_
    rcases hW w hw with e9 | ⟨q, hq, hP⟩
    · have y := H.1 a ha
      rw [← e, e9] at y
      unfold sf_c at y
      split at y
      · exact absurd y.2.1 (by decide)
      · rename_i x _
        have y1 : x.1 = 9 := y.2.1
        have y2 := y.2.2.2
        split at y2
        · exact absurd y2.2.1 (by omega)
        · omega
        · exact absurd y2.2.1 (by omega)
        · exact y2
    · rw [e] at hq
      obtain rfl := H.2.1 a q ha hq
      exact c hP)
  refine ⟨fun k => ?_, fun k => ?_, fun k => ?_⟩
  · show gi hp' a k = gi hp a k
    unfold gi
    rw [e]
  · show gr hp' a k = gr hp a k
    unfold gr
    rw [e]
  · show gl hp' a k = gl hp a k
    unfold gl
    rw [e]
abbrev P7S (q : Nat) : Prop := q = 69 ∨ q = 71 ∨ q = 73 ∨ q = 82
theorem wires_7S : ∀ y ∈ wires, P7S y.1 → y = (69, 1, 70) ∨ y = (69, 6, 71) ∨ y = (69, 7, 72) ∨ y = (69, 8, 73) ∨ y = (69, 9, 74) ∨ y = (69, 10, 75) ∨ y = (69, 21, 76) ∨ y = (69, 23, 77) ∨ y = (69, 24, 78) ∨ y = (69, 26, 79) ∨ y = (69, 27, 80) ∨ y = (69, 31, 81) ∨ y = (69, 33, 82) ∨ y = (69, 39, 83) ∨ y = (69, 40, 84) ∨ y = (69, 41, 85) ∨ y = (69, 42, 86) := by decide
theorem gw7S {t' : Nat → Nat} {F : FW} {hp' : ab_H} (H' : sf_h t' hp') (g : GW F) (c : 88 ≤ F.2.2.2.1) (z : FRZ P7S F (fl hp')) : GW (fl hp') := fun y my => by
  by_cases p : P7S y.1
  · rcases wires_7S y my p with e | e | e | e | e | e | e | e | e | e | e | e | e | e | e | e | e <;> rw [e]
    · exact sfh_ref H' (g := 11) (g1 := 131) rfl (by decide) rfl rfl
    · exact sfh_ref H' (g := 11) (g1 := 132) rfl (by decide) rfl rfl
    · exact sfh_ref H' (g := 11) (g1 := 133) rfl (by decide) rfl rfl
    · exact sfh_ref H' (g := 11) (g1 := 134) rfl (by decide) rfl rfl
    · exact sfh_ref H' (g := 11) (g1 := 135) rfl (by decide) rfl rfl
    · exact sfh_ref H' (g := 11) (g1 := 136) rfl (by decide) rfl rfl
    · exact sfh_ref H' (g := 11) (g1 := 137) rfl (by decide) rfl rfl
    · exact sfh_ref H' (g := 11) (g1 := 138) rfl (by decide) rfl rfl
    · exact sfh_ref H' (g := 11) (g1 := 139) rfl (by decide) rfl rfl
    · exact sfh_ref H' (g := 11) (g1 := 140) rfl (by decide) rfl rfl
    · exact sfh_ref H' (g := 11) (g1 := 141) rfl (by decide) rfl rfl
    · exact sfh_ref H' (g := 11) (g1 := 142) rfl (by decide) rfl rfl
    · exact sfh_ref H' (g := 11) (g1 := 143) rfl (by decide) rfl rfl
    · exact sfh_ref H' (g := 11) (g1 := 144) rfl (by decide) rfl rfl
    · exact sfh_ref H' (g := 11) (g1 := 145) rfl (by decide) rfl rfl
    · exact sfh_ref H' (g := 11) (g1 := 146) rfl (by decide) rfl rfl
    · exact sfh_ref H' (g := 11) (g1 := 147) rfl (by decide) rfl rfl
  · exact ((z.2 y.1 (by have := (wires_lt y my).2; omega) p).2.1 _).trans (g y my)
/-- an element of an array of numbers that stands alone -/
theorem gi_el {W : List (Nat × Nat × Nat)} {t t' : Nat → Nat} {hp hp' : ab_H} {g p k n : Nat} (H : sf_h t hp) (f : sf_fr W t hp t' hp') (hP : sf_P g = some p) (hg : 100 ≤ g) (h1 : (sf_A g).1 < 4) (h2 : (sf_A g).1 ≠ 2) (hn : (sf_A g).2.1 = n) (hk : k < n) (hW : sf_inW W g k = false) : (fl hp').1 p k = (fl hp).1 p k := by
  obtain ⟨a1, a2⟩ := H.2.2.1 g p hP
  have e := f.2.2.1 p a1 k (by rw [a2]; exact hW)
  have c := H.1 p a1
  rw [a2] at c
  unfold sf_c at c
  have q : ∃ v : Int, sf_rd hp p k = some v := by
    unfold sf_rd
    split at c
    · exact absurd c.2.1 (by omega)
    · rename_i x hx
      obtain ⟨-, c1, c2, c3⟩ := c
      split at c3
      · rename_i y hy
        first | rw [hy] | (rw [hx]; dsimp only; rw [hy])
        dsimp only
        rw [decide_eq_true (show k < x.2.1 by omega)]
        exact ⟨_, rfl⟩
      · exact absurd (c1.symm.trans c3) h2
      · exact absurd c3.1 (by omega)
      · exact absurd c3 id
  obtain ⟨v, hv⟩ := q
  exact Int32.toInt_inj.mp ((gi_rd (e.trans hv)).trans (gi_rd hv).symm)
theorem XRS {t t' : Nat → Nat} {hp hp' : ab_H} {D : DD} (H : sf_h t hp) (H' : sf_h t' hp') (f : sf_fr [(11, 0, 0), (11, 2, 5), (11, 11, 18), (11, 34, 38), (132, 253, 433), (134, 0, 159), (143, 0, 44), (999, 0, 0)] t hp t' hp') (c : 88 ≤ (fl hp).2.2.2.1) (h : XR (fl hp) D) : XR (fl hp') D ∧ KC (fl hp) (fl hp') := by
  have z : FRZ P7S (fl hp) (fl hp') := sfr_frz9 H f (by
    intro w hw
    simp only [List.mem_cons, List.not_mem_nil, or_false] at hw
    rcases hw with rfl | rfl | rfl | rfl | rfl | rfl | rfl | rfl
    · exact Or.inr ⟨69, rfl, by decide⟩
    · exact Or.inr ⟨69, rfl, by decide⟩
    · exact Or.inr ⟨69, rfl, by decide⟩
    · exact Or.inr ⟨69, rfl, by decide⟩
    · exact Or.inr ⟨71, rfl, by decide⟩
    · exact Or.inr ⟨73, rfl, by decide⟩
    · exact Or.inr ⟨82, rfl, by decide⟩
    · exact Or.inl rfl)
  have g := gw7S H' h.G c z
  have e71 : ∀ k, k < 253 → (fl hp').1 71 k = (fl hp).1 71 k := fun k hk => gi_el H f (g := 132) (n := 434) rfl (by decide) (by decide) (by decide) rfl (by omega) (by
    unfold sf_inW
    simp only [List.any_cons, List.any_nil]
    rw [decide_eq_false (show ¬ 253 ≤ k by omega)]
    simp)
  have e25 : (fl hp').1 69 25 = (fl hp).1 69 25 := gi_fr H f (g := 11) rfl (by decide) rfl (by decide)
  refine ⟨⟨g, h.T.of fun k hk => e71 k (by omega), h.s.of h.T.mb fun k _ hk => e71 k hk, HSX.same h.h h.T.mb e25 (z.2 77 (by omega) (by decide)).1, ⟨fun q hq => by rw [(z.2 74 (by omega) (by decide)).2.2]; exact h.n.1 q hq, fun q hq => by rw [(z.2 74 (by omega) (by decide)).2.2]; exact h.n.2 q hq⟩, fun j hj => by rw [(z.2 75 (by omega) (by decide)).2.2]; exact h.w j hj, fun k hk => (h.i hk).ce (z.2 84 (by omega) (by decide)).1 ((z.2 86 (by omega) (by decide)).1 k) (z.2 85 (by omega) (by decide)).2.2⟩, fun E x => x.frz z g (fun q (c : q = 69 ∨ q = 71 ∨ q = 73 ∨ q = 82) => by omega)⟩
end
-- 63.b9zj.pr.lean.txt
section
/-! ===== one operation on both sides: what the law wants ===== -/
def sf_eqn (X : List Value → ab_H → Option ab_O) (as : List Value) (hp : ab_H) (r : Option Value) (hp' : ab_H) : Prop := X as hp = some (r, hp')
theorem sf_cX {K : sf_Q} {X : List Value → ab_H → Option ab_O} (h : sf_ct K X) : sf_cE K X (sf_eqn X) := fun t hp as a1 a2 a3 a4 => by
  obtain ⟨r, hp', t', h1, h2, h3, h4, h5⟩ := h t hp as a1 a2 a3 a4
  exact ⟨r, hp', t', h1, h2, h3, h4, h5, h1⟩
theorem sf_cXE {K : sf_Q} {X : List Value → ab_H → Option ab_O} {E : List Value → ab_H → Option Value → ab_H → Prop} (h : sf_cE K X E) : sf_cE K X (fun as hp r hp' => E as hp r hp' ∧ sf_eqn X as hp r hp') := fun t hp as a1 a2 a3 a4 => by
  obtain ⟨r, hp', t', h1, h2, h3, h4, h5, h6⟩ := h t hp as a1 a2 a3 a4
  exact ⟨r, hp', t', h1, h2, h3, h4, h5, h6, h1⟩
theorem sf_cXG {K : sf_Q} {X : List Value → ab_H → Option ab_O} {G : ab_H → Prop} {E : List Value → ab_H → Option Value → ab_H → Prop} (h : sf_cG K X G E) : sf_cG K X G (fun as hp r hp' => E as hp r hp' ∧ sf_eqn X as hp r hp') := fun t hp as a1 a2 a3 a4 g => by
  obtain ⟨r, hp', t', h1, h2, h3, h4, h5, h6⟩ := h t hp as a1 a2 a3 a4 g
  exact ⟨r, hp', t', h1, h2, h3, h4, h5, h6, h1⟩
section PCX
variable {Z : List Value → ab_H → Option ab_O} {as : List Value} {t : Nat → Nat} {hp hp' : ab_H} {r : Option Value} {D D' : DD} {A : Option Value → Prop}
theorem pC (H : sf_h t hp) (p : Pm Z as (fl hp) (fun r F' => A r ∧ CR F' D' ∧ KX (fl hp) F')) (e : sf_eqn Z as hp r hp') (hX : XR (fl hp) D) : A r ∧ CR (fl hp') D' ∧ XR (fl hp') D := by
  obtain ⟨-, q1, q2, q3⟩ := p hp _ (wt_of H) rfl e
  exact ⟨q1, q2, q3 _ hX⟩
theorem pX (H : sf_h t hp) (p : Pm Z as (fl hp) (fun r F' => A r ∧ XR F' D' ∧ KC (fl hp) F')) (e : sf_eqn Z as hp r hp') (hC : CR (fl hp) D) : A r ∧ XR (fl hp') D' ∧ CR (fl hp') D := by
  obtain ⟨-, q1, q2, q3⟩ := p hp _ (wt_of H) rfl e
  exact ⟨q1, q2, q3 _ hC⟩
end PCX
/-- the element of an array of numbers that stands alone, read -/
theorem el_rd {t : Nat → Nat} {hp : ab_H} {g p k n : Nat} (H : sf_h t hp) (hP : sf_P g = some p) (hg : 100 ≤ g) (h1 : (sf_A g).1 < 4) (h2 : (sf_A g).1 ≠ 2) (hn : (sf_A g).2.1 = n) (hk : k < n) : sf_rd hp p k = some ((fl hp).1 p k).toInt := by
  obtain ⟨a1, a2⟩ := H.2.2.1 g p hP
  have c := H.1 p a1
  rw [a2] at c
  unfold sf_c at c
  have q : ∃ v : Int, sf_rd hp p k = some v := by
    unfold sf_rd
    split at c
    · exact absurd c.2.1 (by omega)
    · rename_i x hx
      obtain ⟨-, c1, c2, c3⟩ := c
      split at c3
      · rename_i y hy
        first | rw [hy] | (rw [hx]; dsimp only; rw [hy])
        dsimp only
        rw [decide_eq_true (show k < x.2.1 by omega)]
        exact ⟨_, rfl⟩
      · exact absurd (c1.symm.trans c3) h2
      · exact absurd c3.1 (by omega)
      · exact absurd c3 id
  obtain ⟨v, hv⟩ := q
  rw [gi_rd hv, hv]
theorem RBF_bv {t : Nat → Nat} {hp : ab_H} {n : Nat} (H : sf_h t hp) (hn : n ≤ 940) : RBF (fl hp) n = bv hp 70 n := funext fun q => by
  unfold RBF bv
  by_cases c : q < n
  · rw [if_pos c, if_pos c, el_rd H (g := 131) (n := 940) rfl (by decide) (by decide) (by decide) rfl (by omega)]
    unfold bI
    exact n_and255 _
  · rw [if_neg c, if_neg c]
theorem nat_rd {hp : ab_H} {a k tn : Nat} (h : sf_rd hp a k = some (tn : Int)) (hn : tn ≤ 940) : (fl hp).1 a k = Int32.ofNat tn := Int32.toInt_inj.mp ((gi_rd h).trans (i_toInt (by omega)).symm)
section LWS
variable {t t1 t2 : Nat → Nat} {hp hp1 hp2 : ab_H} {r1 r2 : Option Value} {D : DD} {tn : Nat}
/-- a Strait on both sides -/
theorem lw_strait (H : sf_h t hp) (H1 : sf_h t1 hp1) (hce : sf_cE kq_X8_moveInto_v Z_X8_moveInto ke_X8_moveInto_v) (hD : DOK D) (hC : CR (fl hp) D) (hX : XR (fl hp) D) (htn : tn ≤ 940) (hn : sf_rd hp 1 1 = some (tn : Int)) (hm : sf_rd hp1 69 2 = some (tn : Int)) (hb : bv hp1 70 tn = bv hp 2 tn) (x1 : sf_eqn Z_X10_strait [.ref 0] hp r1 hp1) (x2 : sf_eqn Z_X11_strait [.ref 69] hp1 r2 hp2) : (∃ D', DOK D' ∧ CR (fl hp2) D' ∧ XR (fl hp2) D') ∧ ((fl hp1).1 0 18).toInt = ((fl hp2).1 69 15).toInt := by
  obtain ⟨-, l, i, s, a, f, l1, s1, -, f1, hC1, kx⟩ := d_strait H hce hn hC _ x1
  have hX1 := kx _ hX
  obtain ⟨-, l', i', s', a', f', l2, s2, -, f2, hX2, kc⟩ := e_strait hX1 (nat_rd hm htn) htn hp1 _ (wt_of H1) rfl x2
  rw [RBF_bv H1 htn, hb] at l2 s2
  obtain ⟨-, es, ex⟩ := stp_one l1 s1 l2 s2
  have ef : f = f' := congrArg Prod.snd ex
  rw [← es, ← ef] at hX2
  exact ⟨⟨_, hD.st l1, kc _ hC1, hX2⟩, f1.trans (ef.trans f2.symm)⟩
/-- a Log on both sides -/
theorem lw_log {l : Int32} (H : sf_h t hp) (H1 : sf_h t1 hp1) (hce : sf_cE kq_X8_moveInto_v Z_X8_moveInto ke_X8_moveInto_v) (hD : DOK D) (hC : CR (fl hp) D) (hX : XR (fl hp) D) (htn : tn ≤ 940) (hn : sf_rd hp 1 1 = some (tn : Int)) (hm : sf_rd hp1 69 2 = some (tn : Int)) (hb : bv hp1 70 tn = bv hp 2 tn) (x1 : sf_eqn Z_X10_log [.ref 0, .int l] hp r1 hp1) (x2 : sf_eqn Z_X11_log [.ref 69, .int l] hp1 r2 hp2) : (∃ D', DOK D' ∧ CR (fl hp2) D' ∧ XR (fl hp2) D') ∧ r1 = r2 ∧ ((l = 0 ∨ l = 1) → (fl hp1).1 0 18 = (fl hp2).1 69 15) := by
  obtain ⟨-, kx, c1⟩ := d_log (l := l) H hce hn hC _ x1
  have hX1 := kx _ hX
  obtain ⟨-, kc, c2⟩ := e_log (l := l) hX1 hD (nat_rd hm htn) htn hp1 _ (wt_of H1) rfl x2
  rcases c1 with ⟨a1, e1, hC1⟩ | ⟨a1, nl, L, c, j, g1, b1, f1, hC1⟩
  · rcases c2 with ⟨a2, e2, hX2⟩ | ⟨a2, -⟩
    · exact ⟨⟨D, hD, kc _ hC1, hX2⟩, e1.trans e2.symm, fun q => absurd q a1⟩
    · exact absurd a2 a1
  · rcases c2 with ⟨a2, -⟩ | ⟨a2, nl', L', c', j', g2, b2, f2, hX2⟩
    · exact absurd a1 a2
    · rw [RBF_bv H1 htn, hb] at g2 b2
      obtain ⟨e1, e2, e3, e4⟩ := LGA_one g1 g2
      rw [← e1, ← e2, ← e3] at hX2
      rw [← e1, ← e2, ← e3, ← e4] at b2
      refine ⟨⟨_, hD.lg hX.T.gb g1, kc _ hC1, hX2⟩, ?_, fun _ => f1.trans (e3.trans f2.symm)⟩
      by_cases z : c = 0
      · exact (b1.1 z).trans (b2.1 z).symm
      · obtain ⟨v, q1, q2⟩ := b1.2 z
        obtain ⟨v', q3, q4⟩ := b2.2 z
        have q5 : v = v' := Int32.toInt_inj.mp (q2.trans q4.symm)
        rw [← q5] at q3
        exact Eq.trans q1 (Eq.symm q3)
end LWS
theorem DOK.imo {D : DD} {o : Option Nat} (h : DOK D) : DOK (dImo D o) := by
  cases o with
  | none => exact h
  | some k => exact h.im
theorem DOK.rso {D : DD} {o : Option Nat} (h : DOK D) : DOK (dRso D o) := by
  cases o with
  | none => exact h
  | some k => exact h.rs
end
