/-! ===== operations of which only the frame is wanted ===== -/
theorem CR.frz {P : Nat → Prop} {F G : FW} {D : DD} (h : CR F D) (z : FRZ P F G) (g : GW G) (hP : ∀ q, P q → q < 88 ∧ q ≠ 0 ∧ q ≠ 10 ∧ q ≠ 11 ∧ ¬ (12 ≤ q ∧ q ≤ 19) ∧ q ≠ 41 ∧ ¬ (45 ≤ q ∧ q ≤ 60)) : CR G D := by
  have c := h.c
  have z0 := (z.2 0 (by omega) (fun p => by have := hP 0 p; omega)).2.1
  refine ⟨g, Nat.le_trans c z.1, ?_, ?_, h.s.frz z (by omega) (fun a a1 a2 p => by have := hP a p; omega), h.h.frz z (fun a p => by have := hP a p; omega) c, h.i.ce (z.2 41 (by omega) (fun p => by have := hP 41 p; omega)).2.1 (z.2 11 (by omega) (fun p => by have := hP 11 p; omega)).2.1 z.1 (fun a a1 a2 => z.2 a a2 (fun p => by have := hP a p; omega))⟩
  · obtain ⟨t, p, j0, h1, h2, h3, h4⟩ := h.l
    exact ⟨t, p, j0, (z0 13).trans h1, (z0 14).trans h2, h3.frz z (by omega) (fun a a1 a2 p => by have := hP a p; omega), h4.frz z (by omega) (fun p => by have := hP _ p; omega) (fun p => by have := hP _ p; omega)⟩
  · obtain ⟨u, v, j0, h1, h2⟩ := h.e
    exact ⟨u, v, j0, (z0 15).trans h1, (z0 16).trans h2⟩
theorem XR.frz {P : Nat → Prop} {F G : FW} {D : DD} (h : XR F D) (c : 88 ≤ F.2.2.2.1) (z : FRZ P F G) (g : GW G) (e25 : G.1 69 25 = F.1 69 25) (hP : ∀ q, P q → q ≠ 71 ∧ q ≠ 74 ∧ q ≠ 75 ∧ q ≠ 77 ∧ q ≠ 84 ∧ q ≠ 85 ∧ q ≠ 86) : XR G D := by
  have i71 := (z.2 71 (by omega) (fun p => by have := hP _ p; omega)).1
  have l74 := (z.2 74 (by omega) (fun p => by have := hP _ p; omega)).2.2
  have l75 := (z.2 75 (by omega) (fun p => by have := hP _ p; omega)).2.2
  exact ⟨g, h.T.of fun k _ => i71 k, h.s.of h.T.mb fun k _ _ => i71 k, HSX.same h.h h.T.mb e25 (z.2 77 (by omega) (fun p => by have := hP _ p; omega)).1, ⟨fun q hq => by rw [l74]; exact h.n.1 q hq, fun q hq => by rw [l74]; exact h.n.2 q hq⟩, fun j hj => by rw [l75]; exact h.w j hj, fun k hk => (h.i hk).ce (z.2 84 (by omega) (fun p => by have := hP _ p; omega)).1 ((z.2 86 (by omega) (fun p => by have := hP _ p; omega)).1 k) (z.2 85 (by omega) (fun p => by have := hP _ p; omega)).2.2⟩
abbrev P12 (q : Nat) : Prop := q = 1 ∨ q = 2 ∨ q = 87
theorem wires_12 : ∀ y ∈ wires, P12 y.1 → y = (1, 0, 2) := by decide
abbrev P69 (q : Nat) : Prop := q = 69 ∨ q = 70 ∨ q = 83
theorem wires_69 : ∀ y ∈ wires, P69 y.1 → y = (69, 1, 70) ∨ y = (69, 6, 71) ∨ y = (69, 7, 72) ∨ y = (69, 8, 73) ∨ y = (69, 9, 74) ∨ y = (69, 10, 75) ∨ y = (69, 21, 76) ∨ y = (69, 23, 77) ∨ y = (69, 24, 78) ∨ y = (69, 26, 79) ∨ y = (69, 27, 80) ∨ y = (69, 31, 81) ∨ y = (69, 33, 82) ∨ y = (69, 39, 83) ∨ y = (69, 40, 84) ∨ y = (69, 41, 85) ∨ y = (69, 42, 86) := by decide
def okC (w : Nat × Nat × Nat) : Bool := decide (w.1 = 8) || decide (w.1 = 123) || decide (w.1 = 148)
def okX (w : Nat × Nat × Nat) : Bool := decide (w.1 = 11) || decide (w.1 = 131) || decide (w.1 = 144)
theorem okC_p {W : List (Nat × Nat × Nat)} (h : W.all okC = true) : ∀ w ∈ W, ∃ q, sf_P w.1 = some q ∧ P12 q := fun w hw => by
  have q := List.all_eq_true.mp h w hw
  unfold okC at q
  rw [Bool.or_eq_true, Bool.or_eq_true, decide_eq_true_eq, decide_eq_true_eq, decide_eq_true_eq] at q
  rcases q with (e | e) | e <;> rw [e]
  · exact ⟨1, rfl, by decide⟩
  · exact ⟨2, rfl, by decide⟩
  · exact ⟨87, rfl, by decide⟩
theorem okX_p {W : List (Nat × Nat × Nat)} (h : W.all okX = true) : ∀ w ∈ W, ∃ q, sf_P w.1 = some q ∧ P69 q := fun w hw => by
  have q := List.all_eq_true.mp h w hw
  unfold okX at q
  rw [Bool.or_eq_true, Bool.or_eq_true, decide_eq_true_eq, decide_eq_true_eq, decide_eq_true_eq] at q
  rcases q with (e | e) | e <;> rw [e]
  · exact ⟨69, rfl, by decide⟩
  · exact ⟨70, rfl, by decide⟩
  · exact ⟨83, rfl, by decide⟩
theorem gw12 {t' : Nat → Nat} {F : FW} {hp' : ab_H} (H' : sf_h t' hp') (g : GW F) (c : 88 ≤ F.2.2.2.1) (z : FRZ P12 F (fl hp')) : GW (fl hp') := fun y my => by
  by_cases p : P12 y.1
  · rw [wires_12 y my p]
    exact sfh_ref H' (g := 8) (g1 := 123) rfl (by decide) rfl rfl
  · exact ((z.2 y.1 (by have := (wires_lt y my).2; omega) p).2.1 _).trans (g y my)
theorem gw69 {t' : Nat → Nat} {F : FW} {hp' : ab_H} (H' : sf_h t' hp') (g : GW F) (c : 88 ≤ F.2.2.2.1) (z : FRZ P69 F (fl hp')) : GW (fl hp') := fun y my => by
  by_cases p : P69 y.1
  · rcases wires_69 y my p with e | e | e | e | e | e | e | e | e | e | e | e | e | e | e | e | e <;> rw [e]
    · exact sfh_ref H' (g := 11) (g1 := 131) rfl (by decide) rfl rfl
    · exact sfh_ref H' (g := 11) (g1 := 132) rfl (by decide) rfl rfl
    · exact sfh_ref H' (g := 11) (g1 := 133) rfl (by decide) rfl rfl
    · exact sfh_ref H' (g := 11) (g1 := 134) rfl (by decide) rfl rfl
    · exact sfh_ref H' (g := 11) (g1 := 135) rfl (by decide) rfl rfl
    · exact sfh_ref H' (g := 11) (g1 := 136) rfl (by decide) rfl rfl
    · exact sfh_ref H' (g := 11) (g1 := 137) rfl (by decide) rfl rfl
    · exact sfh_ref H' (g := 11) (g1 := 138) rfl (by decide) rfl rfl
    · exact sfh_ref H' (g := 11) (g1 := 139) rfl (by decide) rfl rfl
    · exact sfh_ref H' (g := 11) (g1 := 140) rfl (by decide) rfl rfl
    · exact sfh_ref H' (g := 11) (g1 := 141) rfl (by decide) rfl rfl
    · exact sfh_ref H' (g := 11) (g1 := 142) rfl (by decide) rfl rfl
    · exact sfh_ref H' (g := 11) (g1 := 143) rfl (by decide) rfl rfl
    · exact sfh_ref H' (g := 11) (g1 := 144) rfl (by decide) rfl rfl
    · exact sfh_ref H' (g := 11) (g1 := 145) rfl (by decide) rfl rfl
    · exact sfh_ref H' (g := 11) (g1 := 146) rfl (by decide) rfl rfl
    · exact sfh_ref H' (g := 11) (g1 := 147) rfl (by decide) rfl rfl
  · exact ((z.2 y.1 (by have := (wires_lt y my).2; omega) p).2.1 _).trans (g y my)
/-- a field of a place that stands alone -/
theorem gi_fr {W : List (Nat × Nat × Nat)} {t t' : Nat → Nat} {hp hp' : ab_H} {g p k : Nat} {lo hi : Int} (H : sf_h t hp) (f : sf_fr W t hp t' hp') (hP : sf_P g = some p) (hg : g < 100) (hk : (sf_C g)[k]? = some (0, lo, hi)) (hW : sf_inW W g k = false) : (fl hp').1 p k = (fl hp).1 p k := by
  obtain ⟨a1, a2⟩ := H.2.2.1 g p hP
  have e := f.2.2.1 p a1 k (by rw [a2]; exact hW)
  have c := H.1 p a1
  rw [a2] at c
  unfold sf_c at c
  have q : ∃ v : Int, sf_rd hp p k = some v := by
    unfold sf_rd
    split at c
    · rename_i o ho
      obtain ⟨v, hv, hk'⟩ := c.2.2 k _ hk
      unfold sf_v at hk'
      split at hk'
      · rename_i x
        exact ⟨x.toInt, by first | (rw [hv]; rfl) | (rw [ho]; dsimp only; rw [hv]; rfl)⟩
      · exact absurd hk'.1 (by show ¬ (0 : Nat) = 1; decide)
      · exact absurd hk'.1 (by show ¬ (0 : Nat) = 1; decide)
      · exact absurd hk' (by show ¬ (0 : Nat) = 2; decide)
      · exact absurd hk' id
    · exact absurd c.1 (by omega)
  obtain ⟨v, hv⟩ := q
  exact Int32.toInt_inj.mp ((gi_rd (e.trans hv)).trans (gi_rd hv).symm)
theorem CRW {W : List (Nat × Nat × Nat)} {t t' : Nat → Nat} {hp hp' : ab_H} {D : DD} (ok : W.all okC = true) (H : sf_h t hp) (H' : sf_h t' hp') (f : sf_fr W t hp t' hp') (h : CR (fl hp) D) : CR (fl hp') D ∧ KX (fl hp) (fl hp') := by
  have z : FRZ P12 (fl hp) (fl hp') := sfr_frz H f (okC_p ok)
  have g := gw12 H' h.G h.c z
  refine ⟨h.frz z g (fun q (c : q = 1 ∨ q = 2 ∨ q = 87) => by omega), fun E x => ?_⟩
  exact x.frz h.c z g ((z.2 69 (by have := h.c; omega) (by decide)).1 25) (fun q (c : q = 1 ∨ q = 2 ∨ q = 87) => by omega)
theorem XRW {W : List (Nat × Nat × Nat)} {t t' : Nat → Nat} {hp hp' : ab_H} {D : DD} (ok : W.all okX = true) (o25 : sf_inW W 11 25 = false) (H : sf_h t hp) (H' : sf_h t' hp') (f : sf_fr W t hp t' hp') (c : 88 ≤ (fl hp).2.2.2.1) (h : XR (fl hp) D) : XR (fl hp') D ∧ KC (fl hp) (fl hp') := by
  have z : FRZ P69 (fl hp) (fl hp') := sfr_frz H f (okX_p ok)
  have g := gw69 H' h.G c z
  refine ⟨h.frz c z g (gi_fr H f (g := 11) rfl (by decide) rfl o25) (fun q (c : q = 69 ∨ q = 70 ∨ q = 83) => by omega), fun E x => x.frz z g (fun q (c : q = 69 ∨ q = 70 ∨ q = 83) => by omega)⟩
