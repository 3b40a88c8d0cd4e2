/-! ===== sentences on both sides: what stays ===== -/
theorem wires_15 : ∀ y ∈ wires, ¬ (y.1 = 0 ∧ (y.2.1 = 15 ∨ y.2.1 = 16)) := by decide
theorem CR.sw {K : FW} {D : DD} {p u : Nat} (h : CR K D) (ju : (p = 61 ∧ u = 65) ∨ (p = 65 ∧ u = 61)) : CR (fpr (fpr K 0 15 (.ref u)) 0 16 (.ref p)) D ∧ KX K (fpr (fpr K 0 15 (.ref u)) 0 16 (.ref p)) := by
  have e15 : (fpr (fpr K 0 15 (.ref u)) 0 16 (.ref p)).2.1 0 15 = .ref u := (fpr_ne (Or.inr (by decide))).trans fpr_eq
  have e16 : (fpr (fpr K 0 15 (.ref u)) 0 16 (.ref p)).2.1 0 16 = .ref p := fpr_eq
  have z : FRZ (fun q => q = 0) K (fpr (fpr K 0 15 (.ref u)) 0 16 (.ref p)) := (fpr_frz (P := fun q => q = 0) rfl).tr (fpr_frz (P := fun q => q = 0) rfl)
  have r : ∀ a k, ¬ (a = 0 ∧ (k = 15 ∨ k = 16)) → (fpr (fpr K 0 15 (.ref u)) 0 16 (.ref p)).2.1 a k = K.2.1 a k := fun a k c => (fpr_ne (by omega)).trans (fpr_ne (by omega))
  obtain ⟨G, hGe⟩ : ∃ G : FW, G = fpr (fpr K 0 15 (.ref u)) 0 16 (.ref p) := ⟨_, rfl⟩
  rw [← hGe] at e15 e16 z r
  rw [← hGe]
  have g : GW G := fun y my => (r y.1 y.2.1 (wires_15 y my)).trans (h.G y my)
  have c := h.c
  refine ⟨⟨g, Nat.le_trans c z.1, ?_, ⟨u, p, by omega, e15, e16⟩, h.s.frz z (by omega) (fun a a1 a2 (q : a = 0) => by omega), h.h.frz z (fun a (q : a = 0) => by omega) c, h.i.ce (z.2 41 (by omega) (by decide)).2.1 (z.2 11 (by omega) (by decide)).2.1 z.1 (fun a a1 a2 => z.2 a a2 (fun (q : a = 0) => by omega))⟩, fun E x => x.cells g (fun a k a1 a2 => (z.2 a (by omega) (fun (q : a = 0) => by omega)).1 k) (fun a k a1 a2 => (z.2 a (by omega) (fun (q : a = 0) => by omega)).2.2 k)⟩
  obtain ⟨t, s, j0, h1, h2, h3, h4⟩ := h.l
  exact ⟨t, s, j0, (r 0 13 (by omega)).trans h1, (r 0 14 (by omega)).trans h2, h3.frz z (by omega) (fun a a1 a2 (q : a = 0) => by omega), h4.frz z (by omega) (fun (q : t + 1 = 0) => by omega) (fun (q : t + 2 = 0) => by omega)⟩
theorem d_sentence {tt : Nat → Nat} {hp : ab_H} {tn : Nat} {D : DD} (Hs : sf_h tt hp) (hce : sf_cE kq_X8_moveInto_v Z_X8_moveInto ke_X8_moveInto_v) (hn : sf_rd hp 1 1 = some (tn : Int)) (h : CR (fl hp) D) : Pj Z_X10_sentence [.ref 0] hp (fun r F' => (∃ z, r = some (.int z)) ∧ CR F' D ∧ KX (fl hp) F') := by
  have hw := wt_of Hs
  refine Pj.of fun N => ?_
  obtain ⟨Q, hQ⟩ : ∃ Q : Option Value → FW → Prop, Q = (fun r F' => (∃ z, r = some (.int z)) ∧ CR F' D ∧ KX (fl hp) F') := ⟨_, rfl⟩
  rw [← hQ]
  obtain ⟨p, u, ju, h15, h16⟩ := h.e
  refine (show Pw (ab_T (L_X10_sentence Z_X8_moveInto Z_X5_readText)) N 0 [some (.ref 0), none] [] hp Q from ?_)
  refine Pw.aload rfl rfl ?_
  refine Pw.getR (v := .ref 1) hw rfl rfl (GW.at (a := 0) (k := 0) (b := 1) h.G (by decide)) ?_
  refine Pw.aload rfl rfl ?_
  refine Pw.getR (v := .ref 3) hw rfl rfl (GW.at (a := 0) (k := 1) (b := 3) h.G (by decide)) ?_
  refine Pw.lit rfl ?_
  refine Pw.callV (as := [.ref 1, .ref 3, .int (Int32.ofNat 200)]) (rest := []) rfl rfl rfl (fun o e => ?_)
  obtain ⟨w, r0, q⟩ := mv_flat (x := 200) Hs (by omega) hce h.G h.c hn o e
  rw [r0]
  refine Pw.v w ?_
  refine (show Pv (ab_T (L_X10_sentence Z_X8_moveInto Z_X5_readText)) N 14 [some (.ref 0), none] [] (fl o.2) Q from ?_)
  have h1 := h.mv q
  have kx1 := KX.mv h.c q
  have z0 := (q.1.2 0 (by have := h.c; omega) (by decide)).2.1
  have o3 := o3w h1.G
  refine Pv.imp (o_se14 (p := p) (u := u) h1.G ((z0 15).trans h15) ((z0 16).trans h16) (by rcases ju with ⟨-, rfl⟩ | ⟨-, rfl⟩; exact o3.2; exact o3.1) N) ?_
  rintro r F' ⟨K, z, x, e1, c⟩
  rw [hQ]
  have y : FX (fun q => q = 0 ∨ q = 3 ∨ (u ≤ q ∧ q ≤ u + 3)) (fl o.2) (fp K 0 18 (K.1 3 9)) := FX.fp (FX.wd x (fun _ c => Or.inr c)) (Or.inl rfl)
  have h2 : CR (fp K 0 18 (K.1 3 9)) D := h1.fx y (fun q (c : q = 0 ∨ q = 3 ∨ (u ≤ q ∧ q ≤ u + 3)) => by omega)
  have kx2 : KX (fl hp) (fp K 0 18 (K.1 3 9)) := kx1.tr (FX.kx h1 y (fun q (c : q = 0 ∨ q = 3 ∨ (u ≤ q ∧ q ≤ u + 3)) => by omega))
  rcases c with rfl | rfl
  · exact ⟨⟨z, e1⟩, h2, kx2⟩
  · have s := h2.sw ju
    exact ⟨⟨z, e1⟩, s.1, kx2.tr s.2⟩
/-- as sfr_frz, but for the mark that no cell bears -/
theorem sfr_frz9 {P : Nat → Prop} {W : List (Nat × Nat × Nat)} {t t' : Nat → Nat} {hp hp' : ab_H} (H : sf_h t hp) (f : sf_fr W t hp t' hp') (hW : ∀ w ∈ W, w.1 = 999 ∨ ∃ q, sf_P w.1 = some q ∧ P q) : FRZ P (fl hp) (fl hp') := by
  refine ⟨f.1, fun a ha c => ?_⟩
  have e : hp'.2 a = hp.2 a := f.2.2.2.1 a ha (by
    rw [List.all_eq_true]
    intro w hw
    refine decide_eq_true fun e => ?_
    rcases hW w hw with e9 | ⟨q, hq, hP⟩
    · have y := H.1 a ha
      rw [← e, e9] at y
      unfold sf_c at y
      split at y
      · exact absurd y.2.1 (by decide)
      · rename_i x _
        have y1 : x.1 = 9 := y.2.1
        have y2 := y.2.2.2
        split at y2
        · exact absurd y2.2.1 (by omega)
        · omega
        · exact absurd y2.2.1 (by omega)
        · exact y2
    · rw [e] at hq
      obtain rfl := H.2.1 a q ha hq
      exact c hP)
  refine ⟨fun k => ?_, fun k => ?_, fun k => ?_⟩
  · show gi hp' a k = gi hp a k
    unfold gi
    rw [e]
  · show gr hp' a k = gr hp a k
    unfold gr
    rw [e]
  · show gl hp' a k = gl hp a k
    unfold gl
    rw [e]
abbrev P7S (q : Nat) : Prop := q = 69 ∨ q = 71 ∨ q = 73 ∨ q = 82
theorem wires_7S : ∀ y ∈ wires, P7S y.1 → y = (69, 1, 70) ∨ y = (69, 6, 71) ∨ y = (69, 7, 72) ∨ y = (69, 8, 73) ∨ y = (69, 9, 74) ∨ y = (69, 10, 75) ∨ y = (69, 21, 76) ∨ y = (69, 23, 77) ∨ y = (69, 24, 78) ∨ y = (69, 26, 79) ∨ y = (69, 27, 80) ∨ y = (69, 31, 81) ∨ y = (69, 33, 82) ∨ y = (69, 39, 83) ∨ y = (69, 40, 84) ∨ y = (69, 41, 85) ∨ y = (69, 42, 86) := by decide
theorem gw7S {t' : Nat → Nat} {F : FW} {hp' : ab_H} (H' : sf_h t' hp') (g : GW F) (c : 88 ≤ F.2.2.2.1) (z : FRZ P7S F (fl hp')) : GW (fl hp') := fun y my => by
  by_cases p : P7S y.1
  · rcases wires_7S y my p with e | e | e | e | e | e | e | e | e | e | e | e | e | e | e | e | e <;> rw [e]
    · exact sfh_ref H' (g := 11) (g1 := 131) rfl (by decide) rfl rfl
    · exact sfh_ref H' (g := 11) (g1 := 132) rfl (by decide) rfl rfl
    · exact sfh_ref H' (g := 11) (g1 := 133) rfl (by decide) rfl rfl
    · exact sfh_ref H' (g := 11) (g1 := 134) rfl (by decide) rfl rfl
    · exact sfh_ref H' (g := 11) (g1 := 135) rfl (by decide) rfl rfl
    · exact sfh_ref H' (g := 11) (g1 := 136) rfl (by decide) rfl rfl
    · exact sfh_ref H' (g := 11) (g1 := 137) rfl (by decide) rfl rfl
    · exact sfh_ref H' (g := 11) (g1 := 138) rfl (by decide) rfl rfl
    · exact sfh_ref H' (g := 11) (g1 := 139) rfl (by decide) rfl rfl
    · exact sfh_ref H' (g := 11) (g1 := 140) rfl (by decide) rfl rfl
    · exact sfh_ref H' (g := 11) (g1 := 141) rfl (by decide) rfl rfl
    · exact sfh_ref H' (g := 11) (g1 := 142) rfl (by decide) rfl rfl
    · exact sfh_ref H' (g := 11) (g1 := 143) rfl (by decide) rfl rfl
    · exact sfh_ref H' (g := 11) (g1 := 144) rfl (by decide) rfl rfl
    · exact sfh_ref H' (g := 11) (g1 := 145) rfl (by decide) rfl rfl
    · exact sfh_ref H' (g := 11) (g1 := 146) rfl (by decide) rfl rfl
    · exact sfh_ref H' (g := 11) (g1 := 147) rfl (by decide) rfl rfl
  · exact ((z.2 y.1 (by have := (wires_lt y my).2; omega) p).2.1 _).trans (g y my)
/-- an element of an array of numbers that stands alone -/
theorem gi_el {W : List (Nat × Nat × Nat)} {t t' : Nat → Nat} {hp hp' : ab_H} {g p k n : Nat} (H : sf_h t hp) (f : sf_fr W t hp t' hp') (hP : sf_P g = some p) (hg : 100 ≤ g) (h1 : (sf_A g).1 < 4) (h2 : (sf_A g).1 ≠ 2) (hn : (sf_A g).2.1 = n) (hk : k < n) (hW : sf_inW W g k = false) : (fl hp').1 p k = (fl hp).1 p k := by
  obtain ⟨a1, a2⟩ := H.2.2.1 g p hP
  have e := f.2.2.1 p a1 k (by rw [a2]; exact hW)
  have c := H.1 p a1
  rw [a2] at c
  unfold sf_c at c
  have q : ∃ v : Int, sf_rd hp p k = some v := by
    unfold sf_rd
    split at c
    · exact absurd c.2.1 (by omega)
    · rename_i x hx
      obtain ⟨-, c1, c2, c3⟩ := c
      split at c3
      · rename_i y hy
        first | rw [hy] | (rw [hx]; dsimp only; rw [hy])
        dsimp only
        rw [decide_eq_true (show k < x.2.1 by omega)]
        exact ⟨_, rfl⟩
      · exact absurd (c1.symm.trans c3) h2
      · exact absurd c3.1 (by omega)
      · exact absurd c3 id
  obtain ⟨v, hv⟩ := q
  exact Int32.toInt_inj.mp ((gi_rd (e.trans hv)).trans (gi_rd hv).symm)
theorem XRS {t t' : Nat → Nat} {hp hp' : ab_H} {D : DD} (H : sf_h t hp) (H' : sf_h t' hp') (f : sf_fr [(11, 0, 0), (11, 2, 5), (11, 11, 18), (11, 34, 38), (132, 253, 433), (134, 0, 159), (143, 0, 44), (999, 0, 0)] t hp t' hp') (c : 88 ≤ (fl hp).2.2.2.1) (h : XR (fl hp) D) : XR (fl hp') D ∧ KC (fl hp) (fl hp') := by
  have z : FRZ P7S (fl hp) (fl hp') := sfr_frz9 H f (by
    intro w hw
    simp only [List.mem_cons, List.not_mem_nil, or_false] at hw
    rcases hw with rfl | rfl | rfl | rfl | rfl | rfl | rfl | rfl
    · exact Or.inr ⟨69, rfl, by decide⟩
    · exact Or.inr ⟨69, rfl, by decide⟩
    · exact Or.inr ⟨69, rfl, by decide⟩
    · exact Or.inr ⟨69, rfl, by decide⟩
    · exact Or.inr ⟨71, rfl, by decide⟩
    · exact Or.inr ⟨73, rfl, by decide⟩
    · exact Or.inr ⟨82, rfl, by decide⟩
    · exact Or.inl rfl)
  have g := gw7S H' h.G c z
  have e71 : ∀ k, k < 253 → (fl hp').1 71 k = (fl hp).1 71 k := fun k hk => gi_el H f (g := 132) (n := 434) rfl (by decide) (by decide) (by decide) rfl (by omega) (by
    unfold sf_inW
    simp only [List.any_cons, List.any_nil]
    rw [decide_eq_false (show ¬ 253 ≤ k by omega)]
    simp)
  have e25 : (fl hp').1 69 25 = (fl hp).1 69 25 := gi_fr H f (g := 11) rfl (by decide) rfl (by decide)
  refine ⟨⟨g, h.T.of fun k hk => e71 k (by omega), h.s.of h.T.mb fun k _ hk => e71 k hk, HSX.same h.h h.T.mb e25 (z.2 77 (by omega) (by decide)).1, ⟨fun q hq => by rw [(z.2 74 (by omega) (by decide)).2.2]; exact h.n.1 q hq, fun q hq => by rw [(z.2 74 (by omega) (by decide)).2.2]; exact h.n.2 q hq⟩, fun j hj => by rw [(z.2 75 (by omega) (by decide)).2.2]; exact h.w j hj, fun k hk => (h.i hk).ce (z.2 84 (by omega) (by decide)).1 ((z.2 86 (by omega) (by decide)).1 k) (z.2 85 (by omega) (by decide)).2.2⟩, fun E x => x.frz z g (fun q (c : q = 69 ∨ q = 71 ∨ q = 73 ∨ q = 82) => by omega)⟩
