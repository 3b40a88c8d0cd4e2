/-! ===== images over both sides ===== -/
theorem SE.any {F : FW} {u : Nat} (o : O3 F u) : ∃ E, SE F u E := ⟨(F.1 u 3, F.1 u 4, F.1 u 5, F.1 (u + 1), F.1 (u + 2), F.1 (u + 3)), o, rfl, rfl, rfl, fun _ _ => rfl, fun _ _ => rfl, fun _ _ => rfl⟩
theorem o3w {F : FW} (h : GW F) : O3 F 61 ∧ O3 F 65 := by
  refine ⟨fun j hj => ?_, fun j hj => ?_⟩ <;> (match j, hj with
    | 0, _ => exact h.at (by decide)
    | 1, _ => exact h.at (by decide)
    | 2, _ => exact h.at (by decide)
    | j + 3, h => exact absurd h (by omega))
theorem HST.sl {F : FW} {m n a : Nat} {H : Nat → Sh} (h : HST F m n H) (s : SLT F a) : a < F.2.2.2.1 := by
  obtain ⟨j, v, hj, e, h1, h2⟩ := s
  obtain ⟨c, s, hW, -⟩ := h
  rcases Nat.lt_or_ge j c with q | q
  · have w := hW.2.1 j q
    rw [w.1] at e
    obtain rfl := Value.ref.inj e
    omega
  · have w := hW.2.2.1 j q hj
    rw [w] at e
    cases e
theorem HST.fxn {P : Nat → Prop} {F G : FW} {m n : Nat} {H : Nat → Sh} (h : HST F m n H) (x : FX P F G) (c : ∀ a, P a → a ≠ 10 ∧ ¬ SLT F a) : HST G m n H := by
  obtain ⟨k, s, hW, h1, h2, h3⟩ := h
  refine ⟨k, s, ⟨hW.1, fun j hj => ?_, fun j a b => by rw [x.2.2.1]; exact hW.2.2.1 j a b, hW.2.2.2⟩, h1, (x.1 10 1 (fun q => (c 10 q).1 rfl)).trans h2, fun j hj => ?_⟩
  · obtain ⟨b1, b2, b3, b4⟩ := hW.2.1 j hj
    exact ⟨by rw [x.2.2.1]; exact b1, x.O7 b2, b3, by rw [x.2.2.2]; exact b4⟩
  · have b := hW.2.1 j (by omega)
    exact (h3 j hj).fx x (fun a c1 c2 p => (c a p).2 ⟨j, s j, by have := hW.1; omega, b.1, c1, c2⟩)
theorem HST.z {P : Nat → Prop} {F G : FW} {m m' n : Nat} {H H' : Nat → Sh} (h : HST F m n H) (x : FX P F G) (e : G.1 10 1 = 0) : HST G m' 0 H' := by
  obtain ⟨k, s, hW, h1, h2, h3⟩ := h
  refine ⟨k, s, ⟨hW.1, fun j hj => ?_, fun j a b => by rw [x.2.2.1]; exact hW.2.2.1 j a b, hW.2.2.2⟩, Nat.zero_le _, e, fun j hj => absurd hj (Nat.not_lt_zero j)⟩
  obtain ⟨b1, b2, b3, b4⟩ := hW.2.1 j hj
  exact ⟨by rw [x.2.2.1]; exact b1, x.O7 b2, b3, by rw [x.2.2.2]; exact b4⟩
def dIm (D : DD) (k : Nat) : DD := (dT D, dN D, dS D, dn D, dH D, fun j => if j = k then some (dT D, dN D, dS D) else dI D j)
theorem DOK.im {D : DD} {k : Nat} (h : DOK D) : DOK (dIm D k) := by
  refine ⟨h.1, h.2.1, h.2.2.1, fun j x e => ?_⟩
  have e' : (if j = k then some (dT D, dN D, dS D) else dI D j) = some x := e
  by_cases c : j = k
  · rw [if_pos c] at e'
    obtain rfl := Option.some.inj e'
    exact ⟨h.1, h.2.1⟩
  · rw [if_neg c] at e'
    exact h.2.2.2 j x e'
def dRs (D : DD) (k : Nat) : DD := match dI D k with
  | none => D
  | some x => (x.1, x.2.1, x.2.2, 0, dH D, dI D)
theorem DOK.rs {D : DD} {k : Nat} (h : DOK D) : DOK (dRs D k) := by
  unfold dRs
  cases e : dI D k with
  | none => exact h
  | some x => exact ⟨(h.2.2.2 k x e).1, (h.2.2.2 k x e).2, fun j hj => absurd hj (Nat.not_lt_zero j), h.2.2.2⟩
def dImo (D : DD) (o : Option Nat) : DD := match o with
  | none => D
  | some k => dIm D k
def dRso (D : DD) (o : Option Nat) : DD := match o with
  | none => D
  | some k => dRs D k
theorem d_image {F : FW} {D : DD} (h : CR F D) (x : Int32) : Pm Z_X10_image [.ref 0, .int x] F (fun r F' => (∃ z, r = some (.int z)) ∧ CR F' (dImo D (nd 2 x)) ∧ KX F F') := by
  cases hx : nd 2 x with
  | none => exact (o_image_n hx).imp fun r F' q => ⟨⟨_, q.1⟩, by rw [q.2]; exact h, by rw [q.2]; exact KX.rf⟩
  | some k =>
    obtain ⟨hk, rfl⟩ := nd_some hx
    obtain ⟨t, p, j0, h13, h14, hT, hN⟩ := h.l
    obtain ⟨u, w, ju, h15, h16⟩ := h.e
    have w3 := o3w h.G
    obtain ⟨E, hE⟩ : ∃ E, SE F u E := SE.any (by rcases ju with ⟨rfl, -⟩ | ⟨rfl, -⟩; exact w3.1; exact w3.2)
    obtain ⟨vs, iv, dj⟩ := h.i
    have ik := iv k hk
    unfold IMC at ik
    cases e : dI D k with
    | none =>
      rw [e] at ik
      refine (o_image_0 h.G hk ik h.c h13 hT hN h.s (by omega) h15 (by omega) hE).imp ?_
      rintro r F' ⟨er, c21, z, ej, ek, o3, tT, tN, tS, tE⟩
      have c := h.c
      have r0 := (z.2 0 (by omega) (by decide)).2.1
      have r11 := (z.2 11 (by omega) (by decide)).2.1
      have g := h.G.frz z c (fun y my => wires_41 y my)
      refine ⟨⟨_, er⟩, ⟨g, by omega, ⟨t, p, j0, (r0 13).trans h13, (r0 14).trans h14, hT.frz z (by omega) (fun a a1 a2 => by omega), hN.frz z (by omega) (by omega) (by omega)⟩, ⟨u, w, ju, (r0 15).trans h15, (r0 16).trans h16⟩, h.s.frz z (by omega) (fun a a1 a2 => by omega), h.h.frz z (fun a (q : a = 41) => by omega) c, ?_⟩, fun X y => y.cells g (fun a q a1 a2 => (z.2 a (by omega) (by omega)).1 q) (fun a q a1 a2 => (z.2 a (by omega) (by omega)).2.2 q)⟩
      have other : ∀ j, j < 2 → j ≠ k → IMC F' j (vs j) (dI D j) := fun j hj jk => by
        have q := iv j hj
        unfold IMC at q ⊢
        cases e2 : dI D j with
        | none =>
          rw [e2] at q
          exact (ej j jk).trans q
        | some y =>
          rw [e2] at q
          obtain ⟨E2, q⟩ := q
          have q3 := q.2.2.1
          have q2 := q.2.1
          have q9 := q.2.2.2.2.2.2.2.2
          exact ⟨E2, q.ce (ej j jk) (by omega) (fun a a1 a2 => z.2 a (by omega) (by omega)) (fun a a1 a2 s => q9 a a1 a2 (SLT.r r11 s))⟩
      refine ⟨fun j => if j = k then F.2.2.2.1 else vs j, fun j hj => ?_, ?_⟩
      · show IMC F' j (if j = k then F.2.2.2.1 else vs j) (if j = k then some (dT D, dN D, dS D) else dI D j)
        by_cases jk : j = k
        · rw [if_pos jk, if_pos jk, jk]
          exact ⟨E, ek, c, by omega, o3, tT, tN, tS, tE, fun a a1 a2 s => by have := h.h.sl (SLT.r r11 s); omega⟩
        · rw [if_neg jk, if_neg jk]
          exact other j hj jk
      · intro s0 s1
        show (if 0 = k then F.2.2.2.1 else vs 0) + 21 ≤ (if 1 = k then F.2.2.2.1 else vs 1) ∨ (if 1 = k then F.2.2.2.1 else vs 1) + 21 ≤ (if 0 = k then F.2.2.2.1 else vs 0)
        have bd : ∀ j, j < 2 → (dI D j).isSome = true → vs j + 21 ≤ F.2.2.2.1 := fun j hj sj => by
          have q := iv j hj
          unfold IMC at q
          cases e2 : dI D j with
          | none =>
            rw [e2] at sj
            cases sj
          | some y =>
            rw [e2] at q
            obtain ⟨E2, q⟩ := q
            exact q.2.2.1
        rcases (show k = 0 ∨ k = 1 by omega) with rfl | rfl
        · rw [if_pos rfl, if_neg (by decide)]
          exact Or.inr (bd 1 (by decide) s1)
        · rw [if_neg (by decide), if_pos rfl]
          exact Or.inl (bd 0 (by decide) s0)
    | some y =>
      rw [e] at ik
      obtain ⟨E2, iq⟩ := ik
      have i41 := iq.1
      have i88 := iq.2.1
      have ic := iq.2.2.1
      have i9 := iq.2.2.2.2.2.2.2.2
      refine (o_image_1 h.G hk i41 i88 iq.2.2.2.1 iq.2.2.2.2.1.o iq.2.2.2.2.2.2.1.o iq.2.2.2.2.2.2.2.1.o h13 hT hN h.s (by omega) h15 (by omega) hE).imp ?_
      rintro r F' ⟨er, z, tT, tN, tS, tE⟩
      have c := h.c
      have g := h.G.fx z
      have r2 : ∀ a q, F'.2.1 a q = F.2.1 a q := fun a q => by rw [z.2.2.1]
      refine ⟨⟨_, er⟩, ⟨g, by rw [z.2.2.2]; exact c, ⟨t, p, j0, (r2 0 13).trans h13, (r2 0 14).trans h14, hT.fx z (fun a a1 a2 (q : vs k ≤ a ∧ a ≤ vs k + 20) => by omega), hN.ce fun a a1 a2 q => z.2.1 a q (fun (b : vs k ≤ a ∧ a ≤ vs k + 20) => by omega)⟩, ⟨u, w, ju, (r2 0 15).trans h15, (r2 0 16).trans h16⟩, h.s.fx z (fun a a1 a2 (q : vs k ≤ a ∧ a ≤ vs k + 20) => by omega), h.h.fxn z (fun a (q : vs k ≤ a ∧ a ≤ vs k + 20) => ⟨by omega, i9 a q.1 q.2⟩), vs, fun j hj => ?_, ?_⟩, fun X y => y.cells g (fun a q a1 a2 => z.1 a q (fun (b : vs k ≤ a ∧ a ≤ vs k + 20) => by omega)) (fun a q a1 a2 => z.2.1 a q (fun (b : vs k ≤ a ∧ a ≤ vs k + 20) => by omega))⟩
      · show IMC F' j (vs j) (if j = k then some (dT D, dN D, dS D) else dI D j)
        by_cases jk : j = k
        · rw [if_pos jk, jk]
          exact ⟨E, (r2 41 k).trans i41, i88, by rw [z.2.2.2]; exact ic, ⟨(r2 _ _).trans iq.2.2.2.1.1, (r2 _ _).trans iq.2.2.2.1.2.1, (r2 _ _).trans iq.2.2.2.1.2.2⟩, tT, tN, tS, tE, fun a a1 a2 s => i9 a a1 a2 (SLT.r (r2 11) s)⟩
        · rw [if_neg jk]
          have q := iv j hj
          unfold IMC at q ⊢
          cases e2 : dI D j with
          | none =>
            rw [e2] at q
            exact (r2 41 j).trans q
          | some y2 =>
            rw [e2] at q
            obtain ⟨E3, q⟩ := q
            have q3 := q.2.2.1
            have q2 := q.2.1
            have q9 := q.2.2.2.2.2.2.2.2
            have ds : vs k + 21 ≤ vs j ∨ vs j + 21 ≤ vs k := by
              rcases (show k = 0 ∧ j = 1 ∨ k = 1 ∧ j = 0 by omega) with ⟨rfl, rfl⟩ | ⟨rfl, rfl⟩
              · exact dj (by rw [e]; rfl) (by rw [e2]; rfl)
              · exact (dj (by rw [e2]; rfl) (by rw [e]; rfl)).symm
            have np : ∀ a, vs j ≤ a → a ≤ vs j + 20 → ¬ (vs k ≤ a ∧ a ≤ vs k + 20) := fun a a1 a2 b => by omega
            exact ⟨E3, q.ce (r2 41 j) (by rw [z.2.2.2]; exact Nat.le_refl _) (fun a a1 a2 => ⟨fun i => z.1 a i (np a a1 a2), r2 a, fun i => z.2.1 a i (np a a1 a2)⟩) (fun a a1 a2 s => q9 a a1 a2 (SLT.r (r2 11) s))⟩
      · intro s0 s1
        have s0' : (if 0 = k then some (dT D, dN D, dS D) else dI D 0).isSome = true := s0
        have s1' : (if 1 = k then some (dT D, dN D, dS D) else dI D 1).isSome = true := s1
        refine dj ?_ ?_
        · by_cases q : 0 = k
          · rw [q, e]
            rfl
          · rw [if_neg q] at s0'
            exact s0'
        · by_cases q : 1 = k
          · rw [q, e]
            rfl
          · rw [if_neg q] at s1'
            exact s1'
theorem d_restore {F : FW} {D : DD} (h : CR F D) (x : Int32) : Pm Z_X10_restore [.ref 0, .int x] F (fun r F' => (∃ z, r = some (.int z)) ∧ CR F' (dRso D (nd 2 x)) ∧ KX F F') := by
  cases hx : nd 2 x with
  | none => exact (o_restore_n hx).imp fun r F' q => ⟨⟨_, q.1⟩, by rw [q.2]; exact h, by rw [q.2]; exact KX.rf⟩
  | some k =>
    obtain ⟨hk, rfl⟩ := nd_some hx
    obtain ⟨t, p, j0, h13, h14, hT, hN⟩ := h.l
    obtain ⟨u, w, ju, h15, h16⟩ := h.e
    have w3 := o3w h.G
    obtain ⟨E, hE⟩ : ∃ E, SE F u E := SE.any (by rcases ju with ⟨rfl, -⟩ | ⟨rfl, -⟩; exact w3.1; exact w3.2)
    have ik : IMC F k (h.i.choose k) (dI D k) := h.i.choose_spec.1 k hk
    unfold IMC at ik
    show Pm _ _ _ (fun r F' => (∃ z, r = some (.int z)) ∧ CR F' (dRs D k) ∧ KX F F')
    unfold dRs
    cases e : dI D k with
    | none =>
      rw [e] at ik
      exact (o_restore_0 h.G hk ik).imp fun r F' q => ⟨⟨_, q.1⟩, by rw [q.2]; exact h, by rw [q.2]; exact KX.rf⟩
    | some y =>
      rw [e] at ik
      obtain ⟨E2, iq⟩ := ik
      refine (o_restore_1 h.G hk iq.1 iq.2.1 iq.2.2.2.1 iq.2.2.2.2.1 iq.2.2.2.2.2.1 iq.2.2.2.2.2.2.1 iq.2.2.2.2.2.2.2.1 h13 hT (by omega) h15 (by omega) hE).imp ?_
      rintro r F' ⟨er, z, tT, tN, tS, tE, i10⟩
      have g := h.G.fx z
      have r2 : ∀ a q, F'.2.1 a q = F.2.1 a q := fun a q => by rw [z.2.2.1]
      have np : ∀ a, 69 ≤ a → ¬ ((t ≤ a ∧ a ≤ t + 7) ∨ (12 ≤ a ∧ a ≤ 19) ∨ (u ≤ a ∧ a ≤ u + 3) ∨ a = 10) := fun a a1 b => by omega
      exact ⟨⟨_, er⟩, ⟨g, by rw [z.2.2.2]; exact h.c, ⟨t, p, j0, (r2 0 13).trans h13, (r2 0 14).trans h14, tT, tN⟩, ⟨u, w, ju, (r2 0 15).trans h15, (r2 0 16).trans h16⟩, tS, h.h.z z i10, h.i.ce (r2 41) (r2 11) (by rw [z.2.2.2]; exact Nat.le_refl _) (fun a a1 a2 => ⟨fun i => z.1 a i (np a (by omega)), r2 a, fun i => z.2.1 a i (np a (by omega))⟩)⟩, fun X y => y.cells g (fun a q a1 a2 => z.1 a q (np a a1)) (fun a q a1 a2 => z.2.1 a q (np a a1))⟩
