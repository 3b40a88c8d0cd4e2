/-! ===== a Strait and a LOG over both sides ===== -/
theorem SLT.r {F G : FW} (h : ∀ j, G.2.1 11 j = F.2.1 11 j) {a : Nat} (s : SLT G a) : SLT F a := by
  obtain ⟨j, v, h1, h2, h3⟩ := s
  exact ⟨j, v, h1, (h j).symm.trans h2, h3⟩
theorem IMS.ce {F G : FW} {I : Nat → Option Imx} (h : IMS F I) (e41 : ∀ k, G.2.1 41 k = F.2.1 41 k) (e11 : ∀ k, G.2.1 11 k = F.2.1 11 k) (c : F.2.2.2.1 ≤ G.2.2.2.1) (x : ∀ a, 88 ≤ a → a < F.2.2.2.1 → (∀ k, G.1 a k = F.1 a k) ∧ (∀ k, G.2.1 a k = F.2.1 a k) ∧ ∀ k, G.2.2.1 a k = F.2.2.1 a k) : IMS G I := by
  obtain ⟨vs, h1, h2⟩ := h
  refine ⟨vs, fun j hj => ?_, h2⟩
  have q := h1 j hj
  unfold IMC at q ⊢
  cases e : I j with
  | none =>
    rw [e] at q
    exact (e41 j).trans q
  | some y =>
    rw [e] at q
    obtain ⟨E, q⟩ := q
    have q3 := q.2.2.1
    have q2 := q.2.1
    have q9 := q.2.2.2.2.2.2.2.2
    exact ⟨E, q.ce (e41 j) c (fun a a1 a2 => x a (by omega) (by omega)) (fun a a1 a2 s => q9 a a1 a2 (SLT.r e11 s))⟩
theorem CR.mv {F G : FW} {B : Nat → Int} {n lim : Nat} {D : DD} (h : CR F D) (q : MVQ F G B n lim) : CR G D := by
  obtain ⟨z, g, -⟩ := q
  have c := h.c
  have z0 := (z.2 0 (by omega) (by decide)).2.1
  refine ⟨g, Nat.le_trans c z.1, ?_, ?_, h.s.frz z (by omega) (fun a a1 a2 => mvp_n (by omega)), h.h.frz z (fun a p => mvp_l p) c, h.i.ce (z.2 41 (by omega) (by decide)).2.1 (z.2 11 (by omega) (by decide)).2.1 z.1 (fun a a1 a2 => z.2 a a2 (mvp_n (by omega)))⟩
  · obtain ⟨t, p, j0, h1, h2, h3, h4⟩ := h.l
    exact ⟨t, p, j0, (z0 13).trans h1, (z0 14).trans h2, h3.frz z (by omega) (fun a a1 a2 => mvp_n (by omega)), h4.frz z (by omega) (mvp_n (by omega)) (mvp_n (by omega))⟩
  · obtain ⟨u, v, j0, h1, h2⟩ := h.e
    exact ⟨u, v, j0, (z0 15).trans h1, (z0 16).trans h2⟩
theorem KX.mv {F G : FW} {B : Nat → Int} {n lim : Nat} (c : 88 ≤ F.2.2.2.1) (q : MVQ F G B n lim) : KX F G := fun E x => by
  obtain ⟨z, g, -⟩ := q
  exact x.cells g (fun a k a1 a2 => (z.2 a (by omega) (mvp_n (by omega))).1 k) (fun a k a1 a2 => (z.2 a (by omega) (mvp_n (by omega))).2.2 k)
theorem KX.tr {F G K : FW} (a : KX F G) (b : KX G K) : KX F K := fun D h => b D (a D h)
theorem KC.tr {F G K : FW} (a : KC F G) (b : KC G K) : KC F K := fun D h => b D (a D h)
/-- what a Strait makes of all that is -/
def dSt (D : DD) (s : PS) (f : Int) : DD := if f = 0 then (psT s, s.nm, psS (psT s), 0, dH D, dI D) else D
theorem DOK.st {D : DD} {s : PS} {f : Int} {T : Nat → TT} {l i : Nat} (h : DOK D) (e : lns T l = some (s, i)) : DOK (dSt D s f) := by
  unfold dSt
  split
  · exact ⟨psT_b (lns_psk e), psS_i (lns_psk e), fun j hj => absurd hj (Nat.not_lt_zero j), h.2.2.2⟩
  · exact h
theorem stp_one {T : Nat → TT} {l l' i i' : Nat} {s s' : PS} {x x' : Int × Int} (h : lns T l = some (s, i)) (hx : stp T l s i = some x) (h' : lns T l' = some (s', i')) (hx' : stp T l' s' i' = some x') : l = l' ∧ s = s' ∧ x = x' := by
  rcases Nat.lt_trichotomy l l' with c | c | c
  · have z := lns_stop h hx (l' - (l + 1))
    rw [show l + 1 + (l' - (l + 1)) = l' by omega, h'] at z
    cases z
  · subst c
    obtain ⟨rfl, rfl⟩ := Prod.mk.inj (Option.some.inj (h.symm.trans h'))
    exact ⟨rfl, rfl, Option.some.inj (hx.symm.trans hx')⟩
  · have z := lns_stop h' hx' (l - (l' + 1))
    rw [show l' + 1 + (l - (l' + 1)) = l by omega, h] at z
    cases z
theorem HST.csf {p u m m' n : Nat} {F G : FW} {H H' : Nat → Sh} (h : HST F m n H) (x : CSF p u F G) (hp : p + 7 < 88) (hu : u < 88) (e : G.1 10 1 = 0) : HST G m' 0 H' := by
  obtain ⟨c, s, hW, h1, h2, h3⟩ := h
  have r11 : ∀ j, G.2.1 11 j = F.2.1 11 j := fun j => x.1 11 j (by omega)
  refine ⟨c, s, ⟨hW.1, fun j hj => ?_, fun j a b => (r11 j).trans (hW.2.2.1 j a b), hW.2.2.2⟩, Nat.zero_le _, e, fun j hj => absurd hj (Nat.not_lt_zero j)⟩
  obtain ⟨b1, b2, b3, b4⟩ := hW.2.1 j hj
  exact ⟨(r11 j).trans b1, fun i hi => (x.1 (s j) i (by omega)).trans (b2 i hi), b3, by rw [x.2.1]; exact b4⟩
theorem o7w {F : FW} (h : GW F) : O7 F 12 ∧ O7 F 20 ∧ O7 F 45 ∧ O7 F 53 := by
  refine ⟨fun j hj => ?_, fun j hj => ?_, fun j hj => ?_, fun j hj => ?_⟩ <;> (match j, hj with
    | 0, _ => exact h.at (by decide)
    | 1, _ => exact h.at (by decide)
    | 2, _ => exact h.at (by decide)
    | 3, _ => exact h.at (by decide)
    | 4, _ => exact h.at (by decide)
    | 5, _ => exact h.at (by decide)
    | 6, _ => exact h.at (by decide)
    | j + 7, h => exact absurd h (by omega))
theorem d_strait {tt : Nat → Nat} {hp : ab_H} {tn : Nat} {D : DD} (Hs : sf_h tt hp) (hce : sf_cE kq_X8_moveInto_v Z_X8_moveInto ke_X8_moveInto_v) (hn : sf_rd hp 1 1 = some (tn : Int)) (h : CR (fl hp) D) : Pj Z_X10_strait [.ref 0] hp (fun v F' => ∃ l i s a f, lns (tok (bv hp 2 tn) tn 900) l = some (s, i) ∧ stp (tok (bv hp 2 tn) tn 900) l s i = some (a, f) ∧ (∃ z, v = some (.int z)) ∧ (F'.1 0 18).toInt = f ∧ CR F' (dSt D s f) ∧ KX (fl hp) F') := by
  obtain ⟨t, p, j0, h13, h14, hT, hN⟩ := h.l
  obtain ⟨u, v, ju, h15, h16⟩ := h.e
  have w7 := o7w h.G
  refine (o_strait Hs hce hn h.G h13 h14 j0 h15 (by omega) w7.1 (by rcases j0 with ⟨-, rfl⟩ | ⟨-, rfl⟩; exact w7.2.2.2; exact w7.2.2.1) h.c).imp ?_
  rintro r F' ⟨F1, mv, l, i, s, hl, c⟩
  have h1 := h.mv mv
  have kx1 := KX.mv h.c mv
  have c1 := h1.c
  have z := mv.1
  have z0 := (z.2 0 (by have := h.c; omega) (by decide)).2.1
  rcases c with ⟨hst, e, sc, bg, r13, r14, i18, iu, i10, x⟩ | ⟨f, j, w, hst, hf, e, ew, e18, x, x0⟩
  · refine ⟨l, i, s, _, _, hl, hst, ⟨_, e⟩, by rw [i18]; rfl, ?_, kx1.tr ?_⟩
    · have k := lns_psk hl
      show CR F' (if (0 : Int) = 0 then (psT s, s.nm, psS (psT s), 0, dH D, dI D) else D)
      rw [if_pos rfl]
      refine ⟨x.G h1.G, by rw [x.2.1]; exact c1, ⟨p, t, by omega, r13, r14, sc.tr k, sc.nmc⟩, ⟨u, v, ju, (x.1 0 15 (by decide)).trans ((z0 15).trans h15), (x.1 0 16 (by decide)).trans ((z0 16).trans h16)⟩, bg.sh sc (x.O7 (by decide) (o7w h1.G).1), h1.h.csf x (by omega) (by omega) i10, h1.i.ce (fun k => x.1 41 k (by omega)) (fun k => x.1 11 k (by omega)) (by rw [x.2.1]; exact Nat.le_refl _) (fun a a1 a2 => ⟨fun k => x.2.2.1 a k (by omega), fun k => x.1 a k (by omega), fun k => x.2.2.2 a k (by omega)⟩)⟩
    · exact fun E y => y.cells (x.G h1.G) (fun a k a1 a2 => x.2.2.1 a k (by omega)) (fun a k a1 a2 => x.2.2.2 a k (by omega))
  · refine ⟨l, i, s, _, _, hl, hst, ⟨_, e⟩, e18, ?_, kx1.tr (FX.kx h1 x (fun q (c : q = 0 ∨ q = 3 ∨ (p ≤ q ∧ q ≤ p + 7)) => by omega))⟩
    unfold dSt
    rw [if_neg hf]
    have g := h1.G.fx x
    have r0 : ∀ k, F'.2.1 0 k = (fl hp).2.1 0 k := fun k => by rw [x.2.2.1]; exact z0 k
    have hT1 : TR F1 t (dT D) := hT.frz z (by have := h.c; show t + 8 ≤ _; omega) (fun a a1 a2 => mvp_n (by omega))
    have hN1 : NMC F1 t (dT D) (dN D) := hN.frz z (by have := h.c; show t + 3 ≤ _; omega) (mvp_n (by omega)) (mvp_n (by omega))
    refine ⟨g, by rw [x.2.2.2]; exact c1, ⟨t, p, j0, (r0 13).trans h13, (r0 14).trans h14, hT1.fx x (fun q a1 a2 (c : q = 0 ∨ q = 3 ∨ (p ≤ q ∧ q ≤ p + 7)) => by omega), hN1.ce fun a a1 a2 k => x.2.1 a k (fun (c : a = 0 ∨ a = 3 ∨ (p ≤ a ∧ a ≤ p + 7)) => by omega)⟩, ⟨u, v, ju, (r0 15).trans h15, (r0 16).trans h16⟩, h1.s.fx x (fun q a1 a2 (c : q = 0 ∨ q = 3 ∨ (p ≤ q ∧ q ≤ p + 7)) => by omega), h1.h.fx x (fun q (c : q = 0 ∨ q = 3 ∨ (p ≤ q ∧ q ≤ p + 7)) => by omega), h1.i.ce (fun k => by rw [x.2.2.1]) (fun k => by rw [x.2.2.1]) (by rw [x.2.2.2]; exact Nat.le_refl _) (fun a a1 a2 => ⟨fun k => x.1 a k (fun (c : a = 0 ∨ a = 3 ∨ (p ≤ a ∧ a ≤ p + 7)) => by omega), fun k => by rw [x.2.2.1], fun k => x.2.1 a k (fun (c : a = 0 ∨ a = 3 ∨ (p ≤ a ∧ a ≤ p + 7)) => by omega)⟩)⟩
