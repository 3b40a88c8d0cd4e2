theorem sfh_srt {t : Nat → Nat} {hp : ab_H} {g p k g1 b : Nat} (H : sf_h t hp) (a1 : p < hp.1) (a2 : t p = g) (hg : g < 100) (hk : (sf_C g)[k]? = some (1, (g1 : Int), 0)) (e : (fl hp).2.1 p k = .ref b) : b < hp.1 ∧ t b = g1 := by
  have e' : gr hp p k = .ref b := e
  have c := H.1 p a1
  rw [a2] at c
  unfold sf_c at c
  unfold gr at e'
  split at c
  · rename_i o ho
    rw [ho] at e'
    dsimp only at e'
    obtain ⟨v, hv, hk'⟩ := c.2.2 k _ hk
    rw [hv] at e'
    unfold sf_v at hk'
    split at hk'
    · exact absurd hk'.1 (by show ¬ (1 : Nat) = 0; decide)
    · rename_i b'
      obtain ⟨-, hb, ht⟩ := hk'
      have ht' : (t b' : Int) = (g1 : Int) := ht
      obtain rfl := Value.ref.inj e'
      exact ⟨hb, by omega⟩
    · exact absurd hk'.2 (by show ¬ (0 : Int) = 1; decide)
    · exact absurd hk' (by show ¬ (1 : Nat) = 2; decide)
    · exact absurd hk' id
  · exact absurd c.1 (by omega)
theorem sfh_len {t : Nat → Nat} {hp : ab_H} {p : Nat} (H : sf_h t hp) (h14 : (fl hp).2.1 0 14 = .ref p) (o : O7 (fl hp) p) : (fl hp).2.2.2.2 (p + 4) = 48 := by
  obtain ⟨a1, a2⟩ := H.2.2.1 10 0 rfl
  obtain ⟨b1, b2⟩ := sfh_srt H a1 a2 (by decide) (k := 14) (g1 := 7) rfl h14
  have o3 := o 3 (by decide)
  rw [show p + 1 + 3 = p + 4 by omega] at o3
  obtain ⟨c1, c2⟩ := sfh_srt H b1 b2 (by decide) (k := 3) (g1 := 119) rfl o3
  have c := H.1 (p + 4) c1
  rw [c2] at c
  show gn hp (p + 4) = 48
  unfold sf_c at c
  unfold gn
  split at c
  · exact absurd c.2.1 (by decide)
  · rename_i x hx
    rw [hx]
    exact c.2.2.1
theorem mv_typed {t : Nat → Nat} {hp : ab_H} {x : Nat} (H : sf_h t hp) (hx : x ≤ 900) (hce : sf_cE kq_X8_moveInto_v Z_X8_moveInto ke_X8_moveInto_v) : ∀ o, Z_X8_moveInto [.ref 1, .ref 3, .int (Int32.ofNat x)] hp = some o → ∃ t', sf_h t' o.2 := by
  intro o e
  obtain ⟨a1, a2⟩ := H.2.2.1 8 1 rfl
  obtain ⟨b1, b2⟩ := H.2.2.1 9 3 rfl
  have xi : (Int32.ofNat x).toInt = x := i_toInt (by omega)
  obtain ⟨r, hp', t', e', H', -⟩ := hce t hp [.ref 1, .ref 3, .int (Int32.ofNat x)] H rfl (fun i j hj => match i, hj with
    | 0, hj => by cases hj; exact sf_j1 a1 a2
    | 1, hj => by cases hj; exact sf_j1 b1 b2
    | 2, hj => by cases hj; exact sf_j0
    | i + 3, hj => by cases hj) (sf_S_cons (sf_s1 (x := (Int32.ofNat x).toInt) rfl (by omega) (by omega)) sf_S_nil)
  obtain rfl := Option.some.inj (e.symm.trans e')
  exact ⟨t', H'⟩
set_option maxRecDepth 100000 in
set_option maxHeartbeats 4000000 in
theorem o_strait {tt : Nat → Nat} {hp : ab_H} {t p u tn : Nat} (Hs : sf_h tt hp) (hce : sf_cE kq_X8_moveInto_v Z_X8_moveInto ke_X8_moveInto_v) (hn : sf_rd hp 1 1 = some (tn : Int)) (hG : GW (fl hp)) (ht : (fl hp).2.1 0 13 = .ref t) (hp14 : (fl hp).2.1 0 14 = .ref p) (j0 : (t = 45 ∧ p = 53) ∨ (t = 53 ∧ p = 45)) (hu : (fl hp).2.1 0 15 = .ref u) (ju : u = 61 ∨ u = 65) (h12 : O7 (fl hp) 12) (hO : O7 (fl hp) p) (h88 : 88 ≤ (fl hp).2.2.2.1) : Pj Z_X10_strait [.ref 0] hp (fun v F' => ∃ F1, MVQ (fl hp) F1 (bv hp 2 tn) tn 900 ∧ CSW F1 F' (tok (bv hp 2 tn) tn 900) t p u v) := by
  have hw := wt_of Hs
  refine Pj.of fun N => ?_
  obtain ⟨Q, hQ⟩ : ∃ Q : Option Value → FW → Prop, Q = (fun v F' => ∃ F1, MVQ (fl hp) F1 (bv hp 2 tn) tn 900 ∧ CSW F1 F' (tok (bv hp 2 tn) tn 900) t p u v) := ⟨_, rfl⟩
  rw [← hQ]
  refine (show Pw (ab_T (L_X10_strait Z_X8_moveInto Z_X7_readText Z_X6_beginAs Z_X2_forget)) N 0 [some (.ref 0), none, none] [] hp Q from ?_)
  refine Pw.aload rfl rfl ?_
  refine Pw.getR (v := .ref 1) hw rfl rfl (GW.at (a := 0) (k := 0) (b := 1) hG (by decide)) ?_
  refine Pw.aload rfl rfl ?_
  refine Pw.getR (v := .ref 3) hw rfl rfl (GW.at (a := 0) (k := 1) (b := 3) hG (by decide)) ?_
  refine Pw.lit rfl ?_
  refine Pw.callV (as := [.ref 1, .ref 3, .int (Int32.ofNat 900)]) (rest := []) rfl rfl rfl (fun o e => ?_)
  obtain ⟨w, r0, q⟩ := mv_flat (x := 900) Hs (by omega) hce hG h88 hn o e
  obtain ⟨t', Ht⟩ := mv_typed (x := 900) Hs (by omega) hce o e
  rw [r0]
  refine Pw.v w ?_
  refine (show Pv (ab_T (L_X10_strait Z_X8_moveInto Z_X7_readText Z_X6_beginAs Z_X2_forget)) N 14 [some (.ref 0), none, none] [] (fl o.2) Q from ?_)
  have q' := q
  obtain ⟨z, g1, h4, h9, -, m, tk⟩ := q
  have z0 := (z.2 0 (by omega) (by decide)).2.1
  have zp : O7 (fl o.2) p := fun i hi => ((z.2 p (by omega) (mvp_n (by omega))).2.1 i).trans (hO i hi)
  have z14 := (z0 14).trans hp14
  refine Pv.imp (o_st14 g1 ((z0 13).trans ht) z14 j0 ((z0 15).trans hu) ju (fun i hi => ((z.2 12 (by omega) (by decide)).2.1 i).trans (h12 i hi)) zp (sfh_len Ht z14 zp) tk h4 h9 N) ?_
  rintro r F' x
  rw [hQ]
  exact ⟨fl o.2, q', x⟩
