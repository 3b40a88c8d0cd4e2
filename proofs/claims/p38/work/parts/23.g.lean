-- 63.b27.lean.txt
section
def kq_X11_next_v : sf_Q := ([(1, 11, 0)], [], none, [], [(11, 4, 4), (11, 11, 14), (11, 17, 17)])
def ke_X11_next_v : List Value → ab_H → Option Value → ab_H → Prop := fun _ hp _ hp' => ∀ p n l : Int, sf_rd hp 69 4 = some p → sf_rd hp 69 3 = some n → sf_rd hp 69 5 = some l → sf_psi hp' ≤ 2 * (940 - p) ∧ (p ≤ n → NT hp' (tkt (bv hp 70 n.toNat) n.toNat l.toNat p.toNat))
set_option maxRecDepth 100000 in
set_option maxHeartbeats 4000000 in
theorem ce_X11_next_v : sf_cE kq_X11_next_v Z_X11_next ke_X11_next_v := by
  intro t hp as H hl hj hpre
  match as, hl with
  | [v0], _ =>
    obtain ⟨a0, rfl, ra0⟩ := bs_aR (hj 0 _ rfl)
    obtain rfl := ra0.eq H (p := 69) rfl
    clear hpre hj
    have F0 : sf_fr [(999, 0, 0), (11, 4, 4), (11, 11, 14), (11, 17, 17)] t hp t hp := sf_fr_rf
    obtain ⟨P0, Q4, LP0, GP0⟩ := bs_fld (k := 4) H (bs_R.uq H (g := 11) rfl) (by decide) rfl
    obtain ⟨K0, Q11, -, -⟩ := bs_fld (k := 11) H (bs_R.uq H (g := 11) rfl) (by decide) rfl
    refine bs_finx (E := ke_X11_next_v) (K := kq_X11_next_v) (L := (L_X11_next Z_X11_peek Z_X11_isSmall Z_X11_isDigit)) (nL := 4) (Nat.le_of_ble_eq_true rfl) ?_
    obtain ⟨Q, hQ⟩ : ∃ Q : ab_O → Prop, Q = (fun o => ∃ t', sf_h t' o.2 ∧ sf_fr (kq_X11_next_v).2.2.2.2 t hp t' o.2 ∧ sf_an t' o.2.1 (kq_X11_next_v).2.2.1 o.1 ∧ sf_S (sf_v1 o.1 [.ref 69] o.2) (kq_X11_next_v).2.2.2.1 ∧ ke_X11_next_v [.ref 69] hp o.1 o.2) := ⟨_, rfl⟩
    rw [← hQ]
    refine (show Ev (ab_T (L_X11_next Z_X11_peek Z_X11_isSmall Z_X11_isDigit)) 0 ([some (.ref 69), none, none, none], [], (0, 0), hp) Q from ?_)
    obtain ⟨n0, hn0, ln0, un0⟩ := bs_fld (k := 3) H (bs_R.uq H (g := 11) rfl) (by decide) rfl
    obtain ⟨l0, hl0, ll0, ul0⟩ := bs_fld (k := 5) H (bs_R.uq H (g := 11) rfl) (by decide) rfl
    obtain ⟨BB, hBB⟩ : ∃ BB : Nat → Int, BB = bv hp 70 n0.toNat := ⟨_, rfl⟩
    have EB : ∀ hp' : ab_H, (∀ q, sf_rd hp' 70 q = sf_rd hp 70 q) → bv hp' 70 n0.toNat = BB := fun hp' h => (bv_same h).trans hBB.symm
    have RB : ∀ q, 0 ≤ BB q ∧ BB q ≤ 255 := fun q => by rw [hBB]; exact bv_rng _ _ _ _
    have INV : ∃ v : Int, sf_rd hp 69 4 = some v ∧ P0 ≤ v ∧ v ≤ 940 ∧ tk_e tk_b BB n0.toNat v.toNat = tk_e tk_b BB n0.toNat P0.toNat := ⟨_, Q4, by omega, by omega, rfl⟩
    refine bs_loop (ι := ab_H × (Nat → Nat)) (fun ⟨hp1, t2⟩ => ([some (.ref 69), none, none, none], [], (0, 0), hp1)) (fun ⟨hp1, t2⟩ => (sf_h t2 hp1) ∧ (sf_fr [(999, 0, 0), (11, 4, 4), (11, 11, 14), (11, 17, 17)] t hp t2 hp1) ∧ (sf_rd hp1 69 3 = some n0) ∧ (sf_rd hp1 69 5 = some l0) ∧ (∃ v : Int, sf_rd hp1 69 4 = some v ∧ P0 ≤ v ∧ v ≤ 940 ∧ tk_e tk_b BB n0.toNat v.toNat = tk_e tk_b BB n0.toNat P0.toNat)) (fun ⟨hp1, t2⟩ => (940 - (sf_rd hp1 69 4).getD 0).toNat) ?_ (hp, t) ⟨H, F0, hn0, hl0, (by exact INV)⟩
    rintro ⟨hp1, t2⟩ ⟨Hhp1, Fhp1, i4, i5, i6⟩ ih3
    clear INV
    refine (show Ev _ 0 ([some (.ref 69), none, none, none], [], (0, 0), hp1) _ from ?_)
    obtain ⟨y7, hy7, ly7, gy7, ky7⟩ := i6
    refine Ev.step (j := 1) (s' := ([some (.ref 69), none, none, none], [.ref 69], (0, 0), hp1)) rfl rfl ?_
    exact by
     refine pk_ev rfl Hhp1 rfl fun z8 pz8 oz8 mz8 => ?_
     refine (show Ev _ 4 ([some (.ref 69), none, none, none], [.int z8], (0, 0), hp1) _ from ?_)
     have bz8 := pkB pz8 hy7 i4 (by omega) (EB _ (fun q => Fhp1.2.2.1 _ (bs_R.uq H (g := 131) (p := 70) rfl).1 _ (by rw [(bs_R.uq H (g := 131) (p := 70) rfl).2]; rfl)))
     rw [show (y7).toNat = y7.toNat by omega] at bz8
     refine bs_lit (k := 32) rfl rfl fun z9 hz9 => ?_
     refine bs_eq rfl (fun c10 => ?_) (fun c10 => ?_)
     · skip
       have c11 : z8.toInt = 32 := by omega
       refine Ev.step (j := 19) (s' := ([some (.ref 69), none, none, none], [.ref 69], (0, 0), hp1)) rfl rfl ?_
       refine Ev.step (j := 20) (s' := ([some (.ref 69), none, none, none], [.ref 69, .ref 69], (0, 0), hp1)) rfl rfl ?_
       exact by
        refine bs_getI 11 rfl rfl rfl Hhp1 (bs_R.uq Hhp1 (g := 11) rfl) (by decide) rfl fun z12 hz12 lz12 gz12 => ?_
        have e13 : z12.toInt = y7 := Option.some.inj (hz12.symm.trans hy7)
        refine bs_lit (k := 1) rfl rfl fun z14 hz14 => ?_
        first | (refine bs_add rfl (by omega) (by omega) fun z15 hz15 => ?_) | (refine bs_any rfl fun z15 => ?_)
        have rz15 := n_range z15
        refine bs_putIv (W := [(11, 4, 4), (999, 0, 0)]) (g := 11) rfl rfl Hhp1 (bs_R.uq Hhp1 (g := 11) rfl) (by decide) rfl rfl rfl rfl (Or.inl rfl) (by omega) (by omega) fun hp16 Hhp16 fhp16 rhp16 ehp16 qhp16 nhp16 => ?_
        have Fhp16 := sf_fr_tr Fhp1 (sf_fr_wider (W := [(999, 0, 0), (11, 4, 4), (11, 11, 14), (11, 17, 17)]) rfl fhp16)
        have h17 : sf_rd hp16 69 3 = some n0 := (ehp16 _ _ (Or.inr (by omega))).trans i4
        have h18 : sf_rd hp16 69 5 = some l0 := (ehp16 _ _ (Or.inr (by omega))).trans i5
        refine Ev.step (j := 0) (s' := ([some (.ref 69), none, none, none], [], (0, 0), hp16)) rfl rfl ?_
        have GO : tk_e tk_b BB n0.toNat y7.toNat = tk_e tk_b BB n0.toNat (y7.toNat + 1) := tk_go (by omega) (tk_b_t (by omega))
        have INV : ∃ v : Int, sf_rd hp16 69 4 = some v ∧ P0 ≤ v ∧ v ≤ 940 ∧ tk_e tk_b BB n0.toNat v.toNat = tk_e tk_b BB n0.toNat P0.toNat := ⟨_, rhp16, by omega, by omega, by rw [show z15.toInt.toNat = y7.toNat + 1 by omega, ← GO]; exact ky7⟩
        have MS : (940 - (sf_rd hp16 69 4).getD 0).toNat < (940 - (sf_rd hp1 69 4).getD 0).toNat := by
          rw [rhp16, hy7]
          show (940 - z15.toInt).toNat < (940 - y7).toNat
          omega
        refine ih3 (hp16, t2) ⟨Hhp16, Fhp16, h17, h18, (by exact INV)⟩ ?_
        show (940 - (sf_rd hp16 69 4).getD 0).toNat < (940 - (sf_rd hp1 69 4).getD 0).toNat
        exact MS
     · skip
       refine Ev.step (j := 10) (s' := ([some (.ref 69), none, none, none], [.ref 69], (0, 0), hp1)) rfl rfl ?_
       exact by
        refine pk_ev rfl Hhp1 rfl fun z19 pz19 oz19 mz19 => ?_
        refine (show Ev _ 13 ([some (.ref 69), none, none, none], [.int z19], (0, 0), hp1) _ from ?_)
        have bz19 := pkB pz19 hy7 i4 (by omega) (EB _ (fun q => Fhp1.2.2.1 _ (bs_R.uq H (g := 131) (p := 70) rfl).1 _ (by rw [(bs_R.uq H (g := 131) (p := 70) rfl).2]; rfl)))
        rw [show (y7).toNat = y7.toNat by omega] at bz19
        refine bs_lit (k := 10) rfl rfl fun z20 hz20 => ?_
        refine bs_ne rfl (fun c21 => ?_) (fun c21 => ?_)
        · skip
          have ST : tk_e tk_b BB n0.toNat P0.toNat = y7.toNat := ky7.symm.trans (tk_stop (by
            rcases (show n0.toNat ≤ y7.toNat ∨ (BB y7.toNat ≠ 32 ∧ BB y7.toNat ≠ 10) by omega) with h | h
            · exact Or.inl h
            · exact Or.inr (tk_b_f h.1 h.2)))
          refine Ev.step (j := 32) (s' := ([some (.ref 69), none, none, none], [.ref 69], (0, 0), hp1)) rfl rfl ?_
          refine Ev.step (j := 33) (s' := ([some (.ref 69), none, none, none], [.ref 69, .ref 69], (0, 0), hp1)) rfl rfl ?_
          exact by
           refine bs_getI 11 rfl rfl rfl Hhp1 (bs_R.uq Hhp1 (g := 11) rfl) (by decide) rfl fun z22 hz22 lz22 gz22 => ?_
           have e23 : z22.toInt = y7 := Option.some.inj (hz22.symm.trans hy7)
           refine bs_putIv (W := [(11, 12, 12)]) (g := 11) rfl rfl Hhp1 (bs_R.uq Hhp1 (g := 11) rfl) (by decide) rfl rfl rfl rfl (Or.inl rfl) (by omega) (by omega) fun hp24 Hhp24 fhp24 rhp24 ehp24 qhp24 nhp24 => ?_
           have Fhp24 := sf_fr_tr Fhp1 (sf_fr_wider (W := [(999, 0, 0), (11, 4, 4), (11, 11, 14), (11, 17, 17)]) rfl fhp24)
           have h25 : sf_rd hp24 69 3 = some n0 := (ehp24 _ _ (Or.inr (by omega))).trans i4
           have h26 : sf_rd hp24 69 5 = some l0 := (ehp24 _ _ (Or.inr (by omega))).trans i5
           have h27 : sf_rd hp24 69 4 = some y7 := (ehp24 _ _ (Or.inr (by omega))).trans hy7
           refine Ev.step (j := 40) (s' := ([some (.ref 69), none, none, none], [.ref 69], (0, 0), hp24)) rfl rfl ?_
           exact by
            refine bs_lit (k := 0) rfl rfl fun z28 hz28 => ?_
            refine bs_putIv (W := [(11, 13, 13)]) (g := 11) rfl rfl Hhp24 (bs_R.uq Hhp24 (g := 11) rfl) (by decide) rfl rfl rfl rfl (Or.inl rfl) (by omega) (by omega) fun hp29 Hhp29 fhp29 rhp29 ehp29 qhp29 nhp29 => ?_
            have Fhp29 := sf_fr_tr Fhp24 (sf_fr_wider (W := [(999, 0, 0), (11, 4, 4), (11, 11, 14), (11, 17, 17)]) rfl fhp29)
            have h30 : sf_rd hp29 69 3 = some n0 := (ehp29 _ _ (Or.inr (by omega))).trans h25
            have h31 : sf_rd hp29 69 5 = some l0 := (ehp29 _ _ (Or.inr (by omega))).trans h26
            have h32 : sf_rd hp29 69 4 = some y7 := (ehp29 _ _ (Or.inr (by omega))).trans h27
            have h33 : sf_rd hp29 69 12 = some z22.toInt := (ehp29 _ _ (Or.inr (by omega))).trans rhp24
            have cut34 : ∀ (hp35 : ab_H) (t36 : Nat → Nat), sf_h t36 hp35 → sf_fr [(999, 0, 0), (11, 4, 4), (11, 11, 14), (11, 17, 17)] t hp t36 hp35 → (sf_rd hp35 69 3 = some n0) → (sf_rd hp35 69 5 = some l0) → (sf_rd hp35 69 4 = some y7) → (sf_rd hp35 69 12 = some z22.toInt) → (sf_rd hp35 69 13 = some z28.toInt) → (¬ (l0 < n0 ∧ l0 ≤ y7)) → Ev (ab_T (L_X11_next Z_X11_peek Z_X11_isSmall Z_X11_isDigit)) 80 ([some (.ref 69), none, none, none], [], (0, 0), hp35) Q := by
              intro hp35 t36 Hhp35 Fhp35 i37 i38 i39 i40 i41 i42
              refine Ev.step (j := 81) (s' := ([some (.ref 69), none, none, none], [.ref 69], (0, 0), hp35)) rfl rfl ?_
              exact by
               refine pk_ev rfl Hhp35 rfl fun z43 pz43 oz43 mz43 => ?_
               refine (show Ev _ 84 ([some (.ref 69), none, none, none], [.int z43], (0, 0), hp35) _ from ?_)
               have bz43 := pkB pz43 i39 i37 (by omega) (EB _ (fun q => Fhp35.2.2.1 _ (bs_R.uq H (g := 131) (p := 70) rfl).1 _ (by rw [(bs_R.uq H (g := 131) (p := 70) rfl).2]; rfl)))
               rw [show (y7).toNat = y7.toNat by omega] at bz43
               refine Ev.step (j := 85) (s' := ([some (.ref 69), some (.int z43), none, none], [], (0, 0), hp35)) rfl rfl ?_
               refine Ev.step (j := 86) (s' := ([some (.ref 69), some (.int z43), none, none], [.int z43], (0, 0), hp35)) rfl rfl ?_
               refine bs_ifge rfl (fun c44 => ?_) (fun c44 => ?_)
               · skip
                 refine Ev.step (j := 96) (s' := ([some (.ref 69), some (.int z43), none, none], [.int z43], (0, 0), hp35)) rfl rfl ?_
                 refine bs_pure [.int z43] [] rfl rfl rfl rfl px_X11_isSmall fun z45 hz45 => ?_
                 exact by
                  refine (show Ev _ 99 ([some (.ref 69), some (.int z43), none, none], [.int z45], (0, 0), hp35) _ from ?_)
                  rcases hz45 with ⟨ez45, tz45⟩ | ⟨ez45, tz45⟩
                  · skip
                    have nz45 := tk_l_i tz45
                    refine bs_ifne rfl (fun c46 => ?_) (fun c46 => ?_)
                    · skip
                      obtain ⟨q0, hq0⟩ : ∃ q0 : Int, q0 = y7 := ⟨_, rfl⟩
                      have VB : BB q0.toNat = z43.toInt := by rw [hq0]; omega
                      have FR : tk_r (BB q0.toNat) = true := by rw [VB]; exact tk_r_l tz45
                      have FL : tk_d (BB q0.toNat) = false := by rw [VB]; exact tk_ld tz45
                      refine Ev.step (j := 165) (s' := ([some (.ref 69), some (.int z43), none, none], [.int z43], (0, 0), hp35)) rfl rfl ?_
                      exact by
                       refine bs_pure [.int z43] [] rfl rfl rfl rfl px_X11_isSmall fun z47 hz47 => ?_
                       refine (show Ev _ 168 ([some (.ref 69), some (.int z43), none, none], [.int z47], (0, 0), hp35) _ from ?_)
                       rcases hz47 with ⟨ez47, tz47⟩ | ⟨ez47, tz47⟩
                       · skip
                         have nz47 := tk_l_i tz47
                         refine Ev.step (j := 169) (s' := ([some (.ref 69), some (.int z43), some (.int z47), none], [], (0, 0), hp35)) rfl rfl ?_
                         refine bs_lit (k := 1) rfl rfl fun z48 hz48 => ?_
                         refine Ev.step (j := 171) (s' := ([some (.ref 69), some (.int z43), some (.int z47), some (.int z48)], [], (0, 0), hp35)) rfl rfl ?_
                         refine Ev.step (j := 172) (s' := ([some (.ref 69), some (.int z43), some (.int z47), some (.int z48)], [.ref 69], (0, 0), hp35)) rfl rfl ?_
                         refine Ev.step (j := 173) (s' := ([some (.ref 69), some (.int z43), some (.int z47), some (.int z48)], [.long (0 : Int64), .ref 69], (0, 0), hp35)) rfl rfl ?_
                         exact by
                          refine bs_putLv (W := [(11, 17, 17)]) (g := 11) rfl rfl Hhp35 (bs_R.uq Hhp35 (g := 11) rfl) (by decide) rfl rfl rfl rfl fun hp49 Hhp49 fhp49 mhp49 lhp49 ehp49 qhp49 => ?_
                          have Fhp49 := sf_fr_tr Fhp35 (sf_fr_wider (W := [(999, 0, 0), (11, 4, 4), (11, 11, 14), (11, 17, 17)]) rfl fhp49)
                          have h50 : sf_rd hp49 69 3 = some n0 := (ehp49 _ _).trans i37
                          have h51 : sf_rd hp49 69 5 = some l0 := (ehp49 _ _).trans i38
                          have h52 : sf_rd hp49 69 4 = some y7 := (ehp49 _ _).trans i39
                          have h53 : sf_rd hp49 69 12 = some z22.toInt := (ehp49 _ _).trans i40
                          have h54 : sf_rd hp49 69 13 = some z28.toInt := (ehp49 _ _).trans i41
                          refine Ev.step (j := 177) (s' := ([some (.ref 69), some (.int z43), some (.int z47), some (.int z48)], [.ref 69], (0, 0), hp49)) rfl rfl ?_
                          exact by
                           refine bs_lit (k := 0) rfl rfl fun z55 hz55 => ?_
                           refine bs_putIv (W := [(11, 14, 14)]) (g := 11) rfl rfl Hhp49 (bs_R.uq Hhp49 (g := 11) rfl) (by decide) rfl rfl rfl rfl (Or.inl rfl) (by omega) (by omega) fun hp56 Hhp56 fhp56 rhp56 ehp56 qhp56 nhp56 => ?_
                           have Fhp56 := sf_fr_tr Fhp49 (sf_fr_wider (W := [(999, 0, 0), (11, 4, 4), (11, 11, 14), (11, 17, 17)]) rfl fhp56)
                           have h57 : sf_rd hp56 69 3 = some n0 := (ehp56 _ _ (Or.inr (by omega))).trans h50
                           have h58 : sf_rd hp56 69 5 = some l0 := (ehp56 _ _ (Or.inr (by omega))).trans h51
                           have h59 : sf_rd hp56 69 4 = some y7 := (ehp56 _ _ (Or.inr (by omega))).trans h52
                           have h60 : sf_rd hp56 69 12 = some z22.toInt := (ehp56 _ _ (Or.inr (by omega))).trans h53
                           have h61 : sf_rd hp56 69 13 = some z28.toInt := (ehp56 _ _ (Or.inr (by omega))).trans h54
                           have h62 : sf_rl hp56 69 17 = some (0 : Int64) := (nhp56 _ _).trans mhp49
                           have EM : (y7 - q0).toNat = 0 := by omega
                           have INV : ∃ (v c n : Int) (w : Int64), sf_rd hp56 69 4 = some v ∧ sf_rd hp56 69 13 = some c ∧ sf_rd hp56 69 14 = some n ∧ sf_rl hp56 69 17 = some w ∧ q0 ≤ v ∧ v ≤ 940 ∧ v ≤ n0 ∧ c = v - q0 ∧ tk_e tk_r BB n0.toNat v.toNat = tk_e tk_r BB n0.toNat q0.toNat ∧ (z48.toInt = 1 ↔ allP tk_l BB q0.toNat (v - q0).toNat = true) ∧ (z48.toInt = 1 → c ≤ 7 → w.toInt = wd BB q0.toNat (v - q0).toNat) ∧ 0 ≤ n ∧ n ≤ 8214 ∧ (c = 0 → n ≤ 0) ∧ (c = 1 → n ≤ 74) ∧ (c = 2 → n ≤ 814) := ⟨y7, z28.toInt, z55.toInt, (0 : Int64), h59, h61, rhp56, h62, by omega, by omega, by omega, by omega, by rw [show (y7).toNat = q0.toNat by omega], by rw [EM]; exact ⟨fun _ => rfl, fun _ => by omega⟩, by rw [EM]; intro _ _; rfl, by omega, by omega, by omega, by omega, by omega⟩
                           refine bs_loop (ι := Int32 × ab_H × (Nat → Nat)) (fun ⟨k63, hp64, t65⟩ => ([some (.ref 69), some (.int z43), some (.int z47), some (.int k63)], [], (0, 0), hp64)) (fun ⟨k63, hp64, t65⟩ => (sf_h t65 hp64) ∧ (sf_fr [(999, 0, 0), (11, 4, 4), (11, 11, 14), (11, 17, 17)] t hp t65 hp64) ∧ (sf_rd hp64 69 3 = some n0) ∧ (sf_rd hp64 69 5 = some l0) ∧ (sf_rd hp64 69 12 = some z22.toInt) ∧ (0 ≤ k63.toInt ∧ k63.toInt ≤ 1) ∧ (∃ (v c n : Int) (w : Int64), sf_rd hp64 69 4 = some v ∧ sf_rd hp64 69 13 = some c ∧ sf_rd hp64 69 14 = some n ∧ sf_rl hp64 69 17 = some w ∧ q0 ≤ v ∧ v ≤ 940 ∧ v ≤ n0 ∧ c = v - q0 ∧ tk_e tk_r BB n0.toNat v.toNat = tk_e tk_r BB n0.toNat q0.toNat ∧ (k63.toInt = 1 ↔ allP tk_l BB q0.toNat (v - q0).toNat = true) ∧ (k63.toInt = 1 → c ≤ 7 → w.toInt = wd BB q0.toNat (v - q0).toNat) ∧ 0 ≤ n ∧ n ≤ 8214 ∧ (c = 0 → n ≤ 0) ∧ (c = 1 → n ≤ 74) ∧ (c = 2 → n ≤ 814))) (fun ⟨k63, hp64, t65⟩ => (940 - (sf_rd hp64 69 4).getD 0).toNat) ?_ (z48, hp56, t36) ⟨Hhp56, Fhp56, h57, h58, h60, (by first | omega | assumption), (by exact INV)⟩
                           rintro ⟨k63, hp64, t65⟩ ⟨Hhp64, Fhp64, i67, i68, i69, i70, i71⟩ ih66
                           clear INV
                           refine (show Ev _ 181 ([some (.ref 69), some (.int z43), some (.int z47), some (.int k63)], [], (0, 0), hp64) _ from ?_)
                           obtain ⟨y72, y73, y74, w75, hy72, hy73, hy74, wy72, ly72, gy72, xy72, dy72, ky72, sy72, ny72, iy72, jy72, fy72, cy72, oy72⟩ := i71
                           refine Ev.step (j := 182) (s' := ([some (.ref 69), some (.int z43), some (.int z47), some (.int k63)], [.ref 69], (0, 0), hp64)) rfl rfl ?_
                           have cut76 : ∀ (k77 : Int32) (hp78 : ab_H) (t79 : Nat → Nat), sf_h t79 hp78 → sf_fr [(999, 0, 0), (11, 4, 4), (11, 11, 14), (11, 17, 17)] t hp t79 hp78 → (sf_rd hp78 69 3 = some n0) → (sf_rd hp78 69 5 = some l0) → (sf_rd hp78 69 4 = some y72) → (sf_rd hp78 69 12 = some z22.toInt) → (sf_rd hp78 69 13 = some y73) → (y72 < n0 ∧ tk_r (BB (q0.toNat + (y72 - q0).toNat)) = true) → ((k77.toInt = 1 ↔ allP tk_l BB q0.toNat ((y72 - q0).toNat + 1) = true) ∧ 0 ≤ k77.toInt ∧ k77.toInt ≤ 1) → (sf_rl hp78 69 17 = some w75) → (sf_rd hp78 69 14 = some y74) → Ev (ab_T (L_X11_next Z_X11_peek Z_X11_isSmall Z_X11_isDigit)) 222 ([some (.ref 69), some (.int z43), some (.int z47), some (.int k77)], [], (0, 0), hp78) Q := by
                             intro k77 hp78 t79 Hhp78 Fhp78 i80 i81 i82 i83 i84 i85 i86 i87 i88
                             have TRI := tk_r_i i85.2
                             have RT := i85.2
                             refine Ev.step (j := 223) (s' := ([some (.ref 69), some (.int z43), some (.int z47), some (.int k77)], [.ref 69], (0, 0), hp78)) rfl rfl ?_
                             exact by
                              refine bs_getI 11 rfl rfl rfl Hhp78 (bs_R.uq Hhp78 (g := 11) rfl) (by decide) rfl fun z89 hz89 lz89 gz89 => ?_
                              have e90 : z89.toInt = y73 := Option.some.inj (hz89.symm.trans i84)
                              refine bs_lit (k := 7) rfl rfl fun z91 hz91 => ?_
                              refine bs_ge rfl (fun c92 => ?_) (fun c92 => ?_)
                              · skip
                                refine Ev.step (j := 249) (s' := ([some (.ref 69), some (.int z43), some (.int z47), some (.int k77)], [.ref 69], (0, 0), hp78)) rfl rfl ?_
                                refine bs_getI 11 rfl rfl rfl Hhp78 (bs_R.uq Hhp78 (g := 11) rfl) (by decide) rfl fun z93 hz93 lz93 gz93 => ?_
                                have e94 : z93.toInt = y73 := Option.some.inj (hz93.symm.trans i84)
                                refine bs_lit (k := 3) rfl rfl fun z95 hz95 => ?_
                                exact by
                                 refine bs_ge rfl (fun c96 => ?_) (fun c96 => ?_)
                                 · skip
                                   refine Ev.step (j := 276) (s' := ([some (.ref 69), some (.int z43), some (.int z47), some (.int k77)], [.ref 69], (0, 0), hp78)) rfl rfl ?_
                                   refine Ev.step (j := 277) (s' := ([some (.ref 69), some (.int z43), some (.int z47), some (.int k77)], [.ref 69, .ref 69], (0, 0), hp78)) rfl rfl ?_
                                   refine bs_getI 11 rfl rfl rfl Hhp78 (bs_R.uq Hhp78 (g := 11) rfl) (by decide) rfl fun z97 hz97 lz97 gz97 => ?_
                                   have e98 : z97.toInt = y73 := Option.some.inj (hz97.symm.trans i84)
                                   refine bs_lit (k := 1) rfl rfl fun z99 hz99 => ?_
                                   first | (refine bs_add rfl (by omega) (by omega) fun z100 hz100 => ?_) | (refine bs_any rfl fun z100 => ?_)
                                   have rz100 := n_range z100
                                   refine bs_putIv (W := [(11, 13, 13)]) (g := 11) rfl rfl Hhp78 (bs_R.uq Hhp78 (g := 11) rfl) (by decide) rfl rfl rfl rfl (Or.inl rfl) (by omega) (by omega) fun hp101 Hhp101 fhp101 rhp101 ehp101 qhp101 nhp101 => ?_
                                   have Fhp101 := sf_fr_tr Fhp78 (sf_fr_wider (W := [(999, 0, 0), (11, 4, 4), (11, 11, 14), (11, 17, 17)]) rfl fhp101)
                                   have h102 : sf_rd hp101 69 3 = some n0 := (ehp101 _ _ (Or.inr (by omega))).trans i80
                                   have h103 : sf_rd hp101 69 5 = some l0 := (ehp101 _ _ (Or.inr (by omega))).trans i81
                                   have h104 : sf_rd hp101 69 4 = some y72 := (ehp101 _ _ (Or.inr (by omega))).trans i82
                                   have h105 : sf_rd hp101 69 12 = some z22.toInt := (ehp101 _ _ (Or.inr (by omega))).trans i83
                                   have h106 : sf_rd hp101 69 14 = some y74 := (ehp101 _ _ (Or.inr (by omega))).trans i88
                                   have h107 : sf_rl hp101 69 17 = some w75 := (nhp101 _ _).trans i87
                                   refine Ev.step (j := 286) (s' := ([some (.ref 69), some (.int z43), some (.int z47), some (.int k77)], [.ref 69], (0, 0), hp101)) rfl rfl ?_
                                   exact by
                                    refine Ev.step (j := 287) (s' := ([some (.ref 69), some (.int z43), some (.int z47), some (.int k77)], [.ref 69, .ref 69], (0, 0), hp101)) rfl rfl ?_
                                    refine bs_getI 11 rfl rfl rfl Hhp101 (bs_R.uq Hhp101 (g := 11) rfl) (by decide) rfl fun z108 hz108 lz108 gz108 => ?_
                                    have e109 : z108.toInt = y72 := Option.some.inj (hz108.symm.trans h104)
                                    refine bs_lit (k := 1) rfl rfl fun z110 hz110 => ?_
                                    first | (refine bs_add rfl (by omega) (by omega) fun z111 hz111 => ?_) | (refine bs_any rfl fun z111 => ?_)
                                    have rz111 := n_range z111
                                    refine bs_putIv (W := [(11, 4, 4), (999, 0, 0)]) (g := 11) rfl rfl Hhp101 (bs_R.uq Hhp101 (g := 11) rfl) (by decide) rfl rfl rfl rfl (Or.inl rfl) (by omega) (by omega) fun hp112 Hhp112 fhp112 rhp112 ehp112 qhp112 nhp112 => ?_
                                    have Fhp112 := sf_fr_tr Fhp101 (sf_fr_wider (W := [(999, 0, 0), (11, 4, 4), (11, 11, 14), (11, 17, 17)]) rfl fhp112)
                                    have h113 : sf_rd hp112 69 3 = some n0 := (ehp112 _ _ (Or.inr (by omega))).trans h102
                                    have h114 : sf_rd hp112 69 5 = some l0 := (ehp112 _ _ (Or.inr (by omega))).trans h103
                                    have h115 : sf_rd hp112 69 12 = some z22.toInt := (ehp112 _ _ (Or.inr (by omega))).trans h105
                                    have h116 : sf_rd hp112 69 14 = some y74 := (ehp112 _ _ (Or.inr (by omega))).trans h106
                                    have h117 : sf_rd hp112 69 13 = some z100.toInt := (ehp112 _ _ (Or.inr (by omega))).trans rhp101
                                    have h118 : sf_rl hp112 69 17 = some w75 := (nhp112 _ _).trans h107
                                    refine Ev.step (j := 181) (s' := ([some (.ref 69), some (.int z43), some (.int z47), some (.int k77)], [], (0, 0), hp112)) rfl rfl ?_
                                    have EM : (z111.toInt - q0).toNat = (y72 - q0).toNat + 1 := by omega
                                    have INV : ∃ (v c n : Int) (w : Int64), sf_rd hp112 69 4 = some v ∧ sf_rd hp112 69 13 = some c ∧ sf_rd hp112 69 14 = some n ∧ sf_rl hp112 69 17 = some w ∧ q0 ≤ v ∧ v ≤ 940 ∧ v ≤ n0 ∧ c = v - q0 ∧ tk_e tk_r BB n0.toNat v.toNat = tk_e tk_r BB n0.toNat q0.toNat ∧ (k77.toInt = 1 ↔ allP tk_l BB q0.toNat (v - q0).toNat = true) ∧ (k77.toInt = 1 → c ≤ 7 → w.toInt = wd BB q0.toNat (v - q0).toNat) ∧ 0 ≤ n ∧ n ≤ 8214 ∧ (c = 0 → n ≤ 0) ∧ (c = 1 → n ≤ 74) ∧ (c = 2 → n ≤ 814) := ⟨z111.toInt, z100.toInt, y74, w75, rhp112, h117, h116, h118, by omega, by omega, by omega, by omega, (by rw [show (z111.toInt).toNat = y72.toNat + 1 by omega, ← tk_go (by omega) (show tk_r (BB y72.toNat) = true by rw [show y72.toNat = q0.toNat + (y72 - q0).toNat by omega]; exact RT)]; exact ky72), (by rw [EM]; exact i86.1), fun e1 e2 => absurd e2 (by omega), by omega, by omega, by omega, by omega, by omega⟩
                                    have MS : (940 - (sf_rd hp112 69 4).getD 0).toNat < (940 - (sf_rd hp64 69 4).getD 0).toNat := by
                                      rw [rhp112, hy72]
                                      show (940 - z111.toInt).toNat < (940 - y72).toNat
                                      omega
                                    refine ih66 (k77, hp112, t79) ⟨Hhp112, Fhp112, h113, h114, h115, (by first | omega | assumption), (by exact INV)⟩ ?_
                                    show (940 - (sf_rd hp112 69 4).getD 0).toNat < (940 - (sf_rd hp64 69 4).getD 0).toNat
                                    exact MS
                                 · exfalso; omega
                              · skip
                                refine Ev.step (j := 232) (s' := ([some (.ref 69), some (.int z43), some (.int z47), some (.int k77)], [.ref 69], (0, 0), hp78)) rfl rfl ?_
                                exact by
                                 refine Ev.step (j := 233) (s' := ([some (.ref 69), some (.int z43), some (.int z47), some (.int k77)], [.ref 69, .ref 69], (0, 0), hp78)) rfl rfl ?_
                                 refine bs_getLe (g := 11) rfl rfl Hhp78 (bs_R.uq Hhp78 (g := 11) rfl) (by decide) rfl i87 ?_
                                 refine bs_lit (k := 8) rfl rfl fun z119 hz119 => ?_
                                 refine Ev.step (j := 239) (s' := ([some (.ref 69), some (.int z43), some (.int z47), some (.int k77)], [.long (w75 <<< (z119.toInt64 &&& 63)), .ref 69], (0, 0), hp78)) rfl rfl ?_
                                 refine Ev.step (j := 240) (s' := ([some (.ref 69), some (.int z43), some (.int z47), some (.int k77)], [.ref 69, .long (w75 <<< (z119.toInt64 &&& 63)), .ref 69], (0, 0), hp78)) rfl rfl ?_
                                 refine pk_ev rfl Hhp78 rfl fun z120 pz120 oz120 mz120 => ?_
                                 refine (show Ev _ 243 ([some (.ref 69), some (.int z43), some (.int z47), some (.int k77)], [.int z120, .long (w75 <<< (z119.toInt64 &&& 63)), .ref 69], (0, 0), hp78) _ from ?_)
                                 have bz120 := pkB pz120 i82 i80 (by omega) (EB _ (fun q => Fhp78.2.2.1 _ (bs_R.uq H (g := 131) (p := 70) rfl).1 _ (by rw [(bs_R.uq H (g := 131) (p := 70) rfl).2]; rfl)))
                                 rw [show (y72).toNat = q0.toNat + (y72 - q0).toNat by omega] at bz120
                                 refine Ev.step (j := 244) (s' := ([some (.ref 69), some (.int z43), some (.int z47), some (.int k77)], [.long (z120.toInt64), .long (w75 <<< (z119.toInt64 &&& 63)), .ref 69], (0, 0), hp78)) rfl rfl ?_
                                 exact by
                                  refine Ev.step (j := 245) (s' := ([some (.ref 69), some (.int z43), some (.int z47), some (.int k77)], [.long ((w75 <<< (z119.toInt64 &&& 63)) ||| (z120.toInt64)), .ref 69], (0, 0), hp78)) rfl rfl ?_
                                  refine bs_putLv (W := [(11, 17, 17)]) (g := 11) rfl rfl Hhp78 (bs_R.uq Hhp78 (g := 11) rfl) (by decide) rfl rfl rfl rfl fun hp121 Hhp121 fhp121 mhp121 lhp121 ehp121 qhp121 => ?_
                                  have Fhp121 := sf_fr_tr Fhp78 (sf_fr_wider (W := [(999, 0, 0), (11, 4, 4), (11, 11, 14), (11, 17, 17)]) rfl fhp121)
                                  have h122 : sf_rd hp121 69 3 = some n0 := (ehp121 _ _).trans i80
                                  have h123 : sf_rd hp121 69 5 = some l0 := (ehp121 _ _).trans i81
                                  have h124 : sf_rd hp121 69 4 = some y72 := (ehp121 _ _).trans i82
                                  have h125 : sf_rd hp121 69 12 = some z22.toInt := (ehp121 _ _).trans i83
                                  have h126 : sf_rd hp121 69 13 = some y73 := (ehp121 _ _).trans i84
                                  have h127 : sf_rd hp121 69 14 = some y74 := (ehp121 _ _).trans i88
                                  refine Ev.step (j := 249) (s' := ([some (.ref 69), some (.int z43), some (.int z47), some (.int k77)], [.ref 69], (0, 0), hp121)) rfl rfl ?_
                                  exact by
                                   refine bs_getI 11 rfl rfl rfl Hhp121 (bs_R.uq Hhp121 (g := 11) rfl) (by decide) rfl fun z128 hz128 lz128 gz128 => ?_
                                   have e129 : z128.toInt = y73 := Option.some.inj (hz128.symm.trans h126)
                                   refine bs_lit (k := 3) rfl rfl fun z130 hz130 => ?_
                                   refine bs_ge rfl (fun c131 => ?_) (fun c131 => ?_)
                                   · skip
                                     refine Ev.step (j := 276) (s' := ([some (.ref 69), some (.int z43), some (.int z47), some (.int k77)], [.ref 69], (0, 0), hp121)) rfl rfl ?_
                                     refine Ev.step (j := 277) (s' := ([some (.ref 69), some (.int z43), some (.int z47), some (.int k77)], [.ref 69, .ref 69], (0, 0), hp121)) rfl rfl ?_
                                     refine bs_getI 11 rfl rfl rfl Hhp121 (bs_R.uq Hhp121 (g := 11) rfl) (by decide) rfl fun z132 hz132 lz132 gz132 => ?_
                                     have e133 : z132.toInt = y73 := Option.some.inj (hz132.symm.trans h126)
                                     refine bs_lit (k := 1) rfl rfl fun z134 hz134 => ?_
                                     first | (refine bs_add rfl (by omega) (by omega) fun z135 hz135 => ?_) | (refine bs_any rfl fun z135 => ?_)
                                     have rz135 := n_range z135
                                     refine bs_putIv (W := [(11, 13, 13)]) (g := 11) rfl rfl Hhp121 (bs_R.uq Hhp121 (g := 11) rfl) (by decide) rfl rfl rfl rfl (Or.inl rfl) (by omega) (by omega) fun hp136 Hhp136 fhp136 rhp136 ehp136 qhp136 nhp136 => ?_
                                     have Fhp136 := sf_fr_tr Fhp121 (sf_fr_wider (W := [(999, 0, 0), (11, 4, 4), (11, 11, 14), (11, 17, 17)]) rfl fhp136)
                                     have h137 : sf_rd hp136 69 3 = some n0 := (ehp136 _ _ (Or.inr (by omega))).trans h122
                                     have h138 : sf_rd hp136 69 5 = some l0 := (ehp136 _ _ (Or.inr (by omega))).trans h123
                                     have h139 : sf_rd hp136 69 4 = some y72 := (ehp136 _ _ (Or.inr (by omega))).trans h124
                                     have h140 : sf_rd hp136 69 12 = some z22.toInt := (ehp136 _ _ (Or.inr (by omega))).trans h125
                                     have h141 : sf_rd hp136 69 14 = some y74 := (ehp136 _ _ (Or.inr (by omega))).trans h127
                                     have h142 : sf_rl hp136 69 17 = some ((w75 <<< (z119.toInt64 &&& 63)) ||| (z120.toInt64)) := (nhp136 _ _).trans mhp121
                                     refine Ev.step (j := 286) (s' := ([some (.ref 69), some (.int z43), some (.int z47), some (.int k77)], [.ref 69], (0, 0), hp136)) rfl rfl ?_
                                     exact by
                                      refine Ev.step (j := 287) (s' := ([some (.ref 69), some (.int z43), some (.int z47), some (.int k77)], [.ref 69, .ref 69], (0, 0), hp136)) rfl rfl ?_
                                      refine bs_getI 11 rfl rfl rfl Hhp136 (bs_R.uq Hhp136 (g := 11) rfl) (by decide) rfl fun z143 hz143 lz143 gz143 => ?_
                                      have e144 : z143.toInt = y72 := Option.some.inj (hz143.symm.trans h139)
                                      refine bs_lit (k := 1) rfl rfl fun z145 hz145 => ?_
                                      first | (refine bs_add rfl (by omega) (by omega) fun z146 hz146 => ?_) | (refine bs_any rfl fun z146 => ?_)
                                      have rz146 := n_range z146
                                      refine bs_putIv (W := [(11, 4, 4), (999, 0, 0)]) (g := 11) rfl rfl Hhp136 (bs_R.uq Hhp136 (g := 11) rfl) (by decide) rfl rfl rfl rfl (Or.inl rfl) (by omega) (by omega) fun hp147 Hhp147 fhp147 rhp147 ehp147 qhp147 nhp147 => ?_
                                      have Fhp147 := sf_fr_tr Fhp136 (sf_fr_wider (W := [(999, 0, 0), (11, 4, 4), (11, 11, 14), (11, 17, 17)]) rfl fhp147)
                                      have h148 : sf_rd hp147 69 3 = some n0 := (ehp147 _ _ (Or.inr (by omega))).trans h137
                                      have h149 : sf_rd hp147 69 5 = some l0 := (ehp147 _ _ (Or.inr (by omega))).trans h138
                                      have h150 : sf_rd hp147 69 12 = some z22.toInt := (ehp147 _ _ (Or.inr (by omega))).trans h140
                                      have h151 : sf_rd hp147 69 14 = some y74 := (ehp147 _ _ (Or.inr (by omega))).trans h141
                                      have h152 : sf_rd hp147 69 13 = some z135.toInt := (ehp147 _ _ (Or.inr (by omega))).trans rhp136
                                      have h153 : sf_rl hp147 69 17 = some ((w75 <<< (z119.toInt64 &&& 63)) ||| (z120.toInt64)) := (nhp147 _ _).trans h142
                                      refine Ev.step (j := 181) (s' := ([some (.ref 69), some (.int z43), some (.int z47), some (.int k77)], [], (0, 0), hp147)) rfl rfl ?_
                                      have EM : (z146.toInt - q0).toNat = (y72 - q0).toNat + 1 := by omega
                                      have INV : ∃ (v c n : Int) (w : Int64), sf_rd hp147 69 4 = some v ∧ sf_rd hp147 69 13 = some c ∧ sf_rd hp147 69 14 = some n ∧ sf_rl hp147 69 17 = some w ∧ q0 ≤ v ∧ v ≤ 940 ∧ v ≤ n0 ∧ c = v - q0 ∧ tk_e tk_r BB n0.toNat v.toNat = tk_e tk_r BB n0.toNat q0.toNat ∧ (k77.toInt = 1 ↔ allP tk_l BB q0.toNat (v - q0).toNat = true) ∧ (k77.toInt = 1 → c ≤ 7 → w.toInt = wd BB q0.toNat (v - q0).toNat) ∧ 0 ≤ n ∧ n ≤ 8214 ∧ (c = 0 → n ≤ 0) ∧ (c = 1 → n ≤ 74) ∧ (c = 2 → n ≤ 814) := ⟨z146.toInt, z135.toInt, y74, ((w75 <<< (z119.toInt64 &&& 63)) ||| (z120.toInt64)), rhp147, h152, h151, h153, by omega, by omega, by omega, by omega, (by rw [show (z146.toInt).toNat = y72.toNat + 1 by omega, ← tk_go (by omega) (show tk_r (BB y72.toNat) = true by rw [show y72.toNat = q0.toNat + (y72 - q0).toNat by omega]; exact RT)]; exact ky72), (by rw [EM]; exact i86.1), fun e1 e2 => by have AL : allP tk_l BB q0.toNat ((y72 - q0).toNat + 1) = true := i86.1.mp e1; have AK : allP tk_l BB q0.toNat (y72 - q0).toNat = true := (show _ ∧ _ by simpa using (show (allP tk_l BB q0.toNat (y72 - q0).toNat && tk_l (BB (q0.toNat + (y72 - q0).toNat))) = true from AL)).1; rw [EM]; show _ = wd BB q0.toNat (y72 - q0).toNat * 256 + BB (q0.toNat + (y72 - q0).toNat); rw [show BB (q0.toNat + (y72 - q0).toNat) = z120.toInt by omega]; exact or_step (by omega) (ny72 (sy72.mpr AK) (by omega)) (wd_48 RB (by omega)).1 (wd_48 RB (by omega)).2 (by omega) (by omega), by omega, by omega, by omega, by omega, by omega⟩
                                      have MS : (940 - (sf_rd hp147 69 4).getD 0).toNat < (940 - (sf_rd hp64 69 4).getD 0).toNat := by
                                        rw [rhp147, hy72]
                                        show (940 - z146.toInt).toNat < (940 - y72).toNat
                                        omega
                                      refine ih66 (k77, hp147, t79) ⟨Hhp147, Fhp147, h148, h149, h150, (by first | omega | assumption), (by exact INV)⟩ ?_
                                      show (940 - (sf_rd hp147 69 4).getD 0).toNat < (940 - (sf_rd hp64 69 4).getD 0).toNat
                                      exact MS
                                   · skip
                                     refine Ev.step (j := 257) (s' := ([some (.ref 69), some (.int z43), some (.int z47), some (.int k77)], [.ref 69], (0, 0), hp121)) rfl rfl ?_
                                     exact by
                                      refine bs_lit (k := 10) rfl rfl fun z154 hz154 => ?_
                                      refine Ev.step (j := 260) (s' := ([some (.ref 69), some (.int z43), some (.int z47), some (.int k77)], [.ref 69, .int z154, .ref 69], (0, 0), hp121)) rfl rfl ?_
                                      refine bs_getI 11 rfl rfl rfl Hhp121 (bs_R.uq Hhp121 (g := 11) rfl) (by decide) rfl fun z155 hz155 lz155 gz155 => ?_
                                      have e156 : z155.toInt = y74 := Option.some.inj (hz155.symm.trans h127)
                                      refine bs_mul (10) rfl (Or.inl hz154) (by rw [hz154]; omega) (by rw [hz154]; omega) fun z157 hz157 => ?_
                                      rw [hz154] at hz157
                                      refine Ev.step (j := 265) (s' := ([some (.ref 69), some (.int z43), some (.int z47), some (.int k77)], [.ref 69, .int z157, .ref 69], (0, 0), hp121)) rfl rfl ?_
                                      refine pk_ev rfl Hhp121 rfl fun z158 pz158 oz158 mz158 => ?_
                                      refine (show Ev _ 268 ([some (.ref 69), some (.int z43), some (.int z47), some (.int k77)], [.int z158, .int z157, .ref 69], (0, 0), hp121) _ from ?_)
                                      have bz158 := pkB pz158 h124 h122 (by omega) (EB _ (fun q => Fhp121.2.2.1 _ (bs_R.uq H (g := 131) (p := 70) rfl).1 _ (by rw [(bs_R.uq H (g := 131) (p := 70) rfl).2]; rfl)))
                                      rw [show (y72).toNat = q0.toNat + (y72 - q0).toNat by omega] at bz158
                                      first | (refine bs_add rfl (by omega) (by omega) fun z159 hz159 => ?_) | (refine bs_any rfl fun z159 => ?_)
                                      have rz159 := n_range z159
                                      refine bs_lit (k := 48) rfl rfl fun z160 hz160 => ?_
                                      first | (refine bs_sub rfl (by omega) (by omega) fun z161 hz161 => ?_) | (refine bs_any rfl fun z161 => ?_)
                                      have rz161 := n_range z161
                                      refine bs_putIv (W := [(11, 14, 14)]) (g := 11) rfl rfl Hhp121 (bs_R.uq Hhp121 (g := 11) rfl) (by decide) rfl rfl rfl rfl (Or.inl rfl) (by omega) (by omega) fun hp162 Hhp162 fhp162 rhp162 ehp162 qhp162 nhp162 => ?_
                                      have Fhp162 := sf_fr_tr Fhp121 (sf_fr_wider (W := [(999, 0, 0), (11, 4, 4), (11, 11, 14), (11, 17, 17)]) rfl fhp162)
                                      have h163 : sf_rd hp162 69 3 = some n0 := (ehp162 _ _ (Or.inr (by omega))).trans h122
                                      have h164 : sf_rd hp162 69 5 = some l0 := (ehp162 _ _ (Or.inr (by omega))).trans h123
                                      have h165 : sf_rd hp162 69 4 = some y72 := (ehp162 _ _ (Or.inr (by omega))).trans h124
                                      have h166 : sf_rd hp162 69 12 = some z22.toInt := (ehp162 _ _ (Or.inr (by omega))).trans h125
                                      have h167 : sf_rd hp162 69 13 = some y73 := (ehp162 _ _ (Or.inr (by omega))).trans h126
                                      have h168 : sf_rl hp162 69 17 = some ((w75 <<< (z119.toInt64 &&& 63)) ||| (z120.toInt64)) := (nhp162 _ _).trans mhp121
                                      refine Ev.step (j := 276) (s' := ([some (.ref 69), some (.int z43), some (.int z47), some (.int k77)], [.ref 69], (0, 0), hp162)) rfl rfl ?_
                                      exact by
                                       refine Ev.step (j := 277) (s' := ([some (.ref 69), some (.int z43), some (.int z47), some (.int k77)], [.ref 69, .ref 69], (0, 0), hp162)) rfl rfl ?_
                                       refine bs_getI 11 rfl rfl rfl Hhp162 (bs_R.uq Hhp162 (g := 11) rfl) (by decide) rfl fun z169 hz169 lz169 gz169 => ?_
                                       have e170 : z169.toInt = y73 := Option.some.inj (hz169.symm.trans h167)
                                       refine bs_lit (k := 1) rfl rfl fun z171 hz171 => ?_
                                       first | (refine bs_add rfl (by omega) (by omega) fun z172 hz172 => ?_) | (refine bs_any rfl fun z172 => ?_)
                                       have rz172 := n_range z172
                                       refine bs_putIv (W := [(11, 13, 13)]) (g := 11) rfl rfl Hhp162 (bs_R.uq Hhp162 (g := 11) rfl) (by decide) rfl rfl rfl rfl (Or.inl rfl) (by omega) (by omega) fun hp173 Hhp173 fhp173 rhp173 ehp173 qhp173 nhp173 => ?_
                                       have Fhp173 := sf_fr_tr Fhp162 (sf_fr_wider (W := [(999, 0, 0), (11, 4, 4), (11, 11, 14), (11, 17, 17)]) rfl fhp173)
                                       have h174 : sf_rd hp173 69 3 = some n0 := (ehp173 _ _ (Or.inr (by omega))).trans h163
                                       have h175 : sf_rd hp173 69 5 = some l0 := (ehp173 _ _ (Or.inr (by omega))).trans h164
                                       have h176 : sf_rd hp173 69 4 = some y72 := (ehp173 _ _ (Or.inr (by omega))).trans h165
                                       have h177 : sf_rd hp173 69 12 = some z22.toInt := (ehp173 _ _ (Or.inr (by omega))).trans h166
                                       have h178 : sf_rd hp173 69 14 = some z161.toInt := (ehp173 _ _ (Or.inr (by omega))).trans rhp162
                                       have h179 : sf_rl hp173 69 17 = some ((w75 <<< (z119.toInt64 &&& 63)) ||| (z120.toInt64)) := (nhp173 _ _).trans h168
                                       refine Ev.step (j := 286) (s' := ([some (.ref 69), some (.int z43), some (.int z47), some (.int k77)], [.ref 69], (0, 0), hp173)) rfl rfl ?_
                                       exact by
                                        refine Ev.step (j := 287) (s' := ([some (.ref 69), some (.int z43), some (.int z47), some (.int k77)], [.ref 69, .ref 69], (0, 0), hp173)) rfl rfl ?_
                                        refine bs_getI 11 rfl rfl rfl Hhp173 (bs_R.uq Hhp173 (g := 11) rfl) (by decide) rfl fun z180 hz180 lz180 gz180 => ?_
                                        have e181 : z180.toInt = y72 := Option.some.inj (hz180.symm.trans h176)
                                        refine bs_lit (k := 1) rfl rfl fun z182 hz182 => ?_
                                        first | (refine bs_add rfl (by omega) (by omega) fun z183 hz183 => ?_) | (refine bs_any rfl fun z183 => ?_)
                                        have rz183 := n_range z183
                                        refine bs_putIv (W := [(11, 4, 4), (999, 0, 0)]) (g := 11) rfl rfl Hhp173 (bs_R.uq Hhp173 (g := 11) rfl) (by decide) rfl rfl rfl rfl (Or.inl rfl) (by omega) (by omega) fun hp184 Hhp184 fhp184 rhp184 ehp184 qhp184 nhp184 => ?_
                                        have Fhp184 := sf_fr_tr Fhp173 (sf_fr_wider (W := [(999, 0, 0), (11, 4, 4), (11, 11, 14), (11, 17, 17)]) rfl fhp184)
                                        have h185 : sf_rd hp184 69 3 = some n0 := (ehp184 _ _ (Or.inr (by omega))).trans h174
                                        have h186 : sf_rd hp184 69 5 = some l0 := (ehp184 _ _ (Or.inr (by omega))).trans h175
                                        have h187 : sf_rd hp184 69 12 = some z22.toInt := (ehp184 _ _ (Or.inr (by omega))).trans h177
                                        have h188 : sf_rd hp184 69 14 = some z161.toInt := (ehp184 _ _ (Or.inr (by omega))).trans h178
                                        have h189 : sf_rd hp184 69 13 = some z172.toInt := (ehp184 _ _ (Or.inr (by omega))).trans rhp173
                                        have h190 : sf_rl hp184 69 17 = some ((w75 <<< (z119.toInt64 &&& 63)) ||| (z120.toInt64)) := (nhp184 _ _).trans h179
                                        refine Ev.step (j := 181) (s' := ([some (.ref 69), some (.int z43), some (.int z47), some (.int k77)], [], (0, 0), hp184)) rfl rfl ?_
                                        have EM : (z183.toInt - q0).toNat = (y72 - q0).toNat + 1 := by omega
                                        have INV : ∃ (v c n : Int) (w : Int64), sf_rd hp184 69 4 = some v ∧ sf_rd hp184 69 13 = some c ∧ sf_rd hp184 69 14 = some n ∧ sf_rl hp184 69 17 = some w ∧ q0 ≤ v ∧ v ≤ 940 ∧ v ≤ n0 ∧ c = v - q0 ∧ tk_e tk_r BB n0.toNat v.toNat = tk_e tk_r BB n0.toNat q0.toNat ∧ (k77.toInt = 1 ↔ allP tk_l BB q0.toNat (v - q0).toNat = true) ∧ (k77.toInt = 1 → c ≤ 7 → w.toInt = wd BB q0.toNat (v - q0).toNat) ∧ 0 ≤ n ∧ n ≤ 8214 ∧ (c = 0 → n ≤ 0) ∧ (c = 1 → n ≤ 74) ∧ (c = 2 → n ≤ 814) := ⟨z183.toInt, z172.toInt, z161.toInt, ((w75 <<< (z119.toInt64 &&& 63)) ||| (z120.toInt64)), rhp184, h189, h188, h190, by omega, by omega, by omega, by omega, (by rw [show (z183.toInt).toNat = y72.toNat + 1 by omega, ← tk_go (by omega) (show tk_r (BB y72.toNat) = true by rw [show y72.toNat = q0.toNat + (y72 - q0).toNat by omega]; exact RT)]; exact ky72), (by rw [EM]; exact i86.1), fun e1 e2 => by have AL : allP tk_l BB q0.toNat ((y72 - q0).toNat + 1) = true := i86.1.mp e1; have AK : allP tk_l BB q0.toNat (y72 - q0).toNat = true := (show _ ∧ _ by simpa using (show (allP tk_l BB q0.toNat (y72 - q0).toNat && tk_l (BB (q0.toNat + (y72 - q0).toNat))) = true from AL)).1; rw [EM]; show _ = wd BB q0.toNat (y72 - q0).toNat * 256 + BB (q0.toNat + (y72 - q0).toNat); rw [show BB (q0.toNat + (y72 - q0).toNat) = z120.toInt by omega]; exact or_step (by omega) (ny72 (sy72.mpr AK) (by omega)) (wd_48 RB (by omega)).1 (wd_48 RB (by omega)).2 (by omega) (by omega), by omega, by omega, by omega, by omega, by omega⟩
                                        have MS : (940 - (sf_rd hp184 69 4).getD 0).toNat < (940 - (sf_rd hp64 69 4).getD 0).toNat := by
                                          rw [rhp184, hy72]
                                          show (940 - z183.toInt).toNat < (940 - y72).toNat
                                          omega
                                        refine ih66 (k77, hp184, t79) ⟨Hhp184, Fhp184, h185, h186, h187, (by first | omega | assumption), (by exact INV)⟩ ?_
                                        show (940 - (sf_rd hp184 69 4).getD 0).toNat < (940 - (sf_rd hp64 69 4).getD 0).toNat
                                        exact MS
                           refine pk_ev rfl Hhp64 rfl fun z191 pz191 oz191 mz191 => ?_
                           exact by
                            refine (show Ev _ 185 ([some (.ref 69), some (.int z43), some (.int z47), some (.int k63)], [.int z191], (0, 0), hp64) _ from ?_)
                            have bz191 := pkB pz191 hy72 i67 (by omega) (EB _ (fun q => Fhp64.2.2.1 _ (bs_R.uq H (g := 131) (p := 70) rfl).1 _ (by rw [(bs_R.uq H (g := 131) (p := 70) rfl).2]; rfl)))
                            rw [show (y72).toNat = q0.toNat + (y72 - q0).toNat by omega] at bz191
                            refine bs_pure [.int z191] [] rfl rfl rfl rfl px_X11_isSmall fun z192 hz192 => ?_
                            refine (show Ev _ 188 ([some (.ref 69), some (.int z43), some (.int z47), some (.int k63)], [.int z192], (0, 0), hp64) _ from ?_)
                            rcases hz192 with ⟨ez192, tz192⟩ | ⟨ez192, tz192⟩
                            · skip
                              have nz192 := tk_l_i tz192
                              refine bs_ifne rfl (fun c193 => ?_) (fun c193 => ?_)
                              · skip
                                refine Ev.step (j := 202) (s' := ([some (.ref 69), some (.int z43), some (.int z47), some (.int k63)], [.int k63], (0, 0), hp64)) rfl rfl ?_
                                refine bs_ifeq rfl (fun c194 => ?_) (fun c194 => ?_)
                                · skip
                                  have c195 : k63.toInt = 0 := by omega
                                  refine bs_lit (k := 0) rfl rfl fun z196 hz196 => ?_
                                  exact by
                                   refine Ev.step (j := 222) (s' := ([some (.ref 69), some (.int z43), some (.int z47), some (.int z196)], [], (0, 0), hp64)) rfl rfl ?_
                                   exact cut76 z196 hp64 t65 Hhp64 Fhp64 i67 i68 hy72 i69 hy73 (by refine ⟨by omega, ?_⟩; rw [show BB (q0.toNat + (y72 - q0).toNat) = z191.toInt by omega]; exact tk_r_l tz192) (by refine ⟨?_, by omega, by omega⟩; rw [allP_s (P := tk_l) (B := BB) (q := q0.toNat) (m := (y72 - q0).toNat) (by rw [show BB (q0.toNat + (y72 - q0).toNat) = z191.toInt by omega]; exact tz192)]; exact ⟨fun e => sy72.mp (by omega), fun e => by have := sy72.mpr e; omega⟩) (by first | omega | assumption) hy74
                                · skip
                                  refine Ev.step (j := 206) (s' := ([some (.ref 69), some (.int z43), some (.int z47), some (.int k63)], [.ref 69], (0, 0), hp64)) rfl rfl ?_
                                  exact by
                                   refine pk_ev rfl Hhp64 rfl fun z197 pz197 oz197 mz197 => ?_
                                   refine (show Ev _ 209 ([some (.ref 69), some (.int z43), some (.int z47), some (.int k63)], [.int z197], (0, 0), hp64) _ from ?_)
                                   have bz197 := pkB pz197 hy72 i67 (by omega) (EB _ (fun q => Fhp64.2.2.1 _ (bs_R.uq H (g := 131) (p := 70) rfl).1 _ (by rw [(bs_R.uq H (g := 131) (p := 70) rfl).2]; rfl)))
                                   rw [show (y72).toNat = q0.toNat + (y72 - q0).toNat by omega] at bz197
                                   refine bs_pure [.int z197] [] rfl rfl rfl rfl px_X11_isSmall fun z198 hz198 => ?_
                                   refine (show Ev _ 212 ([some (.ref 69), some (.int z43), some (.int z47), some (.int k63)], [.int z198], (0, 0), hp64) _ from ?_)
                                   rcases hz198 with ⟨ez198, tz198⟩ | ⟨ez198, tz198⟩
                                   · skip
                                     have nz198 := tk_l_i tz198
                                     refine Ev.step (j := 213) (s' := ([some (.ref 69), some (.int z43), some (.int z47), some (.int k63)], [.int z47, .int z198], (0, 0), hp64)) rfl rfl ?_
                                     refine bs_ne rfl (fun c199 => ?_) (fun c199 => ?_)
                                     · exfalso; omega
                                     · skip
                                       refine bs_lit (k := 1) rfl rfl fun z200 hz200 => ?_
                                       exact by
                                        refine Ev.step (j := 221) (s' := ([some (.ref 69), some (.int z43), some (.int z47), some (.int k63)], [.int z200], (0, 0), hp64)) rfl rfl ?_
                                        refine Ev.step (j := 222) (s' := ([some (.ref 69), some (.int z43), some (.int z47), some (.int z200)], [], (0, 0), hp64)) rfl rfl ?_
                                        exact cut76 z200 hp64 t65 Hhp64 Fhp64 i67 i68 hy72 i69 hy73 (by refine ⟨by omega, ?_⟩; rw [show BB (q0.toNat + (y72 - q0).toNat) = z191.toInt by omega]; exact tk_r_l tz192) (by refine ⟨?_, by omega, by omega⟩; rw [allP_s (P := tk_l) (B := BB) (q := q0.toNat) (m := (y72 - q0).toNat) (by rw [show BB (q0.toNat + (y72 - q0).toNat) = z191.toInt by omega]; exact tz192)]; exact ⟨fun e => sy72.mp (by omega), fun e => by have := sy72.mpr e; omega⟩) (by first | omega | assumption) hy74
                                   · exact absurd tz192 (by rw [show z191.toInt = z197.toInt by omega, tz198]; decide)
                              · exfalso; omega
                            · skip
                              refine bs_ifne rfl (fun c201 => ?_) (fun c201 => ?_)
                              · exfalso; omega
                              · skip
                                refine Ev.step (j := 192) (s' := ([some (.ref 69), some (.int z43), some (.int z47), some (.int k63)], [.ref 69], (0, 0), hp64)) rfl rfl ?_
                                exact by
                                 refine pk_ev rfl Hhp64 rfl fun z202 pz202 oz202 mz202 => ?_
                                 refine (show Ev _ 195 ([some (.ref 69), some (.int z43), some (.int z47), some (.int k63)], [.int z202], (0, 0), hp64) _ from ?_)
                                 have bz202 := pkB pz202 hy72 i67 (by omega) (EB _ (fun q => Fhp64.2.2.1 _ (bs_R.uq H (g := 131) (p := 70) rfl).1 _ (by rw [(bs_R.uq H (g := 131) (p := 70) rfl).2]; rfl)))
                                 rw [show (y72).toNat = q0.toNat + (y72 - q0).toNat by omega] at bz202
                                 refine bs_pure [.int z202] [] rfl rfl rfl rfl px_X11_isDigit fun z203 hz203 => ?_
                                 refine (show Ev _ 198 ([some (.ref 69), some (.int z43), some (.int z47), some (.int k63)], [.int z203], (0, 0), hp64) _ from ?_)
                                 rcases hz203 with ⟨ez203, tz203⟩ | ⟨ez203, tz203⟩
                                 · skip
                                   have nz203 := tk_d_i tz203
                                   refine bs_ifeq rfl (fun c204 => ?_) (fun c204 => ?_)
                                   · exfalso; omega
                                   · skip
                                     refine Ev.step (j := 202) (s' := ([some (.ref 69), some (.int z43), some (.int z47), some (.int k63)], [.int k63], (0, 0), hp64)) rfl rfl ?_
                                     exact by
                                      refine bs_ifeq rfl (fun c205 => ?_) (fun c205 => ?_)
                                      · skip
                                        have c206 : k63.toInt = 0 := by omega
                                        refine bs_lit (k := 0) rfl rfl fun z207 hz207 => ?_
                                        refine Ev.step (j := 222) (s' := ([some (.ref 69), some (.int z43), some (.int z47), some (.int z207)], [], (0, 0), hp64)) rfl rfl ?_
                                        exact cut76 z207 hp64 t65 Hhp64 Fhp64 i67 i68 hy72 i69 hy73 (by refine ⟨by omega, ?_⟩; rw [show BB (q0.toNat + (y72 - q0).toNat) = z202.toInt by omega]; exact tk_r_d tz203) (by refine ⟨?_, by omega, by omega⟩; rw [allP_n (P := tk_l) (B := BB) (q := q0.toNat) (m := (y72 - q0).toNat) (by rw [show BB (q0.toNat + (y72 - q0).toNat) = z202.toInt by omega]; exact tk_dl tz203)]; exact ⟨fun e => absurd e (by omega), fun e => absurd e (by decide)⟩) (by first | omega | assumption) hy74
                                      · skip
                                        refine Ev.step (j := 206) (s' := ([some (.ref 69), some (.int z43), some (.int z47), some (.int k63)], [.ref 69], (0, 0), hp64)) rfl rfl ?_
                                        refine pk_ev rfl Hhp64 rfl fun z208 pz208 oz208 mz208 => ?_
                                        refine (show Ev _ 209 ([some (.ref 69), some (.int z43), some (.int z47), some (.int k63)], [.int z208], (0, 0), hp64) _ from ?_)
                                        have bz208 := pkB pz208 hy72 i67 (by omega) (EB _ (fun q => Fhp64.2.2.1 _ (bs_R.uq H (g := 131) (p := 70) rfl).1 _ (by rw [(bs_R.uq H (g := 131) (p := 70) rfl).2]; rfl)))
                                        rw [show (y72).toNat = q0.toNat + (y72 - q0).toNat by omega] at bz208
                                        refine bs_pure [.int z208] [] rfl rfl rfl rfl px_X11_isSmall fun z209 hz209 => ?_
                                        exact by
                                         refine (show Ev _ 212 ([some (.ref 69), some (.int z43), some (.int z47), some (.int k63)], [.int z209], (0, 0), hp64) _ from ?_)
                                         rcases hz209 with ⟨ez209, tz209⟩ | ⟨ez209, tz209⟩
                                         · exact absurd (tk_ld tz209) (by rw [show z208.toInt = z202.toInt by omega, tz203]; decide)
                                         · skip
                                           refine Ev.step (j := 213) (s' := ([some (.ref 69), some (.int z43), some (.int z47), some (.int k63)], [.int z47, .int z209], (0, 0), hp64)) rfl rfl ?_
                                           refine bs_ne rfl (fun c210 => ?_) (fun c210 => ?_)
                                           · skip
                                             refine bs_lit (k := 0) rfl rfl fun z211 hz211 => ?_
                                             refine Ev.step (j := 222) (s' := ([some (.ref 69), some (.int z43), some (.int z47), some (.int z211)], [], (0, 0), hp64)) rfl rfl ?_
                                             exact cut76 z211 hp64 t65 Hhp64 Fhp64 i67 i68 hy72 i69 hy73 (by refine ⟨by omega, ?_⟩; rw [show BB (q0.toNat + (y72 - q0).toNat) = z202.toInt by omega]; exact tk_r_d tz203) (by refine ⟨?_, by omega, by omega⟩; rw [allP_n (P := tk_l) (B := BB) (q := q0.toNat) (m := (y72 - q0).toNat) (by rw [show BB (q0.toNat + (y72 - q0).toNat) = z202.toInt by omega]; exact tk_dl tz203)]; exact ⟨fun e => absurd e (by omega), fun e => absurd e (by decide)⟩) (by first | omega | assumption) hy74
                                           · exfalso; omega
                                 · skip
                                   refine bs_ifeq rfl (fun c212 => ?_) (fun c212 => ?_)
                                   · skip
                                     have RF : n0 ≤ y72 ∨ tk_r (BB y72.toNat) = false := by
                                       rcases (show n0 ≤ y72 ∨ (BB (q0.toNat + (y72 - q0).toNat) = z191.toInt ∧ z202.toInt = z191.toInt) by omega) with h | h
                                       · exact Or.inl h
                                       · exact Or.inr (by rw [show y72.toNat = q0.toNat + (y72 - q0).toNat by omega, h.1]; exact tk_r_f tz192 (by rw [← h.2]; exact tz203))
                                     have EQ : tk_e tk_r BB n0.toNat q0.toNat = y72.toNat := ky72.symm.trans (tk_stop (RF.imp (fun h => by omega) (fun h => h)))
                                     have G : q0 + 1 ≤ y72 := by
                                       rcases (show y72 = q0 ∨ q0 + 1 ≤ y72 by omega) with h | h
                                       · rcases RF with g | g
                                         · omega
                                         · rw [show y72.toNat = q0.toNat by omega, FR] at g
                                           exact absurd g (by decide)
                                       · exact h
                                     refine Ev.step (j := 299) (s' := ([some (.ref 69), some (.int z43), some (.int z47), some (.int k63)], [.ref 69], (0, 0), hp64)) rfl rfl ?_
                                     exact by
                                      refine Ev.step (j := 300) (s' := ([some (.ref 69), some (.int z43), some (.int z47), some (.int k63)], [.int k63, .ref 69], (0, 0), hp64)) rfl rfl ?_
                                      refine bs_ifeq rfl (fun c213 => ?_) (fun c213 => ?_)
                                      · skip
                                        have c214 : k63.toInt = 0 := by omega
                                        refine bs_lit (k := 4) rfl rfl fun z215 hz215 => ?_
                                        refine Ev.step (j := 333) (s' := ([some (.ref 69), some (.int z43), some (.int z47), some (.int k63)], [.int z215, .ref 69], (0, 0), hp64)) rfl rfl ?_
                                        refine bs_putIv (W := [(11, 11, 11), (999, 0, 0)]) (g := 11) rfl rfl Hhp64 (bs_R.uq Hhp64 (g := 11) rfl) (by decide) rfl rfl rfl rfl (Or.inl rfl) (by omega) (by omega) fun hp216 Hhp216 fhp216 rhp216 ehp216 qhp216 nhp216 => ?_
                                        have Fhp216 := sf_fr_tr Fhp64 (sf_fr_wider (W := [(999, 0, 0), (11, 4, 4), (11, 11, 14), (11, 17, 17)]) rfl fhp216)
                                        have h217 : sf_rd hp216 69 3 = some n0 := (ehp216 _ _ (Or.inr (by omega))).trans i67
                                        have h218 : sf_rd hp216 69 5 = some l0 := (ehp216 _ _ (Or.inr (by omega))).trans i68
                                        have h219 : sf_rd hp216 69 12 = some z22.toInt := (ehp216 _ _ (Or.inr (by omega))).trans i69
                                        have h220 : sf_rd hp216 69 4 = some y72 := (ehp216 _ _ (Or.inr (by omega))).trans hy72
                                        have h221 : sf_rd hp216 69 13 = some y73 := (ehp216 _ _ (Or.inr (by omega))).trans hy73
                                        have h222 : sf_rd hp216 69 14 = some y74 := (ehp216 _ _ (Or.inr (by omega))).trans hy74
                                        have h223 : sf_rl hp216 69 17 = some w75 := (nhp216 _ _).trans wy72
                                        have A1 := psi_ge h220 rhp216
                                        have A2 := psi_ge Q4 Q11
                                        have PS : sf_psi hp216 ≤ sf_psi hp := by omega
                                        exact Ev.ret rfl rfl (by rw [hQ]; exact ⟨t65, Hhp216, (fr_unmark H Fhp216 PS), bs_anU, sf_S_nil, (fun p n l hp_ hn_ hl_ => by
                                                have eqP : p = P0 := Option.some.inj (hp_.symm.trans Q4); have eqN : n = n0 := Option.some.inj (hn_.symm.trans hn0); have eqL : l = l0 := Option.some.inj (hl_.symm.trans hl0); subst eqP eqN eqL; refine ⟨(show sf_psi hp216 ≤ _ by omega), fun hpn => ?_⟩; rw [← hBB]
                                                have TK : tkt BB n.toNat l.toNat p.toNat = _ := (congrArg (tkq BB n.toNat l.toNat) (ST.trans (show _ = q0.toNat by omega))).trans (tkq_run (by omega) (by omega) FR)
                                                rw [TK, show tk_e tk_r BB n.toNat q0.toNat - q0.toNat = (y72 - q0).toNat by omega]
                                                rw [show trn BB q0.toNat (y72 - q0).toNat = ⟨1, q0.toNat, 0, q0.toNat + (y72 - q0).toNat⟩ from (if_neg fun h => by have h1 := sy72.mpr h.1; have h2 := h.2; omega).trans (if_neg fun h => absurd (allP_0 h.1 (by omega)) (by rw [FL]; decide))]
                                                exact ⟨h219.trans (congrArg some (by show _ = ((q0.toNat : Nat) : Int); omega)), h220.trans (congrArg some (by show _ = ((q0.toNat + (y72 - q0).toNat : Nat) : Int); omega)), rhp216.trans (congrArg some (by show _ = (4 : Int); omega)), fun e => absurd e (by show rkk 1 ≠ 2; decide), fun e => absurd e (by show rkk 1 ≠ 3; decide), fun e => absurd e (by show rkk 1 ≠ 1; decide)⟩)⟩)
                                      · skip
                                        refine Ev.step (j := 304) (s' := ([some (.ref 69), some (.int z43), some (.int z47), some (.int k63)], [.ref 69, .ref 69], (0, 0), hp64)) rfl rfl ?_
                                        exact by
                                         refine bs_getI 11 rfl rfl rfl Hhp64 (bs_R.uq Hhp64 (g := 11) rfl) (by decide) rfl fun z224 hz224 lz224 gz224 => ?_
                                         have e225 : z224.toInt = y73 := Option.some.inj (hz224.symm.trans hy73)
                                         refine Ev.step (j := 308) (s' := ([some (.ref 69), some (.int z43), some (.int z47), some (.int k63)], [.int z47, .int z224, .ref 69], (0, 0), hp64)) rfl rfl ?_
                                         refine bs_ifeq rfl (fun c226 => ?_) (fun c226 => ?_)
                                         · exfalso; omega
                                         · skip
                                           refine bs_lit (k := 7) rfl rfl fun z227 hz227 => ?_
                                           refine Ev.step (j := 317) (s' := ([some (.ref 69), some (.int z43), some (.int z47), some (.int k63)], [.int z227, .int z224, .ref 69], (0, 0), hp64)) rfl rfl ?_
                                           refine bs_le rfl (fun c228 => ?_) (fun c228 => ?_)
                                           · skip
                                             refine Ev.step (j := 325) (s' := ([some (.ref 69), some (.int z43), some (.int z47), some (.int k63)], [.int z47, .ref 69], (0, 0), hp64)) rfl rfl ?_
                                             exact by
                                              refine bs_ifeq rfl (fun c229 => ?_) (fun c229 => ?_)
                                              · exfalso; omega
                                              · skip
                                                refine bs_lit (k := 1) rfl rfl fun z230 hz230 => ?_
                                                refine Ev.step (j := 333) (s' := ([some (.ref 69), some (.int z43), some (.int z47), some (.int k63)], [.int z230, .ref 69], (0, 0), hp64)) rfl rfl ?_
                                                refine bs_putIv (W := [(11, 11, 11), (999, 0, 0)]) (g := 11) rfl rfl Hhp64 (bs_R.uq Hhp64 (g := 11) rfl) (by decide) rfl rfl rfl rfl (Or.inl rfl) (by omega) (by omega) fun hp231 Hhp231 fhp231 rhp231 ehp231 qhp231 nhp231 => ?_
                                                have Fhp231 := sf_fr_tr Fhp64 (sf_fr_wider (W := [(999, 0, 0), (11, 4, 4), (11, 11, 14), (11, 17, 17)]) rfl fhp231)
                                                have h232 : sf_rd hp231 69 3 = some n0 := (ehp231 _ _ (Or.inr (by omega))).trans i67
                                                have h233 : sf_rd hp231 69 5 = some l0 := (ehp231 _ _ (Or.inr (by omega))).trans i68
                                                have h234 : sf_rd hp231 69 12 = some z22.toInt := (ehp231 _ _ (Or.inr (by omega))).trans i69
                                                have h235 : sf_rd hp231 69 4 = some y72 := (ehp231 _ _ (Or.inr (by omega))).trans hy72
                                                have h236 : sf_rd hp231 69 13 = some y73 := (ehp231 _ _ (Or.inr (by omega))).trans hy73
                                                have h237 : sf_rd hp231 69 14 = some y74 := (ehp231 _ _ (Or.inr (by omega))).trans hy74
                                                have h238 : sf_rl hp231 69 17 = some w75 := (nhp231 _ _).trans wy72
                                                have A1 := psi_ge h235 rhp231
                                                have A2 := psi_ge Q4 Q11
                                                have PS : sf_psi hp231 ≤ sf_psi hp := by omega
                                                exact Ev.ret rfl rfl (by rw [hQ]; exact ⟨t65, Hhp231, (fr_unmark H Fhp231 PS), bs_anU, sf_S_nil, (fun p n l hp_ hn_ hl_ => by
                                                        have eqP : p = P0 := Option.some.inj (hp_.symm.trans Q4); have eqN : n = n0 := Option.some.inj (hn_.symm.trans hn0); have eqL : l = l0 := Option.some.inj (hl_.symm.trans hl0); subst eqP eqN eqL; refine ⟨(show sf_psi hp231 ≤ _ by omega), fun hpn => ?_⟩; rw [← hBB]
                                                        have TK : tkt BB n.toNat l.toNat p.toNat = _ := (congrArg (tkq BB n.toNat l.toNat) (ST.trans (show _ = q0.toNat by omega))).trans (tkq_run (by omega) (by omega) FR)
                                                        rw [TK, show tk_e tk_r BB n.toNat q0.toNat - q0.toNat = (y72 - q0).toNat by omega]
                                                        rw [show trn BB q0.toNat (y72 - q0).toNat = ⟨kw (pv BB q0.toNat (y72 - q0).toNat), q0.toNat, wd BB q0.toNat (y72 - q0).toNat, q0.toNat + (y72 - q0).toNat⟩ from if_pos ⟨sy72.mp (by omega), by omega⟩]
                                                        exact ⟨h234.trans (congrArg some (by show _ = ((q0.toNat : Nat) : Int); omega)), h235.trans (congrArg some (by show _ = ((q0.toNat + (y72 - q0).toNat : Nat) : Int); omega)), rhp231.trans (congrArg some (by show _ = rkk (kw (pv BB q0.toNat (y72 - q0).toNat)); rw [rkk_word _]; omega)), fun e => absurd e (by show rkk (kw (pv BB q0.toNat (y72 - q0).toNat)) ≠ 2; rw [rkk_word _]; decide), fun e => absurd e (by show rkk (kw (pv BB q0.toNat (y72 - q0).toNat)) ≠ 3; rw [rkk_word _]; decide), fun _ => ⟨_, h238, ny72 (by omega) (by omega)⟩⟩)⟩)
                                           · skip
                                             refine bs_lit (k := 4) rfl rfl fun z239 hz239 => ?_
                                             exact by
                                              refine Ev.step (j := 333) (s' := ([some (.ref 69), some (.int z43), some (.int z47), some (.int k63)], [.int z239, .ref 69], (0, 0), hp64)) rfl rfl ?_
                                              refine bs_putIv (W := [(11, 11, 11), (999, 0, 0)]) (g := 11) rfl rfl Hhp64 (bs_R.uq Hhp64 (g := 11) rfl) (by decide) rfl rfl rfl rfl (Or.inl rfl) (by omega) (by omega) fun hp240 Hhp240 fhp240 rhp240 ehp240 qhp240 nhp240 => ?_
                                              have Fhp240 := sf_fr_tr Fhp64 (sf_fr_wider (W := [(999, 0, 0), (11, 4, 4), (11, 11, 14), (11, 17, 17)]) rfl fhp240)
                                              have h241 : sf_rd hp240 69 3 = some n0 := (ehp240 _ _ (Or.inr (by omega))).trans i67
                                              have h242 : sf_rd hp240 69 5 = some l0 := (ehp240 _ _ (Or.inr (by omega))).trans i68
                                              have h243 : sf_rd hp240 69 12 = some z22.toInt := (ehp240 _ _ (Or.inr (by omega))).trans i69
                                              have h244 : sf_rd hp240 69 4 = some y72 := (ehp240 _ _ (Or.inr (by omega))).trans hy72
                                              have h245 : sf_rd hp240 69 13 = some y73 := (ehp240 _ _ (Or.inr (by omega))).trans hy73
                                              have h246 : sf_rd hp240 69 14 = some y74 := (ehp240 _ _ (Or.inr (by omega))).trans hy74
                                              have h247 : sf_rl hp240 69 17 = some w75 := (nhp240 _ _).trans wy72
                                              have A1 := psi_ge h244 rhp240
                                              have A2 := psi_ge Q4 Q11
                                              have PS : sf_psi hp240 ≤ sf_psi hp := by omega
                                              exact Ev.ret rfl rfl (by rw [hQ]; exact ⟨t65, Hhp240, (fr_unmark H Fhp240 PS), bs_anU, sf_S_nil, (fun p n l hp_ hn_ hl_ => by
                                                      have eqP : p = P0 := Option.some.inj (hp_.symm.trans Q4); have eqN : n = n0 := Option.some.inj (hn_.symm.trans hn0); have eqL : l = l0 := Option.some.inj (hl_.symm.trans hl0); subst eqP eqN eqL; refine ⟨(show sf_psi hp240 ≤ _ by omega), fun hpn => ?_⟩; rw [← hBB]
                                                      have TK : tkt BB n.toNat l.toNat p.toNat = _ := (congrArg (tkq BB n.toNat l.toNat) (ST.trans (show _ = q0.toNat by omega))).trans (tkq_run (by omega) (by omega) FR)
                                                      rw [TK, show tk_e tk_r BB n.toNat q0.toNat - q0.toNat = (y72 - q0).toNat by omega]
                                                      rw [show trn BB q0.toNat (y72 - q0).toNat = ⟨1, q0.toNat, 0, q0.toNat + (y72 - q0).toNat⟩ from (if_neg fun h => by have h1 := sy72.mpr h.1; have h2 := h.2; omega).trans (if_neg fun h => absurd (allP_0 h.1 (by omega)) (by rw [FL]; decide))]
                                                      exact ⟨h243.trans (congrArg some (by show _ = ((q0.toNat : Nat) : Int); omega)), h244.trans (congrArg some (by show _ = ((q0.toNat + (y72 - q0).toNat : Nat) : Int); omega)), rhp240.trans (congrArg some (by show _ = (4 : Int); omega)), fun e => absurd e (by show rkk 1 ≠ 2; decide), fun e => absurd e (by show rkk 1 ≠ 3; decide), fun e => absurd e (by show rkk 1 ≠ 1; decide)⟩)⟩)
                                   · exfalso; omega
                       · exact absurd tz45 (by rw [tz47]; decide)
                    · exfalso; omega
                  · skip
                    refine bs_ifne rfl (fun c248 => ?_) (fun c248 => ?_)
                    · exfalso; omega
                    · skip
                      refine Ev.step (j := 103) (s' := ([some (.ref 69), some (.int z43), none, none], [.int z43], (0, 0), hp35)) rfl rfl ?_
                      exact by
                       refine bs_pure [.int z43] [] rfl rfl rfl rfl px_X11_isDigit fun z249 hz249 => ?_
                       refine (show Ev _ 106 ([some (.ref 69), some (.int z43), none, none], [.int z249], (0, 0), hp35) _ from ?_)
                       rcases hz249 with ⟨ez249, tz249⟩ | ⟨ez249, tz249⟩
                       · skip
                         have nz249 := tk_d_i tz249
                         refine bs_ifne rfl (fun c250 => ?_) (fun c250 => ?_)
                         · skip
                           obtain ⟨q0, hq0⟩ : ∃ q0 : Int, q0 = y7 := ⟨_, rfl⟩
                           have VB : BB q0.toNat = z43.toInt := by rw [hq0]; omega
                           have FR : tk_r (BB q0.toNat) = true := by rw [VB]; exact tk_r_d tz249
                           have FL : tk_l (BB q0.toNat) = false := by rw [VB]; exact tk_dl tz249
                           refine Ev.step (j := 165) (s' := ([some (.ref 69), some (.int z43), none, none], [.int z43], (0, 0), hp35)) rfl rfl ?_
                           exact by
                            refine bs_pure [.int z43] [] rfl rfl rfl rfl px_X11_isSmall fun z251 hz251 => ?_
                            refine (show Ev _ 168 ([some (.ref 69), some (.int z43), none, none], [.int z251], (0, 0), hp35) _ from ?_)
                            rcases hz251 with ⟨ez251, tz251⟩ | ⟨ez251, tz251⟩
                            · exact absurd (tk_ld tz251) (by rw [tz249]; decide)
                            · skip
                              refine Ev.step (j := 169) (s' := ([some (.ref 69), some (.int z43), some (.int z251), none], [], (0, 0), hp35)) rfl rfl ?_
                              refine bs_lit (k := 1) rfl rfl fun z252 hz252 => ?_
                              refine Ev.step (j := 171) (s' := ([some (.ref 69), some (.int z43), some (.int z251), some (.int z252)], [], (0, 0), hp35)) rfl rfl ?_
                              refine Ev.step (j := 172) (s' := ([some (.ref 69), some (.int z43), some (.int z251), some (.int z252)], [.ref 69], (0, 0), hp35)) rfl rfl ?_
                              refine Ev.step (j := 173) (s' := ([some (.ref 69), some (.int z43), some (.int z251), some (.int z252)], [.long (0 : Int64), .ref 69], (0, 0), hp35)) rfl rfl ?_
                              refine bs_putLv (W := [(11, 17, 17)]) (g := 11) rfl rfl Hhp35 (bs_R.uq Hhp35 (g := 11) rfl) (by decide) rfl rfl rfl rfl fun hp253 Hhp253 fhp253 mhp253 lhp253 ehp253 qhp253 => ?_
                              have Fhp253 := sf_fr_tr Fhp35 (sf_fr_wider (W := [(999, 0, 0), (11, 4, 4), (11, 11, 14), (11, 17, 17)]) rfl fhp253)
                              have h254 : sf_rd hp253 69 3 = some n0 := (ehp253 _ _).trans i37
                              have h255 : sf_rd hp253 69 5 = some l0 := (ehp253 _ _).trans i38
                              have h256 : sf_rd hp253 69 4 = some y7 := (ehp253 _ _).trans i39
                              have h257 : sf_rd hp253 69 12 = some z22.toInt := (ehp253 _ _).trans i40
                              have h258 : sf_rd hp253 69 13 = some z28.toInt := (ehp253 _ _).trans i41
                              refine Ev.step (j := 177) (s' := ([some (.ref 69), some (.int z43), some (.int z251), some (.int z252)], [.ref 69], (0, 0), hp253)) rfl rfl ?_
                              exact by
                               refine bs_lit (k := 0) rfl rfl fun z259 hz259 => ?_
                               refine bs_putIv (W := [(11, 14, 14)]) (g := 11) rfl rfl Hhp253 (bs_R.uq Hhp253 (g := 11) rfl) (by decide) rfl rfl rfl rfl (Or.inl rfl) (by omega) (by omega) fun hp260 Hhp260 fhp260 rhp260 ehp260 qhp260 nhp260 => ?_
                               have Fhp260 := sf_fr_tr Fhp253 (sf_fr_wider (W := [(999, 0, 0), (11, 4, 4), (11, 11, 14), (11, 17, 17)]) rfl fhp260)
                               have h261 : sf_rd hp260 69 3 = some n0 := (ehp260 _ _ (Or.inr (by omega))).trans h254
                               have h262 : sf_rd hp260 69 5 = some l0 := (ehp260 _ _ (Or.inr (by omega))).trans h255
                               have h263 : sf_rd hp260 69 4 = some y7 := (ehp260 _ _ (Or.inr (by omega))).trans h256
                               have h264 : sf_rd hp260 69 12 = some z22.toInt := (ehp260 _ _ (Or.inr (by omega))).trans h257
                               have h265 : sf_rd hp260 69 13 = some z28.toInt := (ehp260 _ _ (Or.inr (by omega))).trans h258
                               have h266 : sf_rl hp260 69 17 = some (0 : Int64) := (nhp260 _ _).trans mhp253
                               have EM : (y7 - q0).toNat = 0 := by omega
                               have INV : ∃ (v c n : Int) (w : Int64), sf_rd hp260 69 4 = some v ∧ sf_rd hp260 69 13 = some c ∧ sf_rd hp260 69 14 = some n ∧ sf_rl hp260 69 17 = some w ∧ q0 ≤ v ∧ v ≤ 940 ∧ v ≤ n0 ∧ c = v - q0 ∧ tk_e tk_r BB n0.toNat v.toNat = tk_e tk_r BB n0.toNat q0.toNat ∧ (z252.toInt = 1 ↔ allP tk_d BB q0.toNat (v - q0).toNat = true) ∧ (z252.toInt = 1 → c ≤ 3 → n = nb BB q0.toNat (v - q0).toNat) ∧ 0 ≤ n ∧ n ≤ 8214 ∧ (c = 0 → n ≤ 0) ∧ (c = 1 → n ≤ 74) ∧ (c = 2 → n ≤ 814) := ⟨y7, z28.toInt, z259.toInt, (0 : Int64), h263, h265, rhp260, h266, by omega, by omega, by omega, by omega, by rw [show (y7).toNat = q0.toNat by omega], by rw [EM]; exact ⟨fun _ => rfl, fun _ => by omega⟩, by rw [EM]; intro _ _; show _ = (0 : Int); omega, by omega, by omega, by omega, by omega, by omega⟩
                               refine bs_loop (ι := Int32 × ab_H × (Nat → Nat)) (fun ⟨k267, hp268, t269⟩ => ([some (.ref 69), some (.int z43), some (.int z251), some (.int k267)], [], (0, 0), hp268)) (fun ⟨k267, hp268, t269⟩ => (sf_h t269 hp268) ∧ (sf_fr [(999, 0, 0), (11, 4, 4), (11, 11, 14), (11, 17, 17)] t hp t269 hp268) ∧ (sf_rd hp268 69 3 = some n0) ∧ (sf_rd hp268 69 5 = some l0) ∧ (sf_rd hp268 69 12 = some z22.toInt) ∧ (0 ≤ k267.toInt ∧ k267.toInt ≤ 1) ∧ (∃ (v c n : Int) (w : Int64), sf_rd hp268 69 4 = some v ∧ sf_rd hp268 69 13 = some c ∧ sf_rd hp268 69 14 = some n ∧ sf_rl hp268 69 17 = some w ∧ q0 ≤ v ∧ v ≤ 940 ∧ v ≤ n0 ∧ c = v - q0 ∧ tk_e tk_r BB n0.toNat v.toNat = tk_e tk_r BB n0.toNat q0.toNat ∧ (k267.toInt = 1 ↔ allP tk_d BB q0.toNat (v - q0).toNat = true) ∧ (k267.toInt = 1 → c ≤ 3 → n = nb BB q0.toNat (v - q0).toNat) ∧ 0 ≤ n ∧ n ≤ 8214 ∧ (c = 0 → n ≤ 0) ∧ (c = 1 → n ≤ 74) ∧ (c = 2 → n ≤ 814))) (fun ⟨k267, hp268, t269⟩ => (940 - (sf_rd hp268 69 4).getD 0).toNat) ?_ (z252, hp260, t36) ⟨Hhp260, Fhp260, h261, h262, h264, (by first | omega | assumption), (by exact INV)⟩
                               rintro ⟨k267, hp268, t269⟩ ⟨Hhp268, Fhp268, i271, i272, i273, i274, i275⟩ ih270
                               clear INV
                               refine (show Ev _ 181 ([some (.ref 69), some (.int z43), some (.int z251), some (.int k267)], [], (0, 0), hp268) _ from ?_)
                               obtain ⟨y276, y277, y278, w279, hy276, hy277, hy278, wy276, ly276, gy276, xy276, dy276, ky276, sy276, my276, iy276, jy276, fy276, cy276, oy276⟩ := i275
                               refine Ev.step (j := 182) (s' := ([some (.ref 69), some (.int z43), some (.int z251), some (.int k267)], [.ref 69], (0, 0), hp268)) rfl rfl ?_
                               have cut280 : ∀ (k281 : Int32) (hp282 : ab_H) (t283 : Nat → Nat), sf_h t283 hp282 → sf_fr [(999, 0, 0), (11, 4, 4), (11, 11, 14), (11, 17, 17)] t hp t283 hp282 → (sf_rd hp282 69 3 = some n0) → (sf_rd hp282 69 5 = some l0) → (sf_rd hp282 69 4 = some y276) → (sf_rd hp282 69 12 = some z22.toInt) → (sf_rd hp282 69 13 = some y277) → (y276 < n0 ∧ tk_r (BB (q0.toNat + (y276 - q0).toNat)) = true) → ((k281.toInt = 1 ↔ allP tk_d BB q0.toNat ((y276 - q0).toNat + 1) = true) ∧ 0 ≤ k281.toInt ∧ k281.toInt ≤ 1) → (sf_rl hp282 69 17 = some w279) → (sf_rd hp282 69 14 = some y278) → Ev (ab_T (L_X11_next Z_X11_peek Z_X11_isSmall Z_X11_isDigit)) 222 ([some (.ref 69), some (.int z43), some (.int z251), some (.int k281)], [], (0, 0), hp282) Q := by
                                 intro k281 hp282 t283 Hhp282 Fhp282 i284 i285 i286 i287 i288 i289 i290 i291 i292
                                 have TRI := tk_r_i i289.2
                                 have RT := i289.2
                                 refine Ev.step (j := 223) (s' := ([some (.ref 69), some (.int z43), some (.int z251), some (.int k281)], [.ref 69], (0, 0), hp282)) rfl rfl ?_
                                 exact by
                                  refine bs_getI 11 rfl rfl rfl Hhp282 (bs_R.uq Hhp282 (g := 11) rfl) (by decide) rfl fun z293 hz293 lz293 gz293 => ?_
                                  have e294 : z293.toInt = y277 := Option.some.inj (hz293.symm.trans i288)
                                  refine bs_lit (k := 7) rfl rfl fun z295 hz295 => ?_
                                  refine bs_ge rfl (fun c296 => ?_) (fun c296 => ?_)
                                  · skip
                                    refine Ev.step (j := 249) (s' := ([some (.ref 69), some (.int z43), some (.int z251), some (.int k281)], [.ref 69], (0, 0), hp282)) rfl rfl ?_
                                    refine bs_getI 11 rfl rfl rfl Hhp282 (bs_R.uq Hhp282 (g := 11) rfl) (by decide) rfl fun z297 hz297 lz297 gz297 => ?_
                                    have e298 : z297.toInt = y277 := Option.some.inj (hz297.symm.trans i288)
                                    refine bs_lit (k := 3) rfl rfl fun z299 hz299 => ?_
                                    exact by
                                     refine bs_ge rfl (fun c300 => ?_) (fun c300 => ?_)
                                     · skip
                                       refine Ev.step (j := 276) (s' := ([some (.ref 69), some (.int z43), some (.int z251), some (.int k281)], [.ref 69], (0, 0), hp282)) rfl rfl ?_
                                       refine Ev.step (j := 277) (s' := ([some (.ref 69), some (.int z43), some (.int z251), some (.int k281)], [.ref 69, .ref 69], (0, 0), hp282)) rfl rfl ?_
                                       refine bs_getI 11 rfl rfl rfl Hhp282 (bs_R.uq Hhp282 (g := 11) rfl) (by decide) rfl fun z301 hz301 lz301 gz301 => ?_
                                       have e302 : z301.toInt = y277 := Option.some.inj (hz301.symm.trans i288)
                                       refine bs_lit (k := 1) rfl rfl fun z303 hz303 => ?_
                                       first | (refine bs_add rfl (by omega) (by omega) fun z304 hz304 => ?_) | (refine bs_any rfl fun z304 => ?_)
                                       have rz304 := n_range z304
                                       refine bs_putIv (W := [(11, 13, 13)]) (g := 11) rfl rfl Hhp282 (bs_R.uq Hhp282 (g := 11) rfl) (by decide) rfl rfl rfl rfl (Or.inl rfl) (by omega) (by omega) fun hp305 Hhp305 fhp305 rhp305 ehp305 qhp305 nhp305 => ?_
                                       have Fhp305 := sf_fr_tr Fhp282 (sf_fr_wider (W := [(999, 0, 0), (11, 4, 4), (11, 11, 14), (11, 17, 17)]) rfl fhp305)
                                       have h306 : sf_rd hp305 69 3 = some n0 := (ehp305 _ _ (Or.inr (by omega))).trans i284
                                       have h307 : sf_rd hp305 69 5 = some l0 := (ehp305 _ _ (Or.inr (by omega))).trans i285
                                       have h308 : sf_rd hp305 69 4 = some y276 := (ehp305 _ _ (Or.inr (by omega))).trans i286
                                       have h309 : sf_rd hp305 69 12 = some z22.toInt := (ehp305 _ _ (Or.inr (by omega))).trans i287
                                       have h310 : sf_rd hp305 69 14 = some y278 := (ehp305 _ _ (Or.inr (by omega))).trans i292
                                       have h311 : sf_rl hp305 69 17 = some w279 := (nhp305 _ _).trans i291
                                       refine Ev.step (j := 286) (s' := ([some (.ref 69), some (.int z43), some (.int z251), some (.int k281)], [.ref 69], (0, 0), hp305)) rfl rfl ?_
                                       exact by
                                        refine Ev.step (j := 287) (s' := ([some (.ref 69), some (.int z43), some (.int z251), some (.int k281)], [.ref 69, .ref 69], (0, 0), hp305)) rfl rfl ?_
                                        refine bs_getI 11 rfl rfl rfl Hhp305 (bs_R.uq Hhp305 (g := 11) rfl) (by decide) rfl fun z312 hz312 lz312 gz312 => ?_
                                        have e313 : z312.toInt = y276 := Option.some.inj (hz312.symm.trans h308)
                                        refine bs_lit (k := 1) rfl rfl fun z314 hz314 => ?_
                                        first | (refine bs_add rfl (by omega) (by omega) fun z315 hz315 => ?_) | (refine bs_any rfl fun z315 => ?_)
                                        have rz315 := n_range z315
                                        refine bs_putIv (W := [(11, 4, 4), (999, 0, 0)]) (g := 11) rfl rfl Hhp305 (bs_R.uq Hhp305 (g := 11) rfl) (by decide) rfl rfl rfl rfl (Or.inl rfl) (by omega) (by omega) fun hp316 Hhp316 fhp316 rhp316 ehp316 qhp316 nhp316 => ?_
                                        have Fhp316 := sf_fr_tr Fhp305 (sf_fr_wider (W := [(999, 0, 0), (11, 4, 4), (11, 11, 14), (11, 17, 17)]) rfl fhp316)
                                        have h317 : sf_rd hp316 69 3 = some n0 := (ehp316 _ _ (Or.inr (by omega))).trans h306
                                        have h318 : sf_rd hp316 69 5 = some l0 := (ehp316 _ _ (Or.inr (by omega))).trans h307
                                        have h319 : sf_rd hp316 69 12 = some z22.toInt := (ehp316 _ _ (Or.inr (by omega))).trans h309
                                        have h320 : sf_rd hp316 69 14 = some y278 := (ehp316 _ _ (Or.inr (by omega))).trans h310
                                        have h321 : sf_rd hp316 69 13 = some z304.toInt := (ehp316 _ _ (Or.inr (by omega))).trans rhp305
                                        have h322 : sf_rl hp316 69 17 = some w279 := (nhp316 _ _).trans h311
                                        refine Ev.step (j := 181) (s' := ([some (.ref 69), some (.int z43), some (.int z251), some (.int k281)], [], (0, 0), hp316)) rfl rfl ?_
                                        have EM : (z315.toInt - q0).toNat = (y276 - q0).toNat + 1 := by omega
                                        have INV : ∃ (v c n : Int) (w : Int64), sf_rd hp316 69 4 = some v ∧ sf_rd hp316 69 13 = some c ∧ sf_rd hp316 69 14 = some n ∧ sf_rl hp316 69 17 = some w ∧ q0 ≤ v ∧ v ≤ 940 ∧ v ≤ n0 ∧ c = v - q0 ∧ tk_e tk_r BB n0.toNat v.toNat = tk_e tk_r BB n0.toNat q0.toNat ∧ (k281.toInt = 1 ↔ allP tk_d BB q0.toNat (v - q0).toNat = true) ∧ (k281.toInt = 1 → c ≤ 3 → n = nb BB q0.toNat (v - q0).toNat) ∧ 0 ≤ n ∧ n ≤ 8214 ∧ (c = 0 → n ≤ 0) ∧ (c = 1 → n ≤ 74) ∧ (c = 2 → n ≤ 814) := ⟨z315.toInt, z304.toInt, y278, w279, rhp316, h321, h320, h322, by omega, by omega, by omega, by omega, (by rw [show (z315.toInt).toNat = y276.toNat + 1 by omega, ← tk_go (by omega) (show tk_r (BB y276.toNat) = true by rw [show y276.toNat = q0.toNat + (y276 - q0).toNat by omega]; exact RT)]; exact ky276), (by rw [EM]; exact i290.1), fun e1 e2 => absurd e2 (by omega), by omega, by omega, by omega, by omega, by omega⟩
                                        have MS : (940 - (sf_rd hp316 69 4).getD 0).toNat < (940 - (sf_rd hp268 69 4).getD 0).toNat := by
                                          rw [rhp316, hy276]
                                          show (940 - z315.toInt).toNat < (940 - y276).toNat
                                          omega
                                        refine ih270 (k281, hp316, t283) ⟨Hhp316, Fhp316, h317, h318, h319, (by first | omega | assumption), (by exact INV)⟩ ?_
                                        show (940 - (sf_rd hp316 69 4).getD 0).toNat < (940 - (sf_rd hp268 69 4).getD 0).toNat
                                        exact MS
                                     · exfalso; omega
                                  · skip
                                    refine Ev.step (j := 232) (s' := ([some (.ref 69), some (.int z43), some (.int z251), some (.int k281)], [.ref 69], (0, 0), hp282)) rfl rfl ?_
                                    exact by
                                     refine Ev.step (j := 233) (s' := ([some (.ref 69), some (.int z43), some (.int z251), some (.int k281)], [.ref 69, .ref 69], (0, 0), hp282)) rfl rfl ?_
                                     refine bs_getLe (g := 11) rfl rfl Hhp282 (bs_R.uq Hhp282 (g := 11) rfl) (by decide) rfl i291 ?_
                                     refine bs_lit (k := 8) rfl rfl fun z323 hz323 => ?_
                                     refine Ev.step (j := 239) (s' := ([some (.ref 69), some (.int z43), some (.int z251), some (.int k281)], [.long (w279 <<< (z323.toInt64 &&& 63)), .ref 69], (0, 0), hp282)) rfl rfl ?_
                                     refine Ev.step (j := 240) (s' := ([some (.ref 69), some (.int z43), some (.int z251), some (.int k281)], [.ref 69, .long (w279 <<< (z323.toInt64 &&& 63)), .ref 69], (0, 0), hp282)) rfl rfl ?_
                                     refine pk_ev rfl Hhp282 rfl fun z324 pz324 oz324 mz324 => ?_
                                     refine (show Ev _ 243 ([some (.ref 69), some (.int z43), some (.int z251), some (.int k281)], [.int z324, .long (w279 <<< (z323.toInt64 &&& 63)), .ref 69], (0, 0), hp282) _ from ?_)
                                     have bz324 := pkB pz324 i286 i284 (by omega) (EB _ (fun q => Fhp282.2.2.1 _ (bs_R.uq H (g := 131) (p := 70) rfl).1 _ (by rw [(bs_R.uq H (g := 131) (p := 70) rfl).2]; rfl)))
                                     rw [show (y276).toNat = q0.toNat + (y276 - q0).toNat by omega] at bz324
                                     refine Ev.step (j := 244) (s' := ([some (.ref 69), some (.int z43), some (.int z251), some (.int k281)], [.long (z324.toInt64), .long (w279 <<< (z323.toInt64 &&& 63)), .ref 69], (0, 0), hp282)) rfl rfl ?_
                                     exact by
                                      refine Ev.step (j := 245) (s' := ([some (.ref 69), some (.int z43), some (.int z251), some (.int k281)], [.long ((w279 <<< (z323.toInt64 &&& 63)) ||| (z324.toInt64)), .ref 69], (0, 0), hp282)) rfl rfl ?_
                                      refine bs_putLv (W := [(11, 17, 17)]) (g := 11) rfl rfl Hhp282 (bs_R.uq Hhp282 (g := 11) rfl) (by decide) rfl rfl rfl rfl fun hp325 Hhp325 fhp325 mhp325 lhp325 ehp325 qhp325 => ?_
                                      have Fhp325 := sf_fr_tr Fhp282 (sf_fr_wider (W := [(999, 0, 0), (11, 4, 4), (11, 11, 14), (11, 17, 17)]) rfl fhp325)
                                      have h326 : sf_rd hp325 69 3 = some n0 := (ehp325 _ _).trans i284
                                      have h327 : sf_rd hp325 69 5 = some l0 := (ehp325 _ _).trans i285
                                      have h328 : sf_rd hp325 69 4 = some y276 := (ehp325 _ _).trans i286
                                      have h329 : sf_rd hp325 69 12 = some z22.toInt := (ehp325 _ _).trans i287
                                      have h330 : sf_rd hp325 69 13 = some y277 := (ehp325 _ _).trans i288
                                      have h331 : sf_rd hp325 69 14 = some y278 := (ehp325 _ _).trans i292
                                      refine Ev.step (j := 249) (s' := ([some (.ref 69), some (.int z43), some (.int z251), some (.int k281)], [.ref 69], (0, 0), hp325)) rfl rfl ?_
                                      exact by
                                       refine bs_getI 11 rfl rfl rfl Hhp325 (bs_R.uq Hhp325 (g := 11) rfl) (by decide) rfl fun z332 hz332 lz332 gz332 => ?_
                                       have e333 : z332.toInt = y277 := Option.some.inj (hz332.symm.trans h330)
                                       refine bs_lit (k := 3) rfl rfl fun z334 hz334 => ?_
                                       refine bs_ge rfl (fun c335 => ?_) (fun c335 => ?_)
                                       · skip
                                         refine Ev.step (j := 276) (s' := ([some (.ref 69), some (.int z43), some (.int z251), some (.int k281)], [.ref 69], (0, 0), hp325)) rfl rfl ?_
                                         refine Ev.step (j := 277) (s' := ([some (.ref 69), some (.int z43), some (.int z251), some (.int k281)], [.ref 69, .ref 69], (0, 0), hp325)) rfl rfl ?_
                                         refine bs_getI 11 rfl rfl rfl Hhp325 (bs_R.uq Hhp325 (g := 11) rfl) (by decide) rfl fun z336 hz336 lz336 gz336 => ?_
                                         have e337 : z336.toInt = y277 := Option.some.inj (hz336.symm.trans h330)
                                         refine bs_lit (k := 1) rfl rfl fun z338 hz338 => ?_
                                         first | (refine bs_add rfl (by omega) (by omega) fun z339 hz339 => ?_) | (refine bs_any rfl fun z339 => ?_)
                                         have rz339 := n_range z339
                                         refine bs_putIv (W := [(11, 13, 13)]) (g := 11) rfl rfl Hhp325 (bs_R.uq Hhp325 (g := 11) rfl) (by decide) rfl rfl rfl rfl (Or.inl rfl) (by omega) (by omega) fun hp340 Hhp340 fhp340 rhp340 ehp340 qhp340 nhp340 => ?_
                                         have Fhp340 := sf_fr_tr Fhp325 (sf_fr_wider (W := [(999, 0, 0), (11, 4, 4), (11, 11, 14), (11, 17, 17)]) rfl fhp340)
                                         have h341 : sf_rd hp340 69 3 = some n0 := (ehp340 _ _ (Or.inr (by omega))).trans h326
                                         have h342 : sf_rd hp340 69 5 = some l0 := (ehp340 _ _ (Or.inr (by omega))).trans h327
                                         have h343 : sf_rd hp340 69 4 = some y276 := (ehp340 _ _ (Or.inr (by omega))).trans h328
                                         have h344 : sf_rd hp340 69 12 = some z22.toInt := (ehp340 _ _ (Or.inr (by omega))).trans h329
                                         have h345 : sf_rd hp340 69 14 = some y278 := (ehp340 _ _ (Or.inr (by omega))).trans h331
                                         have h346 : sf_rl hp340 69 17 = some ((w279 <<< (z323.toInt64 &&& 63)) ||| (z324.toInt64)) := (nhp340 _ _).trans mhp325
                                         refine Ev.step (j := 286) (s' := ([some (.ref 69), some (.int z43), some (.int z251), some (.int k281)], [.ref 69], (0, 0), hp340)) rfl rfl ?_
                                         exact by
                                          refine Ev.step (j := 287) (s' := ([some (.ref 69), some (.int z43), some (.int z251), some (.int k281)], [.ref 69, .ref 69], (0, 0), hp340)) rfl rfl ?_
                                          refine bs_getI 11 rfl rfl rfl Hhp340 (bs_R.uq Hhp340 (g := 11) rfl) (by decide) rfl fun z347 hz347 lz347 gz347 => ?_
                                          have e348 : z347.toInt = y276 := Option.some.inj (hz347.symm.trans h343)
                                          refine bs_lit (k := 1) rfl rfl fun z349 hz349 => ?_
                                          first | (refine bs_add rfl (by omega) (by omega) fun z350 hz350 => ?_) | (refine bs_any rfl fun z350 => ?_)
                                          have rz350 := n_range z350
                                          refine bs_putIv (W := [(11, 4, 4), (999, 0, 0)]) (g := 11) rfl rfl Hhp340 (bs_R.uq Hhp340 (g := 11) rfl) (by decide) rfl rfl rfl rfl (Or.inl rfl) (by omega) (by omega) fun hp351 Hhp351 fhp351 rhp351 ehp351 qhp351 nhp351 => ?_
                                          have Fhp351 := sf_fr_tr Fhp340 (sf_fr_wider (W := [(999, 0, 0), (11, 4, 4), (11, 11, 14), (11, 17, 17)]) rfl fhp351)
                                          have h352 : sf_rd hp351 69 3 = some n0 := (ehp351 _ _ (Or.inr (by omega))).trans h341
                                          have h353 : sf_rd hp351 69 5 = some l0 := (ehp351 _ _ (Or.inr (by omega))).trans h342
                                          have h354 : sf_rd hp351 69 12 = some z22.toInt := (ehp351 _ _ (Or.inr (by omega))).trans h344
                                          have h355 : sf_rd hp351 69 14 = some y278 := (ehp351 _ _ (Or.inr (by omega))).trans h345
                                          have h356 : sf_rd hp351 69 13 = some z339.toInt := (ehp351 _ _ (Or.inr (by omega))).trans rhp340
                                          have h357 : sf_rl hp351 69 17 = some ((w279 <<< (z323.toInt64 &&& 63)) ||| (z324.toInt64)) := (nhp351 _ _).trans h346
                                          refine Ev.step (j := 181) (s' := ([some (.ref 69), some (.int z43), some (.int z251), some (.int k281)], [], (0, 0), hp351)) rfl rfl ?_
                                          have EM : (z350.toInt - q0).toNat = (y276 - q0).toNat + 1 := by omega
                                          have INV : ∃ (v c n : Int) (w : Int64), sf_rd hp351 69 4 = some v ∧ sf_rd hp351 69 13 = some c ∧ sf_rd hp351 69 14 = some n ∧ sf_rl hp351 69 17 = some w ∧ q0 ≤ v ∧ v ≤ 940 ∧ v ≤ n0 ∧ c = v - q0 ∧ tk_e tk_r BB n0.toNat v.toNat = tk_e tk_r BB n0.toNat q0.toNat ∧ (k281.toInt = 1 ↔ allP tk_d BB q0.toNat (v - q0).toNat = true) ∧ (k281.toInt = 1 → c ≤ 3 → n = nb BB q0.toNat (v - q0).toNat) ∧ 0 ≤ n ∧ n ≤ 8214 ∧ (c = 0 → n ≤ 0) ∧ (c = 1 → n ≤ 74) ∧ (c = 2 → n ≤ 814) := ⟨z350.toInt, z339.toInt, y278, ((w279 <<< (z323.toInt64 &&& 63)) ||| (z324.toInt64)), rhp351, h356, h355, h357, by omega, by omega, by omega, by omega, (by rw [show (z350.toInt).toNat = y276.toNat + 1 by omega, ← tk_go (by omega) (show tk_r (BB y276.toNat) = true by rw [show y276.toNat = q0.toNat + (y276 - q0).toNat by omega]; exact RT)]; exact ky276), (by rw [EM]; exact i290.1), fun e1 e2 => absurd e2 (by omega), by omega, by omega, by omega, by omega, by omega⟩
                                          have MS : (940 - (sf_rd hp351 69 4).getD 0).toNat < (940 - (sf_rd hp268 69 4).getD 0).toNat := by
                                            rw [rhp351, hy276]
                                            show (940 - z350.toInt).toNat < (940 - y276).toNat
                                            omega
                                          refine ih270 (k281, hp351, t283) ⟨Hhp351, Fhp351, h352, h353, h354, (by first | omega | assumption), (by exact INV)⟩ ?_
                                          show (940 - (sf_rd hp351 69 4).getD 0).toNat < (940 - (sf_rd hp268 69 4).getD 0).toNat
                                          exact MS
                                       · skip
                                         refine Ev.step (j := 257) (s' := ([some (.ref 69), some (.int z43), some (.int z251), some (.int k281)], [.ref 69], (0, 0), hp325)) rfl rfl ?_
                                         exact by
                                          refine bs_lit (k := 10) rfl rfl fun z358 hz358 => ?_
                                          refine Ev.step (j := 260) (s' := ([some (.ref 69), some (.int z43), some (.int z251), some (.int k281)], [.ref 69, .int z358, .ref 69], (0, 0), hp325)) rfl rfl ?_
                                          refine bs_getI 11 rfl rfl rfl Hhp325 (bs_R.uq Hhp325 (g := 11) rfl) (by decide) rfl fun z359 hz359 lz359 gz359 => ?_
                                          have e360 : z359.toInt = y278 := Option.some.inj (hz359.symm.trans h331)
                                          refine bs_mul (10) rfl (Or.inl hz358) (by rw [hz358]; omega) (by rw [hz358]; omega) fun z361 hz361 => ?_
                                          rw [hz358] at hz361
                                          refine Ev.step (j := 265) (s' := ([some (.ref 69), some (.int z43), some (.int z251), some (.int k281)], [.ref 69, .int z361, .ref 69], (0, 0), hp325)) rfl rfl ?_
                                          refine pk_ev rfl Hhp325 rfl fun z362 pz362 oz362 mz362 => ?_
                                          refine (show Ev _ 268 ([some (.ref 69), some (.int z43), some (.int z251), some (.int k281)], [.int z362, .int z361, .ref 69], (0, 0), hp325) _ from ?_)
                                          have bz362 := pkB pz362 h328 h326 (by omega) (EB _ (fun q => Fhp325.2.2.1 _ (bs_R.uq H (g := 131) (p := 70) rfl).1 _ (by rw [(bs_R.uq H (g := 131) (p := 70) rfl).2]; rfl)))
                                          rw [show (y276).toNat = q0.toNat + (y276 - q0).toNat by omega] at bz362
                                          first | (refine bs_add rfl (by omega) (by omega) fun z363 hz363 => ?_) | (refine bs_any rfl fun z363 => ?_)
                                          have rz363 := n_range z363
                                          refine bs_lit (k := 48) rfl rfl fun z364 hz364 => ?_
                                          first | (refine bs_sub rfl (by omega) (by omega) fun z365 hz365 => ?_) | (refine bs_any rfl fun z365 => ?_)
                                          have rz365 := n_range z365
                                          refine bs_putIv (W := [(11, 14, 14)]) (g := 11) rfl rfl Hhp325 (bs_R.uq Hhp325 (g := 11) rfl) (by decide) rfl rfl rfl rfl (Or.inl rfl) (by omega) (by omega) fun hp366 Hhp366 fhp366 rhp366 ehp366 qhp366 nhp366 => ?_
                                          have Fhp366 := sf_fr_tr Fhp325 (sf_fr_wider (W := [(999, 0, 0), (11, 4, 4), (11, 11, 14), (11, 17, 17)]) rfl fhp366)
                                          have h367 : sf_rd hp366 69 3 = some n0 := (ehp366 _ _ (Or.inr (by omega))).trans h326
                                          have h368 : sf_rd hp366 69 5 = some l0 := (ehp366 _ _ (Or.inr (by omega))).trans h327
                                          have h369 : sf_rd hp366 69 4 = some y276 := (ehp366 _ _ (Or.inr (by omega))).trans h328
                                          have h370 : sf_rd hp366 69 12 = some z22.toInt := (ehp366 _ _ (Or.inr (by omega))).trans h329
                                          have h371 : sf_rd hp366 69 13 = some y277 := (ehp366 _ _ (Or.inr (by omega))).trans h330
                                          have h372 : sf_rl hp366 69 17 = some ((w279 <<< (z323.toInt64 &&& 63)) ||| (z324.toInt64)) := (nhp366 _ _).trans mhp325
                                          refine Ev.step (j := 276) (s' := ([some (.ref 69), some (.int z43), some (.int z251), some (.int k281)], [.ref 69], (0, 0), hp366)) rfl rfl ?_
                                          exact by
                                           refine Ev.step (j := 277) (s' := ([some (.ref 69), some (.int z43), some (.int z251), some (.int k281)], [.ref 69, .ref 69], (0, 0), hp366)) rfl rfl ?_
                                           refine bs_getI 11 rfl rfl rfl Hhp366 (bs_R.uq Hhp366 (g := 11) rfl) (by decide) rfl fun z373 hz373 lz373 gz373 => ?_
                                           have e374 : z373.toInt = y277 := Option.some.inj (hz373.symm.trans h371)
                                           refine bs_lit (k := 1) rfl rfl fun z375 hz375 => ?_
                                           first | (refine bs_add rfl (by omega) (by omega) fun z376 hz376 => ?_) | (refine bs_any rfl fun z376 => ?_)
                                           have rz376 := n_range z376
                                           refine bs_putIv (W := [(11, 13, 13)]) (g := 11) rfl rfl Hhp366 (bs_R.uq Hhp366 (g := 11) rfl) (by decide) rfl rfl rfl rfl (Or.inl rfl) (by omega) (by omega) fun hp377 Hhp377 fhp377 rhp377 ehp377 qhp377 nhp377 => ?_
                                           have Fhp377 := sf_fr_tr Fhp366 (sf_fr_wider (W := [(999, 0, 0), (11, 4, 4), (11, 11, 14), (11, 17, 17)]) rfl fhp377)
                                           have h378 : sf_rd hp377 69 3 = some n0 := (ehp377 _ _ (Or.inr (by omega))).trans h367
                                           have h379 : sf_rd hp377 69 5 = some l0 := (ehp377 _ _ (Or.inr (by omega))).trans h368
                                           have h380 : sf_rd hp377 69 4 = some y276 := (ehp377 _ _ (Or.inr (by omega))).trans h369
                                           have h381 : sf_rd hp377 69 12 = some z22.toInt := (ehp377 _ _ (Or.inr (by omega))).trans h370
                                           have h382 : sf_rd hp377 69 14 = some z365.toInt := (ehp377 _ _ (Or.inr (by omega))).trans rhp366
                                           have h383 : sf_rl hp377 69 17 = some ((w279 <<< (z323.toInt64 &&& 63)) ||| (z324.toInt64)) := (nhp377 _ _).trans h372
                                           refine Ev.step (j := 286) (s' := ([some (.ref 69), some (.int z43), some (.int z251), some (.int k281)], [.ref 69], (0, 0), hp377)) rfl rfl ?_
                                           exact by
                                            refine Ev.step (j := 287) (s' := ([some (.ref 69), some (.int z43), some (.int z251), some (.int k281)], [.ref 69, .ref 69], (0, 0), hp377)) rfl rfl ?_
                                            refine bs_getI 11 rfl rfl rfl Hhp377 (bs_R.uq Hhp377 (g := 11) rfl) (by decide) rfl fun z384 hz384 lz384 gz384 => ?_
                                            have e385 : z384.toInt = y276 := Option.some.inj (hz384.symm.trans h380)
                                            refine bs_lit (k := 1) rfl rfl fun z386 hz386 => ?_
                                            first | (refine bs_add rfl (by omega) (by omega) fun z387 hz387 => ?_) | (refine bs_any rfl fun z387 => ?_)
                                            have rz387 := n_range z387
                                            refine bs_putIv (W := [(11, 4, 4), (999, 0, 0)]) (g := 11) rfl rfl Hhp377 (bs_R.uq Hhp377 (g := 11) rfl) (by decide) rfl rfl rfl rfl (Or.inl rfl) (by omega) (by omega) fun hp388 Hhp388 fhp388 rhp388 ehp388 qhp388 nhp388 => ?_
                                            have Fhp388 := sf_fr_tr Fhp377 (sf_fr_wider (W := [(999, 0, 0), (11, 4, 4), (11, 11, 14), (11, 17, 17)]) rfl fhp388)
                                            have h389 : sf_rd hp388 69 3 = some n0 := (ehp388 _ _ (Or.inr (by omega))).trans h378
                                            have h390 : sf_rd hp388 69 5 = some l0 := (ehp388 _ _ (Or.inr (by omega))).trans h379
                                            have h391 : sf_rd hp388 69 12 = some z22.toInt := (ehp388 _ _ (Or.inr (by omega))).trans h381
                                            have h392 : sf_rd hp388 69 14 = some z365.toInt := (ehp388 _ _ (Or.inr (by omega))).trans h382
                                            have h393 : sf_rd hp388 69 13 = some z376.toInt := (ehp388 _ _ (Or.inr (by omega))).trans rhp377
                                            have h394 : sf_rl hp388 69 17 = some ((w279 <<< (z323.toInt64 &&& 63)) ||| (z324.toInt64)) := (nhp388 _ _).trans h383
                                            refine Ev.step (j := 181) (s' := ([some (.ref 69), some (.int z43), some (.int z251), some (.int k281)], [], (0, 0), hp388)) rfl rfl ?_
                                            have EM : (z387.toInt - q0).toNat = (y276 - q0).toNat + 1 := by omega
                                            have INV : ∃ (v c n : Int) (w : Int64), sf_rd hp388 69 4 = some v ∧ sf_rd hp388 69 13 = some c ∧ sf_rd hp388 69 14 = some n ∧ sf_rl hp388 69 17 = some w ∧ q0 ≤ v ∧ v ≤ 940 ∧ v ≤ n0 ∧ c = v - q0 ∧ tk_e tk_r BB n0.toNat v.toNat = tk_e tk_r BB n0.toNat q0.toNat ∧ (k281.toInt = 1 ↔ allP tk_d BB q0.toNat (v - q0).toNat = true) ∧ (k281.toInt = 1 → c ≤ 3 → n = nb BB q0.toNat (v - q0).toNat) ∧ 0 ≤ n ∧ n ≤ 8214 ∧ (c = 0 → n ≤ 0) ∧ (c = 1 → n ≤ 74) ∧ (c = 2 → n ≤ 814) := ⟨z387.toInt, z376.toInt, z365.toInt, ((w279 <<< (z323.toInt64 &&& 63)) ||| (z324.toInt64)), rhp388, h393, h392, h394, by omega, by omega, by omega, by omega, (by rw [show (z387.toInt).toNat = y276.toNat + 1 by omega, ← tk_go (by omega) (show tk_r (BB y276.toNat) = true by rw [show y276.toNat = q0.toNat + (y276 - q0).toNat by omega]; exact RT)]; exact ky276), (by rw [EM]; exact i290.1), fun e1 e2 => by have AL : allP tk_d BB q0.toNat ((y276 - q0).toNat + 1) = true := i290.1.mp e1; have AK : allP tk_d BB q0.toNat (y276 - q0).toNat = true := (show _ ∧ _ by simpa using (show (allP tk_d BB q0.toNat (y276 - q0).toNat && tk_d (BB (q0.toNat + (y276 - q0).toNat))) = true from AL)).1; rw [EM]; show _ = nb BB q0.toNat (y276 - q0).toNat * 10 + (BB (q0.toNat + (y276 - q0).toNat) - 48); rw [← my276 (sy276.mpr AK) (by omega)]; omega, by omega, by omega, by omega, by omega, by omega⟩
                                            have MS : (940 - (sf_rd hp388 69 4).getD 0).toNat < (940 - (sf_rd hp268 69 4).getD 0).toNat := by
                                              rw [rhp388, hy276]
                                              show (940 - z387.toInt).toNat < (940 - y276).toNat
                                              omega
                                            refine ih270 (k281, hp388, t283) ⟨Hhp388, Fhp388, h389, h390, h391, (by first | omega | assumption), (by exact INV)⟩ ?_
                                            show (940 - (sf_rd hp388 69 4).getD 0).toNat < (940 - (sf_rd hp268 69 4).getD 0).toNat
                                            exact MS
                               refine pk_ev rfl Hhp268 rfl fun z395 pz395 oz395 mz395 => ?_
                               exact by
                                refine (show Ev _ 185 ([some (.ref 69), some (.int z43), some (.int z251), some (.int k267)], [.int z395], (0, 0), hp268) _ from ?_)
                                have bz395 := pkB pz395 hy276 i271 (by omega) (EB _ (fun q => Fhp268.2.2.1 _ (bs_R.uq H (g := 131) (p := 70) rfl).1 _ (by rw [(bs_R.uq H (g := 131) (p := 70) rfl).2]; rfl)))
                                rw [show (y276).toNat = q0.toNat + (y276 - q0).toNat by omega] at bz395
                                refine bs_pure [.int z395] [] rfl rfl rfl rfl px_X11_isSmall fun z396 hz396 => ?_
                                refine (show Ev _ 188 ([some (.ref 69), some (.int z43), some (.int z251), some (.int k267)], [.int z396], (0, 0), hp268) _ from ?_)
                                rcases hz396 with ⟨ez396, tz396⟩ | ⟨ez396, tz396⟩
                                · skip
                                  have nz396 := tk_l_i tz396
                                  refine bs_ifne rfl (fun c397 => ?_) (fun c397 => ?_)
                                  · skip
                                    refine Ev.step (j := 202) (s' := ([some (.ref 69), some (.int z43), some (.int z251), some (.int k267)], [.int k267], (0, 0), hp268)) rfl rfl ?_
                                    refine bs_ifeq rfl (fun c398 => ?_) (fun c398 => ?_)
                                    · skip
                                      have c399 : k267.toInt = 0 := by omega
                                      refine bs_lit (k := 0) rfl rfl fun z400 hz400 => ?_
                                      exact by
                                       refine Ev.step (j := 222) (s' := ([some (.ref 69), some (.int z43), some (.int z251), some (.int z400)], [], (0, 0), hp268)) rfl rfl ?_
                                       exact cut280 z400 hp268 t269 Hhp268 Fhp268 i271 i272 hy276 i273 hy277 (by refine ⟨by omega, ?_⟩; rw [show BB (q0.toNat + (y276 - q0).toNat) = z395.toInt by omega]; exact tk_r_l tz396) (by refine ⟨?_, by omega, by omega⟩; rw [allP_n (P := tk_d) (B := BB) (q := q0.toNat) (m := (y276 - q0).toNat) (by rw [show BB (q0.toNat + (y276 - q0).toNat) = z395.toInt by omega]; exact tk_ld tz396)]; exact ⟨fun e => absurd e (by omega), fun e => absurd e (by decide)⟩) (by first | omega | assumption) hy278
                                    · skip
                                      refine Ev.step (j := 206) (s' := ([some (.ref 69), some (.int z43), some (.int z251), some (.int k267)], [.ref 69], (0, 0), hp268)) rfl rfl ?_
                                      exact by
                                       refine pk_ev rfl Hhp268 rfl fun z401 pz401 oz401 mz401 => ?_
                                       refine (show Ev _ 209 ([some (.ref 69), some (.int z43), some (.int z251), some (.int k267)], [.int z401], (0, 0), hp268) _ from ?_)
                                       have bz401 := pkB pz401 hy276 i271 (by omega) (EB _ (fun q => Fhp268.2.2.1 _ (bs_R.uq H (g := 131) (p := 70) rfl).1 _ (by rw [(bs_R.uq H (g := 131) (p := 70) rfl).2]; rfl)))
                                       rw [show (y276).toNat = q0.toNat + (y276 - q0).toNat by omega] at bz401
                                       refine bs_pure [.int z401] [] rfl rfl rfl rfl px_X11_isSmall fun z402 hz402 => ?_
                                       refine (show Ev _ 212 ([some (.ref 69), some (.int z43), some (.int z251), some (.int k267)], [.int z402], (0, 0), hp268) _ from ?_)
                                       rcases hz402 with ⟨ez402, tz402⟩ | ⟨ez402, tz402⟩
                                       · skip
                                         have nz402 := tk_l_i tz402
                                         refine Ev.step (j := 213) (s' := ([some (.ref 69), some (.int z43), some (.int z251), some (.int k267)], [.int z251, .int z402], (0, 0), hp268)) rfl rfl ?_
                                         refine bs_ne rfl (fun c403 => ?_) (fun c403 => ?_)
                                         · skip
                                           refine bs_lit (k := 0) rfl rfl fun z404 hz404 => ?_
                                           exact by
                                            refine Ev.step (j := 222) (s' := ([some (.ref 69), some (.int z43), some (.int z251), some (.int z404)], [], (0, 0), hp268)) rfl rfl ?_
                                            exact cut280 z404 hp268 t269 Hhp268 Fhp268 i271 i272 hy276 i273 hy277 (by refine ⟨by omega, ?_⟩; rw [show BB (q0.toNat + (y276 - q0).toNat) = z395.toInt by omega]; exact tk_r_l tz396) (by refine ⟨?_, by omega, by omega⟩; rw [allP_n (P := tk_d) (B := BB) (q := q0.toNat) (m := (y276 - q0).toNat) (by rw [show BB (q0.toNat + (y276 - q0).toNat) = z395.toInt by omega]; exact tk_ld tz396)]; exact ⟨fun e => absurd e (by omega), fun e => absurd e (by decide)⟩) (by first | omega | assumption) hy278
                                         · exfalso; omega
                                       · exact absurd tz396 (by rw [show z395.toInt = z401.toInt by omega, tz402]; decide)
                                  · exfalso; omega
                                · skip
                                  refine bs_ifne rfl (fun c405 => ?_) (fun c405 => ?_)
                                  · exfalso; omega
                                  · skip
                                    refine Ev.step (j := 192) (s' := ([some (.ref 69), some (.int z43), some (.int z251), some (.int k267)], [.ref 69], (0, 0), hp268)) rfl rfl ?_
                                    exact by
                                     refine pk_ev rfl Hhp268 rfl fun z406 pz406 oz406 mz406 => ?_
                                     refine (show Ev _ 195 ([some (.ref 69), some (.int z43), some (.int z251), some (.int k267)], [.int z406], (0, 0), hp268) _ from ?_)
                                     have bz406 := pkB pz406 hy276 i271 (by omega) (EB _ (fun q => Fhp268.2.2.1 _ (bs_R.uq H (g := 131) (p := 70) rfl).1 _ (by rw [(bs_R.uq H (g := 131) (p := 70) rfl).2]; rfl)))
                                     rw [show (y276).toNat = q0.toNat + (y276 - q0).toNat by omega] at bz406
                                     refine bs_pure [.int z406] [] rfl rfl rfl rfl px_X11_isDigit fun z407 hz407 => ?_
                                     refine (show Ev _ 198 ([some (.ref 69), some (.int z43), some (.int z251), some (.int k267)], [.int z407], (0, 0), hp268) _ from ?_)
                                     rcases hz407 with ⟨ez407, tz407⟩ | ⟨ez407, tz407⟩
                                     · skip
                                       have nz407 := tk_d_i tz407
                                       refine bs_ifeq rfl (fun c408 => ?_) (fun c408 => ?_)
                                       · exfalso; omega
                                       · skip
                                         refine Ev.step (j := 202) (s' := ([some (.ref 69), some (.int z43), some (.int z251), some (.int k267)], [.int k267], (0, 0), hp268)) rfl rfl ?_
                                         exact by
                                          refine bs_ifeq rfl (fun c409 => ?_) (fun c409 => ?_)
                                          · skip
                                            have c410 : k267.toInt = 0 := by omega
                                            refine bs_lit (k := 0) rfl rfl fun z411 hz411 => ?_
                                            refine Ev.step (j := 222) (s' := ([some (.ref 69), some (.int z43), some (.int z251), some (.int z411)], [], (0, 0), hp268)) rfl rfl ?_
                                            exact cut280 z411 hp268 t269 Hhp268 Fhp268 i271 i272 hy276 i273 hy277 (by refine ⟨by omega, ?_⟩; rw [show BB (q0.toNat + (y276 - q0).toNat) = z406.toInt by omega]; exact tk_r_d tz407) (by refine ⟨?_, by omega, by omega⟩; rw [allP_s (P := tk_d) (B := BB) (q := q0.toNat) (m := (y276 - q0).toNat) (by rw [show BB (q0.toNat + (y276 - q0).toNat) = z406.toInt by omega]; exact tz407)]; exact ⟨fun e => sy276.mp (by omega), fun e => by have := sy276.mpr e; omega⟩) (by first | omega | assumption) hy278
                                          · skip
                                            refine Ev.step (j := 206) (s' := ([some (.ref 69), some (.int z43), some (.int z251), some (.int k267)], [.ref 69], (0, 0), hp268)) rfl rfl ?_
                                            refine pk_ev rfl Hhp268 rfl fun z412 pz412 oz412 mz412 => ?_
                                            refine (show Ev _ 209 ([some (.ref 69), some (.int z43), some (.int z251), some (.int k267)], [.int z412], (0, 0), hp268) _ from ?_)
                                            have bz412 := pkB pz412 hy276 i271 (by omega) (EB _ (fun q => Fhp268.2.2.1 _ (bs_R.uq H (g := 131) (p := 70) rfl).1 _ (by rw [(bs_R.uq H (g := 131) (p := 70) rfl).2]; rfl)))
                                            rw [show (y276).toNat = q0.toNat + (y276 - q0).toNat by omega] at bz412
                                            refine bs_pure [.int z412] [] rfl rfl rfl rfl px_X11_isSmall fun z413 hz413 => ?_
                                            exact by
                                             refine (show Ev _ 212 ([some (.ref 69), some (.int z43), some (.int z251), some (.int k267)], [.int z413], (0, 0), hp268) _ from ?_)
                                             rcases hz413 with ⟨ez413, tz413⟩ | ⟨ez413, tz413⟩
                                             · exact absurd (tk_ld tz413) (by rw [show z412.toInt = z406.toInt by omega, tz407]; decide)
                                             · skip
                                               refine Ev.step (j := 213) (s' := ([some (.ref 69), some (.int z43), some (.int z251), some (.int k267)], [.int z251, .int z413], (0, 0), hp268)) rfl rfl ?_
                                               refine bs_ne rfl (fun c414 => ?_) (fun c414 => ?_)
                                               · exfalso; omega
                                               · skip
                                                 refine bs_lit (k := 1) rfl rfl fun z415 hz415 => ?_
                                                 refine Ev.step (j := 221) (s' := ([some (.ref 69), some (.int z43), some (.int z251), some (.int k267)], [.int z415], (0, 0), hp268)) rfl rfl ?_
                                                 refine Ev.step (j := 222) (s' := ([some (.ref 69), some (.int z43), some (.int z251), some (.int z415)], [], (0, 0), hp268)) rfl rfl ?_
                                                 exact cut280 z415 hp268 t269 Hhp268 Fhp268 i271 i272 hy276 i273 hy277 (by refine ⟨by omega, ?_⟩; rw [show BB (q0.toNat + (y276 - q0).toNat) = z406.toInt by omega]; exact tk_r_d tz407) (by refine ⟨?_, by omega, by omega⟩; rw [allP_s (P := tk_d) (B := BB) (q := q0.toNat) (m := (y276 - q0).toNat) (by rw [show BB (q0.toNat + (y276 - q0).toNat) = z406.toInt by omega]; exact tz407)]; exact ⟨fun e => sy276.mp (by omega), fun e => by have := sy276.mpr e; omega⟩) (by first | omega | assumption) hy278
                                     · skip
                                       refine bs_ifeq rfl (fun c416 => ?_) (fun c416 => ?_)
                                       · skip
                                         have RF : n0 ≤ y276 ∨ tk_r (BB y276.toNat) = false := by
                                           rcases (show n0 ≤ y276 ∨ (BB (q0.toNat + (y276 - q0).toNat) = z395.toInt ∧ z406.toInt = z395.toInt) by omega) with h | h
                                           · exact Or.inl h
                                           · exact Or.inr (by rw [show y276.toNat = q0.toNat + (y276 - q0).toNat by omega, h.1]; exact tk_r_f tz396 (by rw [← h.2]; exact tz407))
                                         have EQ : tk_e tk_r BB n0.toNat q0.toNat = y276.toNat := ky276.symm.trans (tk_stop (RF.imp (fun h => by omega) (fun h => h)))
                                         have G : q0 + 1 ≤ y276 := by
                                           rcases (show y276 = q0 ∨ q0 + 1 ≤ y276 by omega) with h | h
                                           · rcases RF with g | g
                                             · omega
                                             · rw [show y276.toNat = q0.toNat by omega, FR] at g
                                               exact absurd g (by decide)
                                           · exact h
                                         refine Ev.step (j := 299) (s' := ([some (.ref 69), some (.int z43), some (.int z251), some (.int k267)], [.ref 69], (0, 0), hp268)) rfl rfl ?_
                                         exact by
                                          refine Ev.step (j := 300) (s' := ([some (.ref 69), some (.int z43), some (.int z251), some (.int k267)], [.int k267, .ref 69], (0, 0), hp268)) rfl rfl ?_
                                          refine bs_ifeq rfl (fun c417 => ?_) (fun c417 => ?_)
                                          · skip
                                            have c418 : k267.toInt = 0 := by omega
                                            refine bs_lit (k := 4) rfl rfl fun z419 hz419 => ?_
                                            refine Ev.step (j := 333) (s' := ([some (.ref 69), some (.int z43), some (.int z251), some (.int k267)], [.int z419, .ref 69], (0, 0), hp268)) rfl rfl ?_
                                            refine bs_putIv (W := [(11, 11, 11), (999, 0, 0)]) (g := 11) rfl rfl Hhp268 (bs_R.uq Hhp268 (g := 11) rfl) (by decide) rfl rfl rfl rfl (Or.inl rfl) (by omega) (by omega) fun hp420 Hhp420 fhp420 rhp420 ehp420 qhp420 nhp420 => ?_
                                            have Fhp420 := sf_fr_tr Fhp268 (sf_fr_wider (W := [(999, 0, 0), (11, 4, 4), (11, 11, 14), (11, 17, 17)]) rfl fhp420)
                                            have h421 : sf_rd hp420 69 3 = some n0 := (ehp420 _ _ (Or.inr (by omega))).trans i271
                                            have h422 : sf_rd hp420 69 5 = some l0 := (ehp420 _ _ (Or.inr (by omega))).trans i272
                                            have h423 : sf_rd hp420 69 12 = some z22.toInt := (ehp420 _ _ (Or.inr (by omega))).trans i273
                                            have h424 : sf_rd hp420 69 4 = some y276 := (ehp420 _ _ (Or.inr (by omega))).trans hy276
                                            have h425 : sf_rd hp420 69 13 = some y277 := (ehp420 _ _ (Or.inr (by omega))).trans hy277
                                            have h426 : sf_rd hp420 69 14 = some y278 := (ehp420 _ _ (Or.inr (by omega))).trans hy278
                                            have h427 : sf_rl hp420 69 17 = some w279 := (nhp420 _ _).trans wy276
                                            have A1 := psi_ge h424 rhp420
                                            have A2 := psi_ge Q4 Q11
                                            have PS : sf_psi hp420 ≤ sf_psi hp := by omega
                                            exact Ev.ret rfl rfl (by rw [hQ]; exact ⟨t269, Hhp420, (fr_unmark H Fhp420 PS), bs_anU, sf_S_nil, (fun p n l hp_ hn_ hl_ => by
                                                    have eqP : p = P0 := Option.some.inj (hp_.symm.trans Q4); have eqN : n = n0 := Option.some.inj (hn_.symm.trans hn0); have eqL : l = l0 := Option.some.inj (hl_.symm.trans hl0); subst eqP eqN eqL; refine ⟨(show sf_psi hp420 ≤ _ by omega), fun hpn => ?_⟩; rw [← hBB]
                                                    have TK : tkt BB n.toNat l.toNat p.toNat = _ := (congrArg (tkq BB n.toNat l.toNat) (ST.trans (show _ = q0.toNat by omega))).trans (tkq_run (by omega) (by omega) FR)
                                                    rw [TK, show tk_e tk_r BB n.toNat q0.toNat - q0.toNat = (y276 - q0).toNat by omega]
                                                    rw [show trn BB q0.toNat (y276 - q0).toNat = ⟨1, q0.toNat, 0, q0.toNat + (y276 - q0).toNat⟩ from (if_neg fun h => absurd (allP_0 h.1 (by omega)) (by rw [FL]; decide)).trans (if_neg fun h => by have h1 := sy276.mpr h.1; have h2 := h.2; omega)]
                                                    exact ⟨h423.trans (congrArg some (by show _ = ((q0.toNat : Nat) : Int); omega)), h424.trans (congrArg some (by show _ = ((q0.toNat + (y276 - q0).toNat : Nat) : Int); omega)), rhp420.trans (congrArg some (by show _ = (4 : Int); omega)), fun e => absurd e (by show rkk 1 ≠ 2; decide), fun e => absurd e (by show rkk 1 ≠ 3; decide), fun e => absurd e (by show rkk 1 ≠ 1; decide)⟩)⟩)
                                          · skip
                                            refine Ev.step (j := 304) (s' := ([some (.ref 69), some (.int z43), some (.int z251), some (.int k267)], [.ref 69, .ref 69], (0, 0), hp268)) rfl rfl ?_
                                            exact by
                                             refine bs_getI 11 rfl rfl rfl Hhp268 (bs_R.uq Hhp268 (g := 11) rfl) (by decide) rfl fun z428 hz428 lz428 gz428 => ?_
                                             have e429 : z428.toInt = y277 := Option.some.inj (hz428.symm.trans hy277)
                                             refine Ev.step (j := 308) (s' := ([some (.ref 69), some (.int z43), some (.int z251), some (.int k267)], [.int z251, .int z428, .ref 69], (0, 0), hp268)) rfl rfl ?_
                                             refine bs_ifeq rfl (fun c430 => ?_) (fun c430 => ?_)
                                             · skip
                                               refine bs_lit (k := 3) rfl rfl fun z431 hz431 => ?_
                                               refine bs_le rfl (fun c432 => ?_) (fun c432 => ?_)
                                               · skip
                                                 refine Ev.step (j := 325) (s' := ([some (.ref 69), some (.int z43), some (.int z251), some (.int k267)], [.int z251, .ref 69], (0, 0), hp268)) rfl rfl ?_
                                                 refine bs_ifeq rfl (fun c433 => ?_) (fun c433 => ?_)
                                                 · skip
                                                   refine bs_lit (k := 2) rfl rfl fun z434 hz434 => ?_
                                                   exact by
                                                    refine bs_putIv (W := [(11, 11, 11), (999, 0, 0)]) (g := 11) rfl rfl Hhp268 (bs_R.uq Hhp268 (g := 11) rfl) (by decide) rfl rfl rfl rfl (Or.inl rfl) (by omega) (by omega) fun hp435 Hhp435 fhp435 rhp435 ehp435 qhp435 nhp435 => ?_
                                                    have Fhp435 := sf_fr_tr Fhp268 (sf_fr_wider (W := [(999, 0, 0), (11, 4, 4), (11, 11, 14), (11, 17, 17)]) rfl fhp435)
                                                    have h436 : sf_rd hp435 69 3 = some n0 := (ehp435 _ _ (Or.inr (by omega))).trans i271
                                                    have h437 : sf_rd hp435 69 5 = some l0 := (ehp435 _ _ (Or.inr (by omega))).trans i272
                                                    have h438 : sf_rd hp435 69 12 = some z22.toInt := (ehp435 _ _ (Or.inr (by omega))).trans i273
                                                    have h439 : sf_rd hp435 69 4 = some y276 := (ehp435 _ _ (Or.inr (by omega))).trans hy276
                                                    have h440 : sf_rd hp435 69 13 = some y277 := (ehp435 _ _ (Or.inr (by omega))).trans hy277
                                                    have h441 : sf_rd hp435 69 14 = some y278 := (ehp435 _ _ (Or.inr (by omega))).trans hy278
                                                    have h442 : sf_rl hp435 69 17 = some w279 := (nhp435 _ _).trans wy276
                                                    have A1 := psi_ge h439 rhp435
                                                    have A2 := psi_ge Q4 Q11
                                                    have PS : sf_psi hp435 ≤ sf_psi hp := by omega
                                                    exact Ev.ret rfl rfl (by rw [hQ]; exact ⟨t269, Hhp435, (fr_unmark H Fhp435 PS), bs_anU, sf_S_nil, (fun p n l hp_ hn_ hl_ => by
                                                            have eqP : p = P0 := Option.some.inj (hp_.symm.trans Q4); have eqN : n = n0 := Option.some.inj (hn_.symm.trans hn0); have eqL : l = l0 := Option.some.inj (hl_.symm.trans hl0); subst eqP eqN eqL; refine ⟨(show sf_psi hp435 ≤ _ by omega), fun hpn => ?_⟩; rw [← hBB]
                                                            have TK : tkt BB n.toNat l.toNat p.toNat = _ := (congrArg (tkq BB n.toNat l.toNat) (ST.trans (show _ = q0.toNat by omega))).trans (tkq_run (by omega) (by omega) FR)
                                                            rw [TK, show tk_e tk_r BB n.toNat q0.toNat - q0.toNat = (y276 - q0).toNat by omega]
                                                            rw [show trn BB q0.toNat (y276 - q0).toNat = ⟨3, q0.toNat, nb BB q0.toNat (y276 - q0).toNat, q0.toNat + (y276 - q0).toNat⟩ from (if_neg fun h => absurd (allP_0 h.1 (by omega)) (by rw [FL]; decide)).trans (if_pos ⟨sy276.mp (by omega), by omega⟩)]
                                                            exact ⟨h438.trans (congrArg some (by show _ = ((q0.toNat : Nat) : Int); omega)), h439.trans (congrArg some (by show _ = ((q0.toNat + (y276 - q0).toNat : Nat) : Int); omega)), rhp435.trans (congrArg some (by show _ = (2 : Int); omega)), fun _ => h441.trans (congrArg some (my276 (by omega) (by omega))), fun e => absurd e (by show rkk 3 ≠ 3; decide), fun e => absurd e (by show rkk 3 ≠ 1; decide)⟩)⟩)
                                                 · exfalso; omega
                                               · skip
                                                 refine bs_lit (k := 4) rfl rfl fun z443 hz443 => ?_
                                                 exact by
                                                  refine Ev.step (j := 333) (s' := ([some (.ref 69), some (.int z43), some (.int z251), some (.int k267)], [.int z443, .ref 69], (0, 0), hp268)) rfl rfl ?_
                                                  refine bs_putIv (W := [(11, 11, 11), (999, 0, 0)]) (g := 11) rfl rfl Hhp268 (bs_R.uq Hhp268 (g := 11) rfl) (by decide) rfl rfl rfl rfl (Or.inl rfl) (by omega) (by omega) fun hp444 Hhp444 fhp444 rhp444 ehp444 qhp444 nhp444 => ?_
                                                  have Fhp444 := sf_fr_tr Fhp268 (sf_fr_wider (W := [(999, 0, 0), (11, 4, 4), (11, 11, 14), (11, 17, 17)]) rfl fhp444)
                                                  have h445 : sf_rd hp444 69 3 = some n0 := (ehp444 _ _ (Or.inr (by omega))).trans i271
                                                  have h446 : sf_rd hp444 69 5 = some l0 := (ehp444 _ _ (Or.inr (by omega))).trans i272
                                                  have h447 : sf_rd hp444 69 12 = some z22.toInt := (ehp444 _ _ (Or.inr (by omega))).trans i273
                                                  have h448 : sf_rd hp444 69 4 = some y276 := (ehp444 _ _ (Or.inr (by omega))).trans hy276
                                                  have h449 : sf_rd hp444 69 13 = some y277 := (ehp444 _ _ (Or.inr (by omega))).trans hy277
                                                  have h450 : sf_rd hp444 69 14 = some y278 := (ehp444 _ _ (Or.inr (by omega))).trans hy278
                                                  have h451 : sf_rl hp444 69 17 = some w279 := (nhp444 _ _).trans wy276
                                                  have A1 := psi_ge h448 rhp444
                                                  have A2 := psi_ge Q4 Q11
                                                  have PS : sf_psi hp444 ≤ sf_psi hp := by omega
                                                  exact Ev.ret rfl rfl (by rw [hQ]; exact ⟨t269, Hhp444, (fr_unmark H Fhp444 PS), bs_anU, sf_S_nil, (fun p n l hp_ hn_ hl_ => by
                                                          have eqP : p = P0 := Option.some.inj (hp_.symm.trans Q4); have eqN : n = n0 := Option.some.inj (hn_.symm.trans hn0); have eqL : l = l0 := Option.some.inj (hl_.symm.trans hl0); subst eqP eqN eqL; refine ⟨(show sf_psi hp444 ≤ _ by omega), fun hpn => ?_⟩; rw [← hBB]
                                                          have TK : tkt BB n.toNat l.toNat p.toNat = _ := (congrArg (tkq BB n.toNat l.toNat) (ST.trans (show _ = q0.toNat by omega))).trans (tkq_run (by omega) (by omega) FR)
                                                          rw [TK, show tk_e tk_r BB n.toNat q0.toNat - q0.toNat = (y276 - q0).toNat by omega]
                                                          rw [show trn BB q0.toNat (y276 - q0).toNat = ⟨1, q0.toNat, 0, q0.toNat + (y276 - q0).toNat⟩ from (if_neg fun h => absurd (allP_0 h.1 (by omega)) (by rw [FL]; decide)).trans (if_neg fun h => by have h1 := sy276.mpr h.1; have h2 := h.2; omega)]
                                                          exact ⟨h447.trans (congrArg some (by show _ = ((q0.toNat : Nat) : Int); omega)), h448.trans (congrArg some (by show _ = ((q0.toNat + (y276 - q0).toNat : Nat) : Int); omega)), rhp444.trans (congrArg some (by show _ = (4 : Int); omega)), fun e => absurd e (by show rkk 1 ≠ 2; decide), fun e => absurd e (by show rkk 1 ≠ 3; decide), fun e => absurd e (by show rkk 1 ≠ 1; decide)⟩)⟩)
                                             · exfalso; omega
                                       · exfalso; omega
                         · exfalso; omega
                       · skip
                         refine bs_ifne rfl (fun c452 => ?_) (fun c452 => ?_)
                         · exfalso; omega
                         · skip
                           refine Ev.step (j := 110) (s' := ([some (.ref 69), some (.int z43), none, none], [.ref 69], (0, 0), hp35)) rfl rfl ?_
                           exact by
                            refine Ev.step (j := 111) (s' := ([some (.ref 69), some (.int z43), none, none], [.int z43, .ref 69], (0, 0), hp35)) rfl rfl ?_
                            refine bs_lit (k := 59) rfl rfl fun z453 hz453 => ?_
                            refine bs_eq rfl (fun c454 => ?_) (fun c454 => ?_)
                            · skip
                              have c455 : z43.toInt = 59 := by omega
                              refine bs_lit (k := 3) rfl rfl fun z456 hz456 => ?_
                              refine Ev.step (j := 145) (s' := ([some (.ref 69), some (.int z43), none, none], [.int z456, .ref 69], (0, 0), hp35)) rfl rfl ?_
                              refine bs_putIv (W := [(11, 11, 11), (999, 0, 0)]) (g := 11) rfl rfl Hhp35 (bs_R.uq Hhp35 (g := 11) rfl) (by decide) rfl rfl rfl rfl (Or.inl rfl) (by omega) (by omega) fun hp457 Hhp457 fhp457 rhp457 ehp457 qhp457 nhp457 => ?_
                              have Fhp457 := sf_fr_tr Fhp35 (sf_fr_wider (W := [(999, 0, 0), (11, 4, 4), (11, 11, 14), (11, 17, 17)]) rfl fhp457)
                              have h458 : sf_rd hp457 69 3 = some n0 := (ehp457 _ _ (Or.inr (by omega))).trans i37
                              have h459 : sf_rd hp457 69 5 = some l0 := (ehp457 _ _ (Or.inr (by omega))).trans i38
                              have h460 : sf_rd hp457 69 4 = some y7 := (ehp457 _ _ (Or.inr (by omega))).trans i39
                              have h461 : sf_rd hp457 69 12 = some z22.toInt := (ehp457 _ _ (Or.inr (by omega))).trans i40
                              have h462 : sf_rd hp457 69 13 = some z28.toInt := (ehp457 _ _ (Or.inr (by omega))).trans i41
                              refine Ev.step (j := 149) (s' := ([some (.ref 69), some (.int z43), none, none], [.ref 69], (0, 0), hp457)) rfl rfl ?_
                              exact by
                               refine Ev.step (j := 150) (s' := ([some (.ref 69), some (.int z43), none, none], [.int z43, .ref 69], (0, 0), hp457)) rfl rfl ?_
                               refine bs_putIv (W := [(11, 14, 14)]) (g := 11) rfl rfl Hhp457 (bs_R.uq Hhp457 (g := 11) rfl) (by decide) rfl rfl rfl rfl (Or.inl rfl) (by omega) (by omega) fun hp463 Hhp463 fhp463 rhp463 ehp463 qhp463 nhp463 => ?_
                               have Fhp463 := sf_fr_tr Fhp457 (sf_fr_wider (W := [(999, 0, 0), (11, 4, 4), (11, 11, 14), (11, 17, 17)]) rfl fhp463)
                               have h464 : sf_rd hp463 69 3 = some n0 := (ehp463 _ _ (Or.inr (by omega))).trans h458
                               have h465 : sf_rd hp463 69 5 = some l0 := (ehp463 _ _ (Or.inr (by omega))).trans h459
                               have h466 : sf_rd hp463 69 4 = some y7 := (ehp463 _ _ (Or.inr (by omega))).trans h460
                               have h467 : sf_rd hp463 69 12 = some z22.toInt := (ehp463 _ _ (Or.inr (by omega))).trans h461
                               have h468 : sf_rd hp463 69 13 = some z28.toInt := (ehp463 _ _ (Or.inr (by omega))).trans h462
                               have h469 : sf_rd hp463 69 11 = some z456.toInt := (ehp463 _ _ (Or.inr (by omega))).trans rhp457
                               refine Ev.step (j := 154) (s' := ([some (.ref 69), some (.int z43), none, none], [.ref 69], (0, 0), hp463)) rfl rfl ?_
                               exact by
                                refine Ev.step (j := 155) (s' := ([some (.ref 69), some (.int z43), none, none], [.ref 69, .ref 69], (0, 0), hp463)) rfl rfl ?_
                                refine bs_getI 11 rfl rfl rfl Hhp463 (bs_R.uq Hhp463 (g := 11) rfl) (by decide) rfl fun z470 hz470 lz470 gz470 => ?_
                                have e471 : z470.toInt = y7 := Option.some.inj (hz470.symm.trans h466)
                                refine bs_lit (k := 1) rfl rfl fun z472 hz472 => ?_
                                first | (refine bs_add rfl (by omega) (by omega) fun z473 hz473 => ?_) | (refine bs_any rfl fun z473 => ?_)
                                have rz473 := n_range z473
                                refine bs_putIv (W := [(11, 4, 4), (999, 0, 0)]) (g := 11) rfl rfl Hhp463 (bs_R.uq Hhp463 (g := 11) rfl) (by decide) rfl rfl rfl rfl (Or.inl rfl) (by omega) (by omega) fun hp474 Hhp474 fhp474 rhp474 ehp474 qhp474 nhp474 => ?_
                                have Fhp474 := sf_fr_tr Fhp463 (sf_fr_wider (W := [(999, 0, 0), (11, 4, 4), (11, 11, 14), (11, 17, 17)]) rfl fhp474)
                                have h475 : sf_rd hp474 69 3 = some n0 := (ehp474 _ _ (Or.inr (by omega))).trans h464
                                have h476 : sf_rd hp474 69 5 = some l0 := (ehp474 _ _ (Or.inr (by omega))).trans h465
                                have h477 : sf_rd hp474 69 12 = some z22.toInt := (ehp474 _ _ (Or.inr (by omega))).trans h467
                                have h478 : sf_rd hp474 69 13 = some z28.toInt := (ehp474 _ _ (Or.inr (by omega))).trans h468
                                have h479 : sf_rd hp474 69 11 = some z456.toInt := (ehp474 _ _ (Or.inr (by omega))).trans h469
                                have h480 : sf_rd hp474 69 14 = some z43.toInt := (ehp474 _ _ (Or.inr (by omega))).trans rhp463
                                have A1 := psi_ge rhp474 h479
                                have A2 := psi_ge Q4 Q11
                                have PS : sf_psi hp474 ≤ sf_psi hp := by omega
                                exact Ev.ret rfl rfl (by rw [hQ]; exact ⟨t36, Hhp474, (fr_unmark H Fhp474 PS), bs_anU, sf_S_nil, (fun p n l hp_ hn_ hl_ => by
                                        have eqP : p = P0 := Option.some.inj (hp_.symm.trans Q4); have eqN : n = n0 := Option.some.inj (hn_.symm.trans hn0); have eqL : l = l0 := Option.some.inj (hl_.symm.trans hl0); subst eqP eqN eqL; refine ⟨(show sf_psi hp474 ≤ _ by omega), fun hpn => ?_⟩; rw [← hBB]
                                        have VB : BB y7.toNat = z43.toInt := by omega
                                        have QL := tk_e_le (P := tk_b) (B := BB) (n := n.toNat) (p := p.toNat) (by omega)
                                        have TK : tkt BB n.toNat l.toNat p.toNat = _ := (congrArg (tkq BB n.toNat l.toNat) ST).trans (tkq_sig (by omega) (by omega) (by rw [VB]; exact tk_r_f tz45 tz249))
                                        rw [TK]
                                        have RK := rkk_yes (show z43.toInt = 59 ∨ z43.toInt = 40 ∨ z43.toInt = 41 ∨ (60 ≤ z43.toInt ∧ z43.toInt ≤ 62) by omega)
                                        rw [VB, RK.1]
                                        exact ⟨h477.trans (congrArg some (by show _ = ((y7.toNat : Nat) : Int); omega)), rhp474.trans (congrArg some (by show _ = ((y7.toNat + 1 : Nat) : Int); omega)), h479.trans (congrArg some (by show _ = rkk z43.toInt; rw [RK.2]; omega)), fun e => absurd e (by show rkk z43.toInt ≠ 2; rw [RK.2]; decide), fun _ => h480, fun e => absurd e (by show rkk z43.toInt ≠ 1; rw [RK.2]; decide)⟩)⟩)
                            · skip
                              refine Ev.step (j := 117) (s' := ([some (.ref 69), some (.int z43), none, none], [.int z43, .ref 69], (0, 0), hp35)) rfl rfl ?_
                              exact by
                               refine bs_lit (k := 40) rfl rfl fun z481 hz481 => ?_
                               refine bs_eq rfl (fun c482 => ?_) (fun c482 => ?_)
                               · skip
                                 have c483 : z43.toInt = 40 := by omega
                                 refine bs_lit (k := 3) rfl rfl fun z484 hz484 => ?_
                                 refine Ev.step (j := 145) (s' := ([some (.ref 69), some (.int z43), none, none], [.int z484, .ref 69], (0, 0), hp35)) rfl rfl ?_
                                 refine bs_putIv (W := [(11, 11, 11), (999, 0, 0)]) (g := 11) rfl rfl Hhp35 (bs_R.uq Hhp35 (g := 11) rfl) (by decide) rfl rfl rfl rfl (Or.inl rfl) (by omega) (by omega) fun hp485 Hhp485 fhp485 rhp485 ehp485 qhp485 nhp485 => ?_
                                 have Fhp485 := sf_fr_tr Fhp35 (sf_fr_wider (W := [(999, 0, 0), (11, 4, 4), (11, 11, 14), (11, 17, 17)]) rfl fhp485)
                                 have h486 : sf_rd hp485 69 3 = some n0 := (ehp485 _ _ (Or.inr (by omega))).trans i37
                                 have h487 : sf_rd hp485 69 5 = some l0 := (ehp485 _ _ (Or.inr (by omega))).trans i38
                                 have h488 : sf_rd hp485 69 4 = some y7 := (ehp485 _ _ (Or.inr (by omega))).trans i39
                                 have h489 : sf_rd hp485 69 12 = some z22.toInt := (ehp485 _ _ (Or.inr (by omega))).trans i40
                                 have h490 : sf_rd hp485 69 13 = some z28.toInt := (ehp485 _ _ (Or.inr (by omega))).trans i41
                                 refine Ev.step (j := 149) (s' := ([some (.ref 69), some (.int z43), none, none], [.ref 69], (0, 0), hp485)) rfl rfl ?_
                                 exact by
                                  refine Ev.step (j := 150) (s' := ([some (.ref 69), some (.int z43), none, none], [.int z43, .ref 69], (0, 0), hp485)) rfl rfl ?_
                                  refine bs_putIv (W := [(11, 14, 14)]) (g := 11) rfl rfl Hhp485 (bs_R.uq Hhp485 (g := 11) rfl) (by decide) rfl rfl rfl rfl (Or.inl rfl) (by omega) (by omega) fun hp491 Hhp491 fhp491 rhp491 ehp491 qhp491 nhp491 => ?_
                                  have Fhp491 := sf_fr_tr Fhp485 (sf_fr_wider (W := [(999, 0, 0), (11, 4, 4), (11, 11, 14), (11, 17, 17)]) rfl fhp491)
                                  have h492 : sf_rd hp491 69 3 = some n0 := (ehp491 _ _ (Or.inr (by omega))).trans h486
                                  have h493 : sf_rd hp491 69 5 = some l0 := (ehp491 _ _ (Or.inr (by omega))).trans h487
                                  have h494 : sf_rd hp491 69 4 = some y7 := (ehp491 _ _ (Or.inr (by omega))).trans h488
                                  have h495 : sf_rd hp491 69 12 = some z22.toInt := (ehp491 _ _ (Or.inr (by omega))).trans h489
                                  have h496 : sf_rd hp491 69 13 = some z28.toInt := (ehp491 _ _ (Or.inr (by omega))).trans h490
                                  have h497 : sf_rd hp491 69 11 = some z484.toInt := (ehp491 _ _ (Or.inr (by omega))).trans rhp485
                                  refine Ev.step (j := 154) (s' := ([some (.ref 69), some (.int z43), none, none], [.ref 69], (0, 0), hp491)) rfl rfl ?_
                                  exact by
                                   refine Ev.step (j := 155) (s' := ([some (.ref 69), some (.int z43), none, none], [.ref 69, .ref 69], (0, 0), hp491)) rfl rfl ?_
                                   refine bs_getI 11 rfl rfl rfl Hhp491 (bs_R.uq Hhp491 (g := 11) rfl) (by decide) rfl fun z498 hz498 lz498 gz498 => ?_
                                   have e499 : z498.toInt = y7 := Option.some.inj (hz498.symm.trans h494)
                                   refine bs_lit (k := 1) rfl rfl fun z500 hz500 => ?_
                                   first | (refine bs_add rfl (by omega) (by omega) fun z501 hz501 => ?_) | (refine bs_any rfl fun z501 => ?_)
                                   have rz501 := n_range z501
                                   refine bs_putIv (W := [(11, 4, 4), (999, 0, 0)]) (g := 11) rfl rfl Hhp491 (bs_R.uq Hhp491 (g := 11) rfl) (by decide) rfl rfl rfl rfl (Or.inl rfl) (by omega) (by omega) fun hp502 Hhp502 fhp502 rhp502 ehp502 qhp502 nhp502 => ?_
                                   have Fhp502 := sf_fr_tr Fhp491 (sf_fr_wider (W := [(999, 0, 0), (11, 4, 4), (11, 11, 14), (11, 17, 17)]) rfl fhp502)
                                   have h503 : sf_rd hp502 69 3 = some n0 := (ehp502 _ _ (Or.inr (by omega))).trans h492
                                   have h504 : sf_rd hp502 69 5 = some l0 := (ehp502 _ _ (Or.inr (by omega))).trans h493
                                   have h505 : sf_rd hp502 69 12 = some z22.toInt := (ehp502 _ _ (Or.inr (by omega))).trans h495
                                   have h506 : sf_rd hp502 69 13 = some z28.toInt := (ehp502 _ _ (Or.inr (by omega))).trans h496
                                   have h507 : sf_rd hp502 69 11 = some z484.toInt := (ehp502 _ _ (Or.inr (by omega))).trans h497
                                   have h508 : sf_rd hp502 69 14 = some z43.toInt := (ehp502 _ _ (Or.inr (by omega))).trans rhp491
                                   have A1 := psi_ge rhp502 h507
                                   have A2 := psi_ge Q4 Q11
                                   have PS : sf_psi hp502 ≤ sf_psi hp := by omega
                                   exact Ev.ret rfl rfl (by rw [hQ]; exact ⟨t36, Hhp502, (fr_unmark H Fhp502 PS), bs_anU, sf_S_nil, (fun p n l hp_ hn_ hl_ => by
                                           have eqP : p = P0 := Option.some.inj (hp_.symm.trans Q4); have eqN : n = n0 := Option.some.inj (hn_.symm.trans hn0); have eqL : l = l0 := Option.some.inj (hl_.symm.trans hl0); subst eqP eqN eqL; refine ⟨(show sf_psi hp502 ≤ _ by omega), fun hpn => ?_⟩; rw [← hBB]
                                           have VB : BB y7.toNat = z43.toInt := by omega
                                           have QL := tk_e_le (P := tk_b) (B := BB) (n := n.toNat) (p := p.toNat) (by omega)
                                           have TK : tkt BB n.toNat l.toNat p.toNat = _ := (congrArg (tkq BB n.toNat l.toNat) ST).trans (tkq_sig (by omega) (by omega) (by rw [VB]; exact tk_r_f tz45 tz249))
                                           rw [TK]
                                           have RK := rkk_yes (show z43.toInt = 59 ∨ z43.toInt = 40 ∨ z43.toInt = 41 ∨ (60 ≤ z43.toInt ∧ z43.toInt ≤ 62) by omega)
                                           rw [VB, RK.1]
                                           exact ⟨h505.trans (congrArg some (by show _ = ((y7.toNat : Nat) : Int); omega)), rhp502.trans (congrArg some (by show _ = ((y7.toNat + 1 : Nat) : Int); omega)), h507.trans (congrArg some (by show _ = rkk z43.toInt; rw [RK.2]; omega)), fun e => absurd e (by show rkk z43.toInt ≠ 2; rw [RK.2]; decide), fun _ => h508, fun e => absurd e (by show rkk z43.toInt ≠ 1; rw [RK.2]; decide)⟩)⟩)
                               · skip
                                 refine Ev.step (j := 123) (s' := ([some (.ref 69), some (.int z43), none, none], [.int z43, .ref 69], (0, 0), hp35)) rfl rfl ?_
                                 exact by
                                  refine bs_lit (k := 41) rfl rfl fun z509 hz509 => ?_
                                  refine bs_eq rfl (fun c510 => ?_) (fun c510 => ?_)
                                  · skip
                                    have c511 : z43.toInt = 41 := by omega
                                    refine bs_lit (k := 3) rfl rfl fun z512 hz512 => ?_
                                    refine Ev.step (j := 145) (s' := ([some (.ref 69), some (.int z43), none, none], [.int z512, .ref 69], (0, 0), hp35)) rfl rfl ?_
                                    refine bs_putIv (W := [(11, 11, 11), (999, 0, 0)]) (g := 11) rfl rfl Hhp35 (bs_R.uq Hhp35 (g := 11) rfl) (by decide) rfl rfl rfl rfl (Or.inl rfl) (by omega) (by omega) fun hp513 Hhp513 fhp513 rhp513 ehp513 qhp513 nhp513 => ?_
                                    have Fhp513 := sf_fr_tr Fhp35 (sf_fr_wider (W := [(999, 0, 0), (11, 4, 4), (11, 11, 14), (11, 17, 17)]) rfl fhp513)
                                    have h514 : sf_rd hp513 69 3 = some n0 := (ehp513 _ _ (Or.inr (by omega))).trans i37
                                    have h515 : sf_rd hp513 69 5 = some l0 := (ehp513 _ _ (Or.inr (by omega))).trans i38
                                    have h516 : sf_rd hp513 69 4 = some y7 := (ehp513 _ _ (Or.inr (by omega))).trans i39
                                    have h517 : sf_rd hp513 69 12 = some z22.toInt := (ehp513 _ _ (Or.inr (by omega))).trans i40
                                    have h518 : sf_rd hp513 69 13 = some z28.toInt := (ehp513 _ _ (Or.inr (by omega))).trans i41
                                    refine Ev.step (j := 149) (s' := ([some (.ref 69), some (.int z43), none, none], [.ref 69], (0, 0), hp513)) rfl rfl ?_
                                    exact by
                                     refine Ev.step (j := 150) (s' := ([some (.ref 69), some (.int z43), none, none], [.int z43, .ref 69], (0, 0), hp513)) rfl rfl ?_
                                     refine bs_putIv (W := [(11, 14, 14)]) (g := 11) rfl rfl Hhp513 (bs_R.uq Hhp513 (g := 11) rfl) (by decide) rfl rfl rfl rfl (Or.inl rfl) (by omega) (by omega) fun hp519 Hhp519 fhp519 rhp519 ehp519 qhp519 nhp519 => ?_
                                     have Fhp519 := sf_fr_tr Fhp513 (sf_fr_wider (W := [(999, 0, 0), (11, 4, 4), (11, 11, 14), (11, 17, 17)]) rfl fhp519)
                                     have h520 : sf_rd hp519 69 3 = some n0 := (ehp519 _ _ (Or.inr (by omega))).trans h514
                                     have h521 : sf_rd hp519 69 5 = some l0 := (ehp519 _ _ (Or.inr (by omega))).trans h515
                                     have h522 : sf_rd hp519 69 4 = some y7 := (ehp519 _ _ (Or.inr (by omega))).trans h516
                                     have h523 : sf_rd hp519 69 12 = some z22.toInt := (ehp519 _ _ (Or.inr (by omega))).trans h517
                                     have h524 : sf_rd hp519 69 13 = some z28.toInt := (ehp519 _ _ (Or.inr (by omega))).trans h518
                                     have h525 : sf_rd hp519 69 11 = some z512.toInt := (ehp519 _ _ (Or.inr (by omega))).trans rhp513
                                     refine Ev.step (j := 154) (s' := ([some (.ref 69), some (.int z43), none, none], [.ref 69], (0, 0), hp519)) rfl rfl ?_
                                     exact by
                                      refine Ev.step (j := 155) (s' := ([some (.ref 69), some (.int z43), none, none], [.ref 69, .ref 69], (0, 0), hp519)) rfl rfl ?_
                                      refine bs_getI 11 rfl rfl rfl Hhp519 (bs_R.uq Hhp519 (g := 11) rfl) (by decide) rfl fun z526 hz526 lz526 gz526 => ?_
                                      have e527 : z526.toInt = y7 := Option.some.inj (hz526.symm.trans h522)
                                      refine bs_lit (k := 1) rfl rfl fun z528 hz528 => ?_
                                      first | (refine bs_add rfl (by omega) (by omega) fun z529 hz529 => ?_) | (refine bs_any rfl fun z529 => ?_)
                                      have rz529 := n_range z529
                                      refine bs_putIv (W := [(11, 4, 4), (999, 0, 0)]) (g := 11) rfl rfl Hhp519 (bs_R.uq Hhp519 (g := 11) rfl) (by decide) rfl rfl rfl rfl (Or.inl rfl) (by omega) (by omega) fun hp530 Hhp530 fhp530 rhp530 ehp530 qhp530 nhp530 => ?_
                                      have Fhp530 := sf_fr_tr Fhp519 (sf_fr_wider (W := [(999, 0, 0), (11, 4, 4), (11, 11, 14), (11, 17, 17)]) rfl fhp530)
                                      have h531 : sf_rd hp530 69 3 = some n0 := (ehp530 _ _ (Or.inr (by omega))).trans h520
                                      have h532 : sf_rd hp530 69 5 = some l0 := (ehp530 _ _ (Or.inr (by omega))).trans h521
                                      have h533 : sf_rd hp530 69 12 = some z22.toInt := (ehp530 _ _ (Or.inr (by omega))).trans h523
                                      have h534 : sf_rd hp530 69 13 = some z28.toInt := (ehp530 _ _ (Or.inr (by omega))).trans h524
                                      have h535 : sf_rd hp530 69 11 = some z512.toInt := (ehp530 _ _ (Or.inr (by omega))).trans h525
                                      have h536 : sf_rd hp530 69 14 = some z43.toInt := (ehp530 _ _ (Or.inr (by omega))).trans rhp519
                                      have A1 := psi_ge rhp530 h535
                                      have A2 := psi_ge Q4 Q11
                                      have PS : sf_psi hp530 ≤ sf_psi hp := by omega
                                      exact Ev.ret rfl rfl (by rw [hQ]; exact ⟨t36, Hhp530, (fr_unmark H Fhp530 PS), bs_anU, sf_S_nil, (fun p n l hp_ hn_ hl_ => by
                                              have eqP : p = P0 := Option.some.inj (hp_.symm.trans Q4); have eqN : n = n0 := Option.some.inj (hn_.symm.trans hn0); have eqL : l = l0 := Option.some.inj (hl_.symm.trans hl0); subst eqP eqN eqL; refine ⟨(show sf_psi hp530 ≤ _ by omega), fun hpn => ?_⟩; rw [← hBB]
                                              have VB : BB y7.toNat = z43.toInt := by omega
                                              have QL := tk_e_le (P := tk_b) (B := BB) (n := n.toNat) (p := p.toNat) (by omega)
                                              have TK : tkt BB n.toNat l.toNat p.toNat = _ := (congrArg (tkq BB n.toNat l.toNat) ST).trans (tkq_sig (by omega) (by omega) (by rw [VB]; exact tk_r_f tz45 tz249))
                                              rw [TK]
                                              have RK := rkk_yes (show z43.toInt = 59 ∨ z43.toInt = 40 ∨ z43.toInt = 41 ∨ (60 ≤ z43.toInt ∧ z43.toInt ≤ 62) by omega)
                                              rw [VB, RK.1]
                                              exact ⟨h533.trans (congrArg some (by show _ = ((y7.toNat : Nat) : Int); omega)), rhp530.trans (congrArg some (by show _ = ((y7.toNat + 1 : Nat) : Int); omega)), h535.trans (congrArg some (by show _ = rkk z43.toInt; rw [RK.2]; omega)), fun e => absurd e (by show rkk z43.toInt ≠ 2; rw [RK.2]; decide), fun _ => h536, fun e => absurd e (by show rkk z43.toInt ≠ 1; rw [RK.2]; decide)⟩)⟩)
                                  · skip
                                    refine Ev.step (j := 129) (s' := ([some (.ref 69), some (.int z43), none, none], [.int z43, .ref 69], (0, 0), hp35)) rfl rfl ?_
                                    exact by
                                     refine bs_lit (k := 60) rfl rfl fun z537 hz537 => ?_
                                     refine bs_lt rfl (fun c538 => ?_) (fun c538 => ?_)
                                     · skip
                                       refine bs_lit (k := 4) rfl rfl fun z539 hz539 => ?_
                                       refine bs_putIv (W := [(11, 11, 11), (999, 0, 0)]) (g := 11) rfl rfl Hhp35 (bs_R.uq Hhp35 (g := 11) rfl) (by decide) rfl rfl rfl rfl (Or.inl rfl) (by omega) (by omega) fun hp540 Hhp540 fhp540 rhp540 ehp540 qhp540 nhp540 => ?_
                                       have Fhp540 := sf_fr_tr Fhp35 (sf_fr_wider (W := [(999, 0, 0), (11, 4, 4), (11, 11, 14), (11, 17, 17)]) rfl fhp540)
                                       have h541 : sf_rd hp540 69 3 = some n0 := (ehp540 _ _ (Or.inr (by omega))).trans i37
                                       have h542 : sf_rd hp540 69 5 = some l0 := (ehp540 _ _ (Or.inr (by omega))).trans i38
                                       have h543 : sf_rd hp540 69 4 = some y7 := (ehp540 _ _ (Or.inr (by omega))).trans i39
                                       have h544 : sf_rd hp540 69 12 = some z22.toInt := (ehp540 _ _ (Or.inr (by omega))).trans i40
                                       have h545 : sf_rd hp540 69 13 = some z28.toInt := (ehp540 _ _ (Or.inr (by omega))).trans i41
                                       refine Ev.step (j := 149) (s' := ([some (.ref 69), some (.int z43), none, none], [.ref 69], (0, 0), hp540)) rfl rfl ?_
                                       exact by
                                        refine Ev.step (j := 150) (s' := ([some (.ref 69), some (.int z43), none, none], [.int z43, .ref 69], (0, 0), hp540)) rfl rfl ?_
                                        refine bs_putIv (W := [(11, 14, 14)]) (g := 11) rfl rfl Hhp540 (bs_R.uq Hhp540 (g := 11) rfl) (by decide) rfl rfl rfl rfl (Or.inl rfl) (by omega) (by omega) fun hp546 Hhp546 fhp546 rhp546 ehp546 qhp546 nhp546 => ?_
                                        have Fhp546 := sf_fr_tr Fhp540 (sf_fr_wider (W := [(999, 0, 0), (11, 4, 4), (11, 11, 14), (11, 17, 17)]) rfl fhp546)
                                        have h547 : sf_rd hp546 69 3 = some n0 := (ehp546 _ _ (Or.inr (by omega))).trans h541
                                        have h548 : sf_rd hp546 69 5 = some l0 := (ehp546 _ _ (Or.inr (by omega))).trans h542
                                        have h549 : sf_rd hp546 69 4 = some y7 := (ehp546 _ _ (Or.inr (by omega))).trans h543
                                        have h550 : sf_rd hp546 69 12 = some z22.toInt := (ehp546 _ _ (Or.inr (by omega))).trans h544
                                        have h551 : sf_rd hp546 69 13 = some z28.toInt := (ehp546 _ _ (Or.inr (by omega))).trans h545
                                        have h552 : sf_rd hp546 69 11 = some z539.toInt := (ehp546 _ _ (Or.inr (by omega))).trans rhp540
                                        refine Ev.step (j := 154) (s' := ([some (.ref 69), some (.int z43), none, none], [.ref 69], (0, 0), hp546)) rfl rfl ?_
                                        exact by
                                         refine Ev.step (j := 155) (s' := ([some (.ref 69), some (.int z43), none, none], [.ref 69, .ref 69], (0, 0), hp546)) rfl rfl ?_
                                         refine bs_getI 11 rfl rfl rfl Hhp546 (bs_R.uq Hhp546 (g := 11) rfl) (by decide) rfl fun z553 hz553 lz553 gz553 => ?_
                                         have e554 : z553.toInt = y7 := Option.some.inj (hz553.symm.trans h549)
                                         refine bs_lit (k := 1) rfl rfl fun z555 hz555 => ?_
                                         first | (refine bs_add rfl (by omega) (by omega) fun z556 hz556 => ?_) | (refine bs_any rfl fun z556 => ?_)
                                         have rz556 := n_range z556
                                         refine bs_putIv (W := [(11, 4, 4), (999, 0, 0)]) (g := 11) rfl rfl Hhp546 (bs_R.uq Hhp546 (g := 11) rfl) (by decide) rfl rfl rfl rfl (Or.inl rfl) (by omega) (by omega) fun hp557 Hhp557 fhp557 rhp557 ehp557 qhp557 nhp557 => ?_
                                         have Fhp557 := sf_fr_tr Fhp546 (sf_fr_wider (W := [(999, 0, 0), (11, 4, 4), (11, 11, 14), (11, 17, 17)]) rfl fhp557)
                                         have h558 : sf_rd hp557 69 3 = some n0 := (ehp557 _ _ (Or.inr (by omega))).trans h547
                                         have h559 : sf_rd hp557 69 5 = some l0 := (ehp557 _ _ (Or.inr (by omega))).trans h548
                                         have h560 : sf_rd hp557 69 12 = some z22.toInt := (ehp557 _ _ (Or.inr (by omega))).trans h550
                                         have h561 : sf_rd hp557 69 13 = some z28.toInt := (ehp557 _ _ (Or.inr (by omega))).trans h551
                                         have h562 : sf_rd hp557 69 11 = some z539.toInt := (ehp557 _ _ (Or.inr (by omega))).trans h552
                                         have h563 : sf_rd hp557 69 14 = some z43.toInt := (ehp557 _ _ (Or.inr (by omega))).trans rhp546
                                         have A1 := psi_ge rhp557 h562
                                         have A2 := psi_ge Q4 Q11
                                         have PS : sf_psi hp557 ≤ sf_psi hp := by omega
                                         exact Ev.ret rfl rfl (by rw [hQ]; exact ⟨t36, Hhp557, (fr_unmark H Fhp557 PS), bs_anU, sf_S_nil, (fun p n l hp_ hn_ hl_ => by
                                                 have eqP : p = P0 := Option.some.inj (hp_.symm.trans Q4); have eqN : n = n0 := Option.some.inj (hn_.symm.trans hn0); have eqL : l = l0 := Option.some.inj (hl_.symm.trans hl0); subst eqP eqN eqL; refine ⟨(show sf_psi hp557 ≤ _ by omega), fun hpn => ?_⟩; rw [← hBB]
                                                 have VB : BB y7.toNat = z43.toInt := by omega
                                                 have QL := tk_e_le (P := tk_b) (B := BB) (n := n.toNat) (p := p.toNat) (by omega)
                                                 have TK : tkt BB n.toNat l.toNat p.toNat = _ := (congrArg (tkq BB n.toNat l.toNat) ST).trans (tkq_sig (by omega) (by omega) (by rw [VB]; exact tk_r_f tz45 tz249))
                                                 rw [TK]
                                                 have RK := rkk_no (show ¬ (z43.toInt = 59 ∨ z43.toInt = 40 ∨ z43.toInt = 41 ∨ (60 ≤ z43.toInt ∧ z43.toInt ≤ 62)) by omega)
                                                 rw [VB]
                                                 exact ⟨h560.trans (congrArg some (by show _ = ((y7.toNat : Nat) : Int); omega)), rhp557.trans (congrArg some (by show _ = ((y7.toNat + 1 : Nat) : Int); omega)), h562.trans (congrArg some (by show _ = rkk (tsg z43.toInt); rw [RK]; omega)), fun e => absurd e (by show rkk (tsg z43.toInt) ≠ 2; rw [RK]; decide), fun e => absurd e (by show rkk (tsg z43.toInt) ≠ 3; rw [RK]; decide), fun e => absurd e (by show rkk (tsg z43.toInt) ≠ 1; rw [RK]; decide)⟩)⟩)
                                     · skip
                                       refine Ev.step (j := 135) (s' := ([some (.ref 69), some (.int z43), none, none], [.int z43, .ref 69], (0, 0), hp35)) rfl rfl ?_
                                       exact by
                                        refine bs_lit (k := 62) rfl rfl fun z564 hz564 => ?_
                                        refine bs_gt rfl (fun c565 => ?_) (fun c565 => ?_)
                                        · skip
                                          refine bs_lit (k := 4) rfl rfl fun z566 hz566 => ?_
                                          refine bs_putIv (W := [(11, 11, 11), (999, 0, 0)]) (g := 11) rfl rfl Hhp35 (bs_R.uq Hhp35 (g := 11) rfl) (by decide) rfl rfl rfl rfl (Or.inl rfl) (by omega) (by omega) fun hp567 Hhp567 fhp567 rhp567 ehp567 qhp567 nhp567 => ?_
                                          have Fhp567 := sf_fr_tr Fhp35 (sf_fr_wider (W := [(999, 0, 0), (11, 4, 4), (11, 11, 14), (11, 17, 17)]) rfl fhp567)
                                          have h568 : sf_rd hp567 69 3 = some n0 := (ehp567 _ _ (Or.inr (by omega))).trans i37
                                          have h569 : sf_rd hp567 69 5 = some l0 := (ehp567 _ _ (Or.inr (by omega))).trans i38
                                          have h570 : sf_rd hp567 69 4 = some y7 := (ehp567 _ _ (Or.inr (by omega))).trans i39
                                          have h571 : sf_rd hp567 69 12 = some z22.toInt := (ehp567 _ _ (Or.inr (by omega))).trans i40
                                          have h572 : sf_rd hp567 69 13 = some z28.toInt := (ehp567 _ _ (Or.inr (by omega))).trans i41
                                          refine Ev.step (j := 149) (s' := ([some (.ref 69), some (.int z43), none, none], [.ref 69], (0, 0), hp567)) rfl rfl ?_
                                          exact by
                                           refine Ev.step (j := 150) (s' := ([some (.ref 69), some (.int z43), none, none], [.int z43, .ref 69], (0, 0), hp567)) rfl rfl ?_
                                           refine bs_putIv (W := [(11, 14, 14)]) (g := 11) rfl rfl Hhp567 (bs_R.uq Hhp567 (g := 11) rfl) (by decide) rfl rfl rfl rfl (Or.inl rfl) (by omega) (by omega) fun hp573 Hhp573 fhp573 rhp573 ehp573 qhp573 nhp573 => ?_
                                           have Fhp573 := sf_fr_tr Fhp567 (sf_fr_wider (W := [(999, 0, 0), (11, 4, 4), (11, 11, 14), (11, 17, 17)]) rfl fhp573)
                                           have h574 : sf_rd hp573 69 3 = some n0 := (ehp573 _ _ (Or.inr (by omega))).trans h568
                                           have h575 : sf_rd hp573 69 5 = some l0 := (ehp573 _ _ (Or.inr (by omega))).trans h569
                                           have h576 : sf_rd hp573 69 4 = some y7 := (ehp573 _ _ (Or.inr (by omega))).trans h570
                                           have h577 : sf_rd hp573 69 12 = some z22.toInt := (ehp573 _ _ (Or.inr (by omega))).trans h571
                                           have h578 : sf_rd hp573 69 13 = some z28.toInt := (ehp573 _ _ (Or.inr (by omega))).trans h572
                                           have h579 : sf_rd hp573 69 11 = some z566.toInt := (ehp573 _ _ (Or.inr (by omega))).trans rhp567
                                           refine Ev.step (j := 154) (s' := ([some (.ref 69), some (.int z43), none, none], [.ref 69], (0, 0), hp573)) rfl rfl ?_
                                           exact by
                                            refine Ev.step (j := 155) (s' := ([some (.ref 69), some (.int z43), none, none], [.ref 69, .ref 69], (0, 0), hp573)) rfl rfl ?_
                                            refine bs_getI 11 rfl rfl rfl Hhp573 (bs_R.uq Hhp573 (g := 11) rfl) (by decide) rfl fun z580 hz580 lz580 gz580 => ?_
                                            have e581 : z580.toInt = y7 := Option.some.inj (hz580.symm.trans h576)
                                            refine bs_lit (k := 1) rfl rfl fun z582 hz582 => ?_
                                            first | (refine bs_add rfl (by omega) (by omega) fun z583 hz583 => ?_) | (refine bs_any rfl fun z583 => ?_)
                                            have rz583 := n_range z583
                                            refine bs_putIv (W := [(11, 4, 4), (999, 0, 0)]) (g := 11) rfl rfl Hhp573 (bs_R.uq Hhp573 (g := 11) rfl) (by decide) rfl rfl rfl rfl (Or.inl rfl) (by omega) (by omega) fun hp584 Hhp584 fhp584 rhp584 ehp584 qhp584 nhp584 => ?_
                                            have Fhp584 := sf_fr_tr Fhp573 (sf_fr_wider (W := [(999, 0, 0), (11, 4, 4), (11, 11, 14), (11, 17, 17)]) rfl fhp584)
                                            have h585 : sf_rd hp584 69 3 = some n0 := (ehp584 _ _ (Or.inr (by omega))).trans h574
                                            have h586 : sf_rd hp584 69 5 = some l0 := (ehp584 _ _ (Or.inr (by omega))).trans h575
                                            have h587 : sf_rd hp584 69 12 = some z22.toInt := (ehp584 _ _ (Or.inr (by omega))).trans h577
                                            have h588 : sf_rd hp584 69 13 = some z28.toInt := (ehp584 _ _ (Or.inr (by omega))).trans h578
                                            have h589 : sf_rd hp584 69 11 = some z566.toInt := (ehp584 _ _ (Or.inr (by omega))).trans h579
                                            have h590 : sf_rd hp584 69 14 = some z43.toInt := (ehp584 _ _ (Or.inr (by omega))).trans rhp573
                                            have A1 := psi_ge rhp584 h589
                                            have A2 := psi_ge Q4 Q11
                                            have PS : sf_psi hp584 ≤ sf_psi hp := by omega
                                            exact Ev.ret rfl rfl (by rw [hQ]; exact ⟨t36, Hhp584, (fr_unmark H Fhp584 PS), bs_anU, sf_S_nil, (fun p n l hp_ hn_ hl_ => by
                                                    have eqP : p = P0 := Option.some.inj (hp_.symm.trans Q4); have eqN : n = n0 := Option.some.inj (hn_.symm.trans hn0); have eqL : l = l0 := Option.some.inj (hl_.symm.trans hl0); subst eqP eqN eqL; refine ⟨(show sf_psi hp584 ≤ _ by omega), fun hpn => ?_⟩; rw [← hBB]
                                                    have VB : BB y7.toNat = z43.toInt := by omega
                                                    have QL := tk_e_le (P := tk_b) (B := BB) (n := n.toNat) (p := p.toNat) (by omega)
                                                    have TK : tkt BB n.toNat l.toNat p.toNat = _ := (congrArg (tkq BB n.toNat l.toNat) ST).trans (tkq_sig (by omega) (by omega) (by rw [VB]; exact tk_r_f tz45 tz249))
                                                    rw [TK]
                                                    have RK := rkk_no (show ¬ (z43.toInt = 59 ∨ z43.toInt = 40 ∨ z43.toInt = 41 ∨ (60 ≤ z43.toInt ∧ z43.toInt ≤ 62)) by omega)
                                                    rw [VB]
                                                    exact ⟨h587.trans (congrArg some (by show _ = ((y7.toNat : Nat) : Int); omega)), rhp584.trans (congrArg some (by show _ = ((y7.toNat + 1 : Nat) : Int); omega)), h589.trans (congrArg some (by show _ = rkk (tsg z43.toInt); rw [RK]; omega)), fun e => absurd e (by show rkk (tsg z43.toInt) ≠ 2; rw [RK]; decide), fun e => absurd e (by show rkk (tsg z43.toInt) ≠ 3; rw [RK]; decide), fun e => absurd e (by show rkk (tsg z43.toInt) ≠ 1; rw [RK]; decide)⟩)⟩)
                                        · skip
                                          refine bs_lit (k := 3) rfl rfl fun z591 hz591 => ?_
                                          exact by
                                           refine Ev.step (j := 145) (s' := ([some (.ref 69), some (.int z43), none, none], [.int z591, .ref 69], (0, 0), hp35)) rfl rfl ?_
                                           refine bs_putIv (W := [(11, 11, 11), (999, 0, 0)]) (g := 11) rfl rfl Hhp35 (bs_R.uq Hhp35 (g := 11) rfl) (by decide) rfl rfl rfl rfl (Or.inl rfl) (by omega) (by omega) fun hp592 Hhp592 fhp592 rhp592 ehp592 qhp592 nhp592 => ?_
                                           have Fhp592 := sf_fr_tr Fhp35 (sf_fr_wider (W := [(999, 0, 0), (11, 4, 4), (11, 11, 14), (11, 17, 17)]) rfl fhp592)
                                           have h593 : sf_rd hp592 69 3 = some n0 := (ehp592 _ _ (Or.inr (by omega))).trans i37
                                           have h594 : sf_rd hp592 69 5 = some l0 := (ehp592 _ _ (Or.inr (by omega))).trans i38
                                           have h595 : sf_rd hp592 69 4 = some y7 := (ehp592 _ _ (Or.inr (by omega))).trans i39
                                           have h596 : sf_rd hp592 69 12 = some z22.toInt := (ehp592 _ _ (Or.inr (by omega))).trans i40
                                           have h597 : sf_rd hp592 69 13 = some z28.toInt := (ehp592 _ _ (Or.inr (by omega))).trans i41
                                           refine Ev.step (j := 149) (s' := ([some (.ref 69), some (.int z43), none, none], [.ref 69], (0, 0), hp592)) rfl rfl ?_
                                           exact by
                                            refine Ev.step (j := 150) (s' := ([some (.ref 69), some (.int z43), none, none], [.int z43, .ref 69], (0, 0), hp592)) rfl rfl ?_
                                            refine bs_putIv (W := [(11, 14, 14)]) (g := 11) rfl rfl Hhp592 (bs_R.uq Hhp592 (g := 11) rfl) (by decide) rfl rfl rfl rfl (Or.inl rfl) (by omega) (by omega) fun hp598 Hhp598 fhp598 rhp598 ehp598 qhp598 nhp598 => ?_
                                            have Fhp598 := sf_fr_tr Fhp592 (sf_fr_wider (W := [(999, 0, 0), (11, 4, 4), (11, 11, 14), (11, 17, 17)]) rfl fhp598)
                                            have h599 : sf_rd hp598 69 3 = some n0 := (ehp598 _ _ (Or.inr (by omega))).trans h593
                                            have h600 : sf_rd hp598 69 5 = some l0 := (ehp598 _ _ (Or.inr (by omega))).trans h594
                                            have h601 : sf_rd hp598 69 4 = some y7 := (ehp598 _ _ (Or.inr (by omega))).trans h595
                                            have h602 : sf_rd hp598 69 12 = some z22.toInt := (ehp598 _ _ (Or.inr (by omega))).trans h596
                                            have h603 : sf_rd hp598 69 13 = some z28.toInt := (ehp598 _ _ (Or.inr (by omega))).trans h597
                                            have h604 : sf_rd hp598 69 11 = some z591.toInt := (ehp598 _ _ (Or.inr (by omega))).trans rhp592
                                            refine Ev.step (j := 154) (s' := ([some (.ref 69), some (.int z43), none, none], [.ref 69], (0, 0), hp598)) rfl rfl ?_
                                            exact by
                                             refine Ev.step (j := 155) (s' := ([some (.ref 69), some (.int z43), none, none], [.ref 69, .ref 69], (0, 0), hp598)) rfl rfl ?_
                                             refine bs_getI 11 rfl rfl rfl Hhp598 (bs_R.uq Hhp598 (g := 11) rfl) (by decide) rfl fun z605 hz605 lz605 gz605 => ?_
                                             have e606 : z605.toInt = y7 := Option.some.inj (hz605.symm.trans h601)
                                             refine bs_lit (k := 1) rfl rfl fun z607 hz607 => ?_
                                             first | (refine bs_add rfl (by omega) (by omega) fun z608 hz608 => ?_) | (refine bs_any rfl fun z608 => ?_)
                                             have rz608 := n_range z608
                                             refine bs_putIv (W := [(11, 4, 4), (999, 0, 0)]) (g := 11) rfl rfl Hhp598 (bs_R.uq Hhp598 (g := 11) rfl) (by decide) rfl rfl rfl rfl (Or.inl rfl) (by omega) (by omega) fun hp609 Hhp609 fhp609 rhp609 ehp609 qhp609 nhp609 => ?_
                                             have Fhp609 := sf_fr_tr Fhp598 (sf_fr_wider (W := [(999, 0, 0), (11, 4, 4), (11, 11, 14), (11, 17, 17)]) rfl fhp609)
                                             have h610 : sf_rd hp609 69 3 = some n0 := (ehp609 _ _ (Or.inr (by omega))).trans h599
                                             have h611 : sf_rd hp609 69 5 = some l0 := (ehp609 _ _ (Or.inr (by omega))).trans h600
                                             have h612 : sf_rd hp609 69 12 = some z22.toInt := (ehp609 _ _ (Or.inr (by omega))).trans h602
                                             have h613 : sf_rd hp609 69 13 = some z28.toInt := (ehp609 _ _ (Or.inr (by omega))).trans h603
                                             have h614 : sf_rd hp609 69 11 = some z591.toInt := (ehp609 _ _ (Or.inr (by omega))).trans h604
                                             have h615 : sf_rd hp609 69 14 = some z43.toInt := (ehp609 _ _ (Or.inr (by omega))).trans rhp598
                                             have A1 := psi_ge rhp609 h614
                                             have A2 := psi_ge Q4 Q11
                                             have PS : sf_psi hp609 ≤ sf_psi hp := by omega
                                             exact Ev.ret rfl rfl (by rw [hQ]; exact ⟨t36, Hhp609, (fr_unmark H Fhp609 PS), bs_anU, sf_S_nil, (fun p n l hp_ hn_ hl_ => by
                                                     have eqP : p = P0 := Option.some.inj (hp_.symm.trans Q4); have eqN : n = n0 := Option.some.inj (hn_.symm.trans hn0); have eqL : l = l0 := Option.some.inj (hl_.symm.trans hl0); subst eqP eqN eqL; refine ⟨(show sf_psi hp609 ≤ _ by omega), fun hpn => ?_⟩; rw [← hBB]
                                                     have VB : BB y7.toNat = z43.toInt := by omega
                                                     have QL := tk_e_le (P := tk_b) (B := BB) (n := n.toNat) (p := p.toNat) (by omega)
                                                     have TK : tkt BB n.toNat l.toNat p.toNat = _ := (congrArg (tkq BB n.toNat l.toNat) ST).trans (tkq_sig (by omega) (by omega) (by rw [VB]; exact tk_r_f tz45 tz249))
                                                     rw [TK]
                                                     have RK := rkk_yes (show z43.toInt = 59 ∨ z43.toInt = 40 ∨ z43.toInt = 41 ∨ (60 ≤ z43.toInt ∧ z43.toInt ≤ 62) by omega)
                                                     rw [VB, RK.1]
                                                     exact ⟨h612.trans (congrArg some (by show _ = ((y7.toNat : Nat) : Int); omega)), rhp609.trans (congrArg some (by show _ = ((y7.toNat + 1 : Nat) : Int); omega)), h614.trans (congrArg some (by show _ = rkk z43.toInt; rw [RK.2]; omega)), fun e => absurd e (by show rkk z43.toInt ≠ 2; rw [RK.2]; decide), fun _ => h615, fun e => absurd e (by show rkk z43.toInt ≠ 1; rw [RK.2]; decide)⟩)⟩)
               · skip
                 have RY := RB y7.toNat
                 refine Ev.step (j := 90) (s' := ([some (.ref 69), some (.int z43), none, none], [.ref 69], (0, 0), hp35)) rfl rfl ?_
                 exact by
                  refine bs_lit (k := 0) rfl rfl fun z616 hz616 => ?_
                  refine bs_putIv (W := [(11, 11, 11), (999, 0, 0)]) (g := 11) rfl rfl Hhp35 (bs_R.uq Hhp35 (g := 11) rfl) (by decide) rfl rfl rfl rfl (Or.inl rfl) (by omega) (by omega) fun hp617 Hhp617 fhp617 rhp617 ehp617 qhp617 nhp617 => ?_
                  have Fhp617 := sf_fr_tr Fhp35 (sf_fr_wider (W := [(999, 0, 0), (11, 4, 4), (11, 11, 14), (11, 17, 17)]) rfl fhp617)
                  have h618 : sf_rd hp617 69 3 = some n0 := (ehp617 _ _ (Or.inr (by omega))).trans i37
                  have h619 : sf_rd hp617 69 5 = some l0 := (ehp617 _ _ (Or.inr (by omega))).trans i38
                  have h620 : sf_rd hp617 69 4 = some y7 := (ehp617 _ _ (Or.inr (by omega))).trans i39
                  have h621 : sf_rd hp617 69 12 = some z22.toInt := (ehp617 _ _ (Or.inr (by omega))).trans i40
                  have h622 : sf_rd hp617 69 13 = some z28.toInt := (ehp617 _ _ (Or.inr (by omega))).trans i41
                  have A1 := psi_ge h620 rhp617
                  have A2 := psi_ge Q4 Q11
                  have PS : sf_psi hp617 ≤ sf_psi hp := by omega
                  exact Ev.ret rfl rfl (by rw [hQ]; exact ⟨t36, Hhp617, (fr_unmark H Fhp617 PS), bs_anU, sf_S_nil, (fun p n l hp_ hn_ hl_ => by
                          have eqP : p = P0 := Option.some.inj (hp_.symm.trans Q4); have eqN : n = n0 := Option.some.inj (hn_.symm.trans hn0); have eqL : l = l0 := Option.some.inj (hl_.symm.trans hl0); subst eqP eqN eqL; refine ⟨(show sf_psi hp617 ≤ _ by omega), fun hpn => ?_⟩; rw [← hBB]
                          have QL := tk_e_le (P := tk_b) (B := BB) (n := n.toNat) (p := p.toNat) (by omega)
                          have TK : tkt BB n.toNat l.toNat p.toNat = _ := (congrArg (tkq BB n.toNat l.toNat) ST).trans (tkq_end (by omega) (by omega))
                          rw [TK]
                          exact ⟨h621.trans (congrArg some (by show _ = ((n.toNat : Nat) : Int); omega)), h620.trans (congrArg some (by show _ = ((y7.toNat : Nat) : Int); omega)), rhp617.trans (congrArg some (by show _ = (0 : Int); omega)), fun e => absurd e (by show rkk 0 ≠ 2; decide), fun e => absurd e (by show rkk 0 ≠ 3; decide), fun e => absurd e (by show rkk 0 ≠ 1; decide)⟩)⟩)
            refine Ev.step (j := 45) (s' := ([some (.ref 69), none, none, none], [.ref 69], (0, 0), hp29)) rfl rfl ?_
            exact by
             refine bs_getI 11 rfl rfl rfl Hhp29 (bs_R.uq Hhp29 (g := 11) rfl) (by decide) rfl fun z623 hz623 lz623 gz623 => ?_
             have e624 : z623.toInt = n0 := Option.some.inj (hz623.symm.trans h30)
             refine Ev.step (j := 49) (s' := ([some (.ref 69), none, none, none], [.ref 69, .int z623], (0, 0), hp29)) rfl rfl ?_
             refine bs_getI 11 rfl rfl rfl Hhp29 (bs_R.uq Hhp29 (g := 11) rfl) (by decide) rfl fun z625 hz625 lz625 gz625 => ?_
             have e626 : z625.toInt = l0 := Option.some.inj (hz625.symm.trans h31)
             refine bs_le rfl (fun c627 => ?_) (fun c627 => ?_)
             · skip
               exact cut34 hp29 t2 Hhp29 Fhp29 h30 h31 h32 h33 rhp29 (by first | omega | assumption)
             · skip
               refine Ev.step (j := 56) (s' := ([some (.ref 69), none, none, none], [.ref 69], (0, 0), hp29)) rfl rfl ?_
               refine bs_getI 11 rfl rfl rfl Hhp29 (bs_R.uq Hhp29 (g := 11) rfl) (by decide) rfl fun z628 hz628 lz628 gz628 => ?_
               have e629 : z628.toInt = y7 := Option.some.inj (hz628.symm.trans h32)
               refine Ev.step (j := 60) (s' := ([some (.ref 69), none, none, none], [.ref 69, .int z628], (0, 0), hp29)) rfl rfl ?_
               exact by
                refine bs_getI 11 rfl rfl rfl Hhp29 (bs_R.uq Hhp29 (g := 11) rfl) (by decide) rfl fun z630 hz630 lz630 gz630 => ?_
                have e631 : z630.toInt = l0 := Option.some.inj (hz630.symm.trans h31)
                refine bs_lt rfl (fun c632 => ?_) (fun c632 => ?_)
                · skip
                  exact cut34 hp29 t2 Hhp29 Fhp29 h30 h31 h32 h33 rhp29 (by first | omega | assumption)
                · skip
                  refine Ev.step (j := 67) (s' := ([some (.ref 69), none, none, none], [.ref 69], (0, 0), hp29)) rfl rfl ?_
                  refine Ev.step (j := 68) (s' := ([some (.ref 69), none, none, none], [.ref 69, .ref 69], (0, 0), hp29)) rfl rfl ?_
                  refine bs_getI 11 rfl rfl rfl Hhp29 (bs_R.uq Hhp29 (g := 11) rfl) (by decide) rfl fun z633 hz633 lz633 gz633 => ?_
                  have e634 : z633.toInt = l0 := Option.some.inj (hz633.symm.trans h31)
                  refine bs_putIv (W := [(11, 12, 12)]) (g := 11) rfl rfl Hhp29 (bs_R.uq Hhp29 (g := 11) rfl) (by decide) rfl rfl rfl rfl (Or.inl rfl) (by omega) (by omega) fun hp635 Hhp635 fhp635 rhp635 ehp635 qhp635 nhp635 => ?_
                  have Fhp635 := sf_fr_tr Fhp29 (sf_fr_wider (W := [(999, 0, 0), (11, 4, 4), (11, 11, 14), (11, 17, 17)]) rfl fhp635)
                  have h636 : sf_rd hp635 69 3 = some n0 := (ehp635 _ _ (Or.inr (by omega))).trans h30
                  have h637 : sf_rd hp635 69 5 = some l0 := (ehp635 _ _ (Or.inr (by omega))).trans h31
                  have h638 : sf_rd hp635 69 4 = some y7 := (ehp635 _ _ (Or.inr (by omega))).trans h32
                  have h639 : sf_rd hp635 69 13 = some z28.toInt := (ehp635 _ _ (Or.inr (by omega))).trans rhp29
                  refine Ev.step (j := 75) (s' := ([some (.ref 69), none, none, none], [.ref 69], (0, 0), hp635)) rfl rfl ?_
                  exact by
                   refine bs_lit (k := 4) rfl rfl fun z640 hz640 => ?_
                   refine bs_putIv (W := [(11, 11, 11), (999, 0, 0)]) (g := 11) rfl rfl Hhp635 (bs_R.uq Hhp635 (g := 11) rfl) (by decide) rfl rfl rfl rfl (Or.inl rfl) (by omega) (by omega) fun hp641 Hhp641 fhp641 rhp641 ehp641 qhp641 nhp641 => ?_
                   have Fhp641 := sf_fr_tr Fhp635 (sf_fr_wider (W := [(999, 0, 0), (11, 4, 4), (11, 11, 14), (11, 17, 17)]) rfl fhp641)
                   have h642 : sf_rd hp641 69 3 = some n0 := (ehp641 _ _ (Or.inr (by omega))).trans h636
                   have h643 : sf_rd hp641 69 5 = some l0 := (ehp641 _ _ (Or.inr (by omega))).trans h637
                   have h644 : sf_rd hp641 69 4 = some y7 := (ehp641 _ _ (Or.inr (by omega))).trans h638
                   have h645 : sf_rd hp641 69 13 = some z28.toInt := (ehp641 _ _ (Or.inr (by omega))).trans h639
                   have h646 : sf_rd hp641 69 12 = some z633.toInt := (ehp641 _ _ (Or.inr (by omega))).trans rhp635
                   have A1 := psi_ge h644 rhp641
                   have A2 := psi_ge Q4 Q11
                   have PS : sf_psi hp641 ≤ sf_psi hp := by omega
                   exact Ev.ret rfl rfl (by rw [hQ]; exact ⟨t2, Hhp641, (fr_unmark H Fhp641 PS), bs_anU, sf_S_nil, (fun p n l hp_ hn_ hl_ => by
                           have eqP : p = P0 := Option.some.inj (hp_.symm.trans Q4); have eqN : n = n0 := Option.some.inj (hn_.symm.trans hn0); have eqL : l = l0 := Option.some.inj (hl_.symm.trans hl0); subst eqP eqN eqL; refine ⟨(show sf_psi hp641 ≤ _ by omega), fun hpn => ?_⟩; rw [← hBB]
                           have QL := tk_e_le (P := tk_b) (B := BB) (n := n.toNat) (p := p.toNat) (by omega)
                           have TK : tkt BB n.toNat l.toNat p.toNat = _ := (congrArg (tkq BB n.toNat l.toNat) ST).trans (tkq_none (by omega) (by omega))
                           rw [TK]
                           exact ⟨h646.trans (congrArg some (by show _ = ((l.toNat : Nat) : Int); omega)), h644.trans (congrArg some (by show _ = ((y7.toNat : Nat) : Int); omega)), rhp641.trans (congrArg some (by show _ = (4 : Int); omega)), fun e => absurd e (by show rkk 1 ≠ 2; decide), fun e => absurd e (by show rkk 1 ≠ 3; decide), fun e => absurd e (by show rkk 1 ≠ 1; decide)⟩)⟩)
        · skip
          have c647 : z19.toInt = 10 := by omega
          refine Ev.step (j := 19) (s' := ([some (.ref 69), none, none, none], [.ref 69], (0, 0), hp1)) rfl rfl ?_
          exact by
           refine Ev.step (j := 20) (s' := ([some (.ref 69), none, none, none], [.ref 69, .ref 69], (0, 0), hp1)) rfl rfl ?_
           refine bs_getI 11 rfl rfl rfl Hhp1 (bs_R.uq Hhp1 (g := 11) rfl) (by decide) rfl fun z648 hz648 lz648 gz648 => ?_
           have e649 : z648.toInt = y7 := Option.some.inj (hz648.symm.trans hy7)
           refine bs_lit (k := 1) rfl rfl fun z650 hz650 => ?_
           first | (refine bs_add rfl (by omega) (by omega) fun z651 hz651 => ?_) | (refine bs_any rfl fun z651 => ?_)
           have rz651 := n_range z651
           refine bs_putIv (W := [(11, 4, 4), (999, 0, 0)]) (g := 11) rfl rfl Hhp1 (bs_R.uq Hhp1 (g := 11) rfl) (by decide) rfl rfl rfl rfl (Or.inl rfl) (by omega) (by omega) fun hp652 Hhp652 fhp652 rhp652 ehp652 qhp652 nhp652 => ?_
           have Fhp652 := sf_fr_tr Fhp1 (sf_fr_wider (W := [(999, 0, 0), (11, 4, 4), (11, 11, 14), (11, 17, 17)]) rfl fhp652)
           have h653 : sf_rd hp652 69 3 = some n0 := (ehp652 _ _ (Or.inr (by omega))).trans i4
           have h654 : sf_rd hp652 69 5 = some l0 := (ehp652 _ _ (Or.inr (by omega))).trans i5
           refine Ev.step (j := 0) (s' := ([some (.ref 69), none, none, none], [], (0, 0), hp652)) rfl rfl ?_
           have GO : tk_e tk_b BB n0.toNat y7.toNat = tk_e tk_b BB n0.toNat (y7.toNat + 1) := tk_go (by omega) (tk_b_t (by omega))
           have INV : ∃ v : Int, sf_rd hp652 69 4 = some v ∧ P0 ≤ v ∧ v ≤ 940 ∧ tk_e tk_b BB n0.toNat v.toNat = tk_e tk_b BB n0.toNat P0.toNat := ⟨_, rhp652, by omega, by omega, by rw [show z651.toInt.toNat = y7.toNat + 1 by omega, ← GO]; exact ky7⟩
           have MS : (940 - (sf_rd hp652 69 4).getD 0).toNat < (940 - (sf_rd hp1 69 4).getD 0).toNat := by
             rw [rhp652, hy7]
             show (940 - z651.toInt).toNat < (940 - y7).toNat
             omega
           refine ih3 (hp652, t2) ⟨Hhp652, Fhp652, h653, h654, (by exact INV)⟩ ?_
           show (940 - (sf_rd hp652 69 4).getD 0).toNat < (940 - (sf_rd hp1 69 4).getD 0).toNat
           exact MS
end
