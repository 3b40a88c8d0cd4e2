-- 63.b25.lean.txt
section
def kq_X8_skipBlanks_v : sf_Q := ([(1, 8, 0)], [], none, [], [(8, 2, 2)])
def ke_X8_skipBlanks_v : List Value → ab_H → Option Value → ab_H → Prop := fun _ hp _ hp' => ∀ p n : Int, sf_rd hp 1 2 = some p → sf_rd hp 1 1 = some n → sf_rd hp' 1 2 = some ((tk_e tk_b (bv hp 2 n.toNat) n.toNat p.toNat : Nat) : Int)
set_option maxRecDepth 100000 in
set_option maxHeartbeats 4000000 in
theorem ce_X8_skipBlanks_v : sf_cE kq_X8_skipBlanks_v Z_X8_skipBlanks ke_X8_skipBlanks_v := by
  intro t hp as H hl hj hpre
  match as, hl with
  | [v0], _ =>
    obtain ⟨a0, rfl, ra0⟩ := bs_aR (hj 0 _ rfl)
    obtain rfl := ra0.eq H (p := 1) rfl
    clear hpre hj
    have F0 : sf_fr [(8, 2, 2)] t hp t hp := sf_fr_rf
    refine bs_finx (E := ke_X8_skipBlanks_v) (K := kq_X8_skipBlanks_v) (L := (L_X8_skipBlanks Z_X8_valueAt)) (nL := 1) (Nat.le_of_ble_eq_true rfl) ?_
    obtain ⟨Q, hQ⟩ : ∃ Q : ab_O → Prop, Q = (fun o => ∃ t', sf_h t' o.2 ∧ sf_fr (kq_X8_skipBlanks_v).2.2.2.2 t hp t' o.2 ∧ sf_an t' o.2.1 (kq_X8_skipBlanks_v).2.2.1 o.1 ∧ sf_S (sf_v1 o.1 [.ref 1] o.2) (kq_X8_skipBlanks_v).2.2.2.1 ∧ ke_X8_skipBlanks_v [.ref 1] hp o.1 o.2) := ⟨_, rfl⟩
    rw [← hQ]
    refine (show Ev (ab_T (L_X8_skipBlanks Z_X8_valueAt)) 0 ([some (.ref 1)], [], (0, 0), hp) Q from ?_)
    obtain ⟨p0, hp0, lp0, up0⟩ := bs_fld (k := 2) H (bs_R.uq H (g := 8) rfl) (by decide) rfl
    obtain ⟨n0, hn0, ln0, un0⟩ := bs_fld (k := 1) H (bs_R.uq H (g := 8) rfl) (by decide) rfl
    obtain ⟨BB, hBB⟩ : ∃ BB : Nat → Int, BB = bv hp 2 n0.toNat := ⟨_, rfl⟩
    have EB : ∀ hp' : ab_H, (∀ q, sf_rd hp' 2 q = sf_rd hp 2 q) → bv hp' 2 n0.toNat = BB := fun hp' h => (bv_same h).trans hBB.symm
    have RB : ∀ q, 0 ≤ BB q ∧ BB q ≤ 255 := fun q => by rw [hBB]; exact bv_rng _ _ _ _
    have INV : ∃ v : Int, sf_rd hp 1 2 = some v ∧ 0 ≤ v ∧ v ≤ 940 ∧ tk_e tk_b BB n0.toNat v.toNat = tk_e tk_b BB n0.toNat p0.toNat := ⟨_, hp0, by omega, by omega, rfl⟩
    refine bs_loop (ι := ab_H × (Nat → Nat)) (fun ⟨hp1, t2⟩ => ([some (.ref 1)], [], (0, 0), hp1)) (fun ⟨hp1, t2⟩ => (sf_h t2 hp1) ∧ (sf_fr [(8, 2, 2)] t hp t2 hp1) ∧ (sf_rd hp1 1 1 = some n0) ∧ (∃ v : Int, sf_rd hp1 1 2 = some v ∧ 0 ≤ v ∧ v ≤ 940 ∧ tk_e tk_b BB n0.toNat v.toNat = tk_e tk_b BB n0.toNat p0.toNat)) (fun ⟨hp1, t2⟩ => (940 - (sf_rd hp1 1 2).getD 0).toNat) ?_ (hp, t) ⟨H, F0, hn0, (by exact INV)⟩
    rintro ⟨hp1, t2⟩ ⟨Hhp1, Fhp1, i4, i5⟩ ih3
    refine (show Ev _ 0 ([some (.ref 1)], [], (0, 0), hp1) _ from ?_)
    obtain ⟨y6, hy6, ly6, gy6, ky6⟩ := i5
    refine Ev.step (j := 1) (s' := ([some (.ref 1)], [.ref 1], (0, 0), hp1)) rfl rfl ?_
    exact by
     refine bs_getI 8 rfl rfl rfl Hhp1 (bs_R.uq Hhp1 (g := 8) rfl) (by decide) rfl fun z7 hz7 lz7 gz7 => ?_
     have e8 : z7.toInt = y6 := Option.some.inj (hz7.symm.trans hy6)
     refine Ev.step (j := 5) (s' := ([some (.ref 1)], [.ref 1, .int z7], (0, 0), hp1)) rfl rfl ?_
     refine bs_getI 8 rfl rfl rfl Hhp1 (bs_R.uq Hhp1 (g := 8) rfl) (by decide) rfl fun z9 hz9 lz9 gz9 => ?_
     have e10 : z9.toInt = n0 := Option.some.inj (hz9.symm.trans i4)
     refine bs_ge rfl (fun c11 => ?_) (fun c11 => ?_)
     · skip
       exact Ev.ret rfl rfl (by rw [hQ]; exact ⟨t2, Hhp1, Fhp1, bs_anU, sf_S_nil, (fun p n hp_ hn_ => by have eqP : p = p0 := Option.some.inj (hp_.symm.trans hp0); have eqN : n = n0 := Option.some.inj (hn_.symm.trans hn0); subst eqP eqN; rw [← hBB]; have ST : tk_e tk_b BB n.toNat y6.toNat = y6.toNat := tk_stop (Or.inl (by omega)); exact hy6.trans (congrArg some (by omega)))⟩)
     · skip
       refine Ev.step (j := 12) (s' := ([some (.ref 1)], [.ref 1], (0, 0), hp1)) rfl rfl ?_
       refine Ev.step (j := 13) (s' := ([some (.ref 1)], [.ref 1, .ref 1], (0, 0), hp1)) rfl rfl ?_
       exact by
        refine bs_getI 8 rfl rfl rfl Hhp1 (bs_R.uq Hhp1 (g := 8) rfl) (by decide) rfl fun z12 hz12 lz12 gz12 => ?_
        have e13 : z12.toInt = y6 := Option.some.inj (hz12.symm.trans hy6)
        refine va_ev rfl Hhp1 (by omega) rfl fun z14 vz14 lz14 gz14 => ?_
        refine (show Ev _ 19 ([some (.ref 1)], [.int z14], (0, 0), hp1) _ from ?_)
        have bz14 : BB (y6.toNat) = z14.toInt := (congrArg BB (show y6.toNat = z12.toInt.toNat by omega)).trans ((vz14.trans (bv_mask (by omega) (by omega))).trans (congrFun (EB _ (fun q => Fhp1.2.2.1 _ (bs_R.uq H (g := 123) (p := 2) rfl).1 _ (by rw [(bs_R.uq H (g := 123) (p := 2) rfl).2]; rfl))) _)).symm
        refine bs_lit (k := 32) rfl rfl fun z15 hz15 => ?_
        refine bs_eq rfl (fun c16 => ?_) (fun c16 => ?_)
        · skip
          have c17 : z14.toInt = 32 := by omega
          refine Ev.step (j := 38) (s' := ([some (.ref 1)], [.ref 1], (0, 0), hp1)) rfl rfl ?_
          exact by
           refine Ev.step (j := 39) (s' := ([some (.ref 1)], [.ref 1, .ref 1], (0, 0), hp1)) rfl rfl ?_
           refine bs_getI 8 rfl rfl rfl Hhp1 (bs_R.uq Hhp1 (g := 8) rfl) (by decide) rfl fun z18 hz18 lz18 gz18 => ?_
           have e19 : z18.toInt = y6 := Option.some.inj (hz18.symm.trans hy6)
           refine bs_lit (k := 1) rfl rfl fun z20 hz20 => ?_
           first | (refine bs_add rfl (by omega) (by omega) fun z21 hz21 => ?_) | (refine bs_any rfl fun z21 => ?_)
           have rz21 := n_range z21
           refine bs_putI (W := [(8, 2, 2)]) (g := 8) rfl rfl Hhp1 (bs_R.uq Hhp1 (g := 8) rfl) (by decide) rfl rfl rfl rfl (Or.inl rfl) (by omega) (by omega) fun hp22 Hhp22 fhp22 rhp22 ehp22 qhp22 nhp22 => ?_
           have Fhp22 := sf_fr_tr Fhp1 (sf_fr_wider (W := [(8, 2, 2)]) rfl fhp22)
           have h23 : sf_rd hp22 1 1 = some n0 := (ehp22 _ _ (Or.inr (by omega))).trans i4
           refine Ev.step (j := 0) (s' := ([some (.ref 1)], [], (0, 0), hp22)) rfl rfl ?_
           have GO : tk_e tk_b BB n0.toNat y6.toNat = tk_e tk_b BB n0.toNat (y6.toNat + 1) := tk_go (by omega) (tk_b_t (by omega))
           have INV : ∃ v : Int, sf_rd hp22 1 2 = some v ∧ 0 ≤ v ∧ v ≤ 940 ∧ tk_e tk_b BB n0.toNat v.toNat = tk_e tk_b BB n0.toNat p0.toNat := ⟨_, rhp22, by omega, by omega, by rw [show z21.toInt.toNat = y6.toNat + 1 by omega, ← GO]; exact ky6⟩
           have MS : (940 - (sf_rd hp22 1 2).getD 0).toNat < (940 - (sf_rd hp1 1 2).getD 0).toNat := by
             rw [rhp22, hy6]
             show (940 - z21.toInt).toNat < (940 - y6).toNat
             omega
           refine ih3 (hp22, t2) ⟨Hhp22, Fhp22, h23, (by exact INV)⟩ ?_
           show (940 - (sf_rd hp22 1 2).getD 0).toNat < (940 - (sf_rd hp1 1 2).getD 0).toNat
           exact MS
        · skip
          refine Ev.step (j := 25) (s' := ([some (.ref 1)], [.ref 1], (0, 0), hp1)) rfl rfl ?_
          exact by
           refine Ev.step (j := 26) (s' := ([some (.ref 1)], [.ref 1, .ref 1], (0, 0), hp1)) rfl rfl ?_
           refine bs_getI 8 rfl rfl rfl Hhp1 (bs_R.uq Hhp1 (g := 8) rfl) (by decide) rfl fun z24 hz24 lz24 gz24 => ?_
           have e25 : z24.toInt = y6 := Option.some.inj (hz24.symm.trans hy6)
           refine va_ev rfl Hhp1 (by omega) rfl fun z26 vz26 lz26 gz26 => ?_
           refine (show Ev _ 32 ([some (.ref 1)], [.int z26], (0, 0), hp1) _ from ?_)
           have bz26 : BB (y6.toNat) = z26.toInt := (congrArg BB (show y6.toNat = z24.toInt.toNat by omega)).trans ((vz26.trans (bv_mask (by omega) (by omega))).trans (congrFun (EB _ (fun q => Fhp1.2.2.1 _ (bs_R.uq H (g := 123) (p := 2) rfl).1 _ (by rw [(bs_R.uq H (g := 123) (p := 2) rfl).2]; rfl))) _)).symm
           refine bs_lit (k := 10) rfl rfl fun z27 hz27 => ?_
           refine bs_ne rfl (fun c28 => ?_) (fun c28 => ?_)
           · skip
             exact Ev.ret rfl rfl (by rw [hQ]; exact ⟨t2, Hhp1, Fhp1, bs_anU, sf_S_nil, (fun p n hp_ hn_ => by have eqP : p = p0 := Option.some.inj (hp_.symm.trans hp0); have eqN : n = n0 := Option.some.inj (hn_.symm.trans hn0); subst eqP eqN; rw [← hBB]; have ST : tk_e tk_b BB n.toNat y6.toNat = y6.toNat := tk_stop (Or.inr (tk_b_f (by omega) (by omega))); exact hy6.trans (congrArg some (by omega)))⟩)
           · skip
             have c29 : z26.toInt = 10 := by omega
             refine Ev.step (j := 38) (s' := ([some (.ref 1)], [.ref 1], (0, 0), hp1)) rfl rfl ?_
             exact by
              refine Ev.step (j := 39) (s' := ([some (.ref 1)], [.ref 1, .ref 1], (0, 0), hp1)) rfl rfl ?_
              refine bs_getI 8 rfl rfl rfl Hhp1 (bs_R.uq Hhp1 (g := 8) rfl) (by decide) rfl fun z30 hz30 lz30 gz30 => ?_
              have e31 : z30.toInt = y6 := Option.some.inj (hz30.symm.trans hy6)
              refine bs_lit (k := 1) rfl rfl fun z32 hz32 => ?_
              first | (refine bs_add rfl (by omega) (by omega) fun z33 hz33 => ?_) | (refine bs_any rfl fun z33 => ?_)
              have rz33 := n_range z33
              refine bs_putI (W := [(8, 2, 2)]) (g := 8) rfl rfl Hhp1 (bs_R.uq Hhp1 (g := 8) rfl) (by decide) rfl rfl rfl rfl (Or.inl rfl) (by omega) (by omega) fun hp34 Hhp34 fhp34 rhp34 ehp34 qhp34 nhp34 => ?_
              have Fhp34 := sf_fr_tr Fhp1 (sf_fr_wider (W := [(8, 2, 2)]) rfl fhp34)
              have h35 : sf_rd hp34 1 1 = some n0 := (ehp34 _ _ (Or.inr (by omega))).trans i4
              refine Ev.step (j := 0) (s' := ([some (.ref 1)], [], (0, 0), hp34)) rfl rfl ?_
              have GO : tk_e tk_b BB n0.toNat y6.toNat = tk_e tk_b BB n0.toNat (y6.toNat + 1) := tk_go (by omega) (tk_b_t (by omega))
              have INV : ∃ v : Int, sf_rd hp34 1 2 = some v ∧ 0 ≤ v ∧ v ≤ 940 ∧ tk_e tk_b BB n0.toNat v.toNat = tk_e tk_b BB n0.toNat p0.toNat := ⟨_, rhp34, by omega, by omega, by rw [show z33.toInt.toNat = y6.toNat + 1 by omega, ← GO]; exact ky6⟩
              have MS : (940 - (sf_rd hp34 1 2).getD 0).toNat < (940 - (sf_rd hp1 1 2).getD 0).toNat := by
                rw [rhp34, hy6]
                show (940 - z33.toInt).toNat < (940 - y6).toNat
                omega
              refine ih3 (hp34, t2) ⟨Hhp34, Fhp34, h35, (by exact INV)⟩ ?_
              show (940 - (sf_rd hp34 1 2).getD 0).toNat < (940 - (sf_rd hp1 1 2).getD 0).toNat
              exact MS
def kq_X9_add_v : sf_Q := ([(1, 9, 0), (0, 0, 0), (0, 0, 0), (2, 0, 0)], [], none, [], [(9, 3, 3), (124, 0, 900), (125, 0, 900), (126, 0, 0)])
def ke_X9_add_v : List Value → ab_H → Option Value → ab_H → Prop := fun as hp _ hp' => ∀ (m : Int) (k p : Int32) (w : Int64), as = [.ref 3, .int k, .int p, .long w] → sf_rd hp 3 3 = some m → m ≤ 900 → AD hp hp' m k.toInt p.toInt w
set_option maxRecDepth 100000 in
set_option maxHeartbeats 4000000 in
theorem ce_X9_add_v : sf_cE kq_X9_add_v Z_X9_add ke_X9_add_v := by
  intro t hp as H hl hj hpre
  match as, hl with
  | [v0, v1, v2, v3], _ =>
    obtain ⟨a0, rfl, ra0⟩ := bs_aR (hj 0 _ rfl)
    obtain rfl := ra0.eq H (p := 3) rfl
    obtain ⟨x1, rfl⟩ := bs_aI (hj 1 _ rfl)
    have rg1 := n_range x1
    obtain ⟨x2, rfl⟩ := bs_aI (hj 2 _ rfl)
    have rg2 := n_range x2
    obtain ⟨wa3, rfl⟩ := bs_aL (hj 3 _ rfl)
    clear hpre hj
    have F0 : sf_fr [(9, 3, 3), (124, 0, 900), (125, 0, 900), (126, 0, 0)] t hp t hp := sf_fr_rf
    refine bs_finx (E := ke_X9_add_v) (K := kq_X9_add_v) (L := L_X9_add) (nL := 5) (Nat.le_of_ble_eq_true rfl) ?_
    obtain ⟨Q, hQ⟩ : ∃ Q : ab_O → Prop, Q = (fun o => ∃ t', sf_h t' o.2 ∧ sf_fr (kq_X9_add_v).2.2.2.2 t hp t' o.2 ∧ sf_an t' o.2.1 (kq_X9_add_v).2.2.1 o.1 ∧ sf_S (sf_v1 o.1 [.ref 3, .int x1, .int x2, .long wa3] o.2) (kq_X9_add_v).2.2.2.1 ∧ ke_X9_add_v [.ref 3, .int x1, .int x2, .long wa3] hp o.1 o.2) := ⟨_, rfl⟩
    rw [← hQ]
    refine (show Ev (ab_T L_X9_add) 0 ([some (.ref 3), some (.int x1), some (.int x2), some (.long wa3), none], [], (0, 0), hp) Q from ?_)
    obtain ⟨m0, hm0, lm0, um0⟩ := bs_fld (k := 3) H (bs_R.uq H (g := 9) rfl) (by decide) rfl
    refine Ev.step (j := 1) (s' := ([some (.ref 3), some (.int x1), some (.int x2), some (.long wa3), none], [.ref 3], (0, 0), hp)) rfl rfl ?_
    exact by
     refine bs_getI 9 rfl rfl rfl H (bs_R.uq H (g := 9) rfl) (by decide) rfl fun z1 hz1 lz1 gz1 => ?_
     have e2 : z1.toInt = m0 := Option.some.inj (hz1.symm.trans hm0)
     refine bs_lit (k := 901) rfl rfl fun z3 hz3 => ?_
     refine bs_ge rfl (fun c4 => ?_) (fun c4 => ?_)
     · skip
       exact Ev.ret rfl rfl (by rw [hQ]; exact ⟨t, H, F0, bs_anU, sf_S_nil, (fun m k p w ha hm hle => by have eqP : m = m0 := Option.some.inj (hm.symm.trans hm0); subst eqP; exfalso; omega)⟩)
     · skip
       refine Ev.step (j := 11) (s' := ([some (.ref 3), some (.int x1), some (.int x2), some (.long wa3), none], [.ref 3], (0, 0), hp)) rfl rfl ?_
       refine bs_getU (g := 9) (g1 := 124) rfl rfl H (bs_R.uq H (g := 9) rfl) (by decide) rfl rfl ?_
       refine Ev.step (j := 15) (s' := ([some (.ref 3), some (.int x1), some (.int x2), some (.long wa3), none], [.ref 3, .ref 4], (0, 0), hp)) rfl rfl ?_
       refine bs_getI 9 rfl rfl rfl H (bs_R.uq H (g := 9) rfl) (by decide) rfl fun z5 hz5 lz5 gz5 => ?_
       have e6 : z5.toInt = m0 := Option.some.inj (hz5.symm.trans hm0)
       refine Ev.step (j := 19) (s' := ([some (.ref 3), some (.int x1), some (.int x2), some (.long wa3), none], [.int x1, .int z5, .ref 4], (0, 0), hp)) rfl rfl ?_
       exact by
        refine bs_stv (W := [(124, 0, 900)]) (g := 124) 0 900 (-2147483648, 2147483647) rfl H (bs_R.uq H (g := 124) rfl) (by decide) rfl rfl (by decide) rfl rfl (by omega) (by omega) (by dsimp only; omega) (by dsimp only; omega) fun hp7 Hhp7 fhp7 rhp7 ehp7 qhp7 nhp7 => ?_
        have Fhp7 := sf_fr_tr F0 (sf_fr_wider (W := [(9, 3, 3), (124, 0, 900), (125, 0, 900), (126, 0, 0)]) rfl fhp7)
        have h8 : sf_rd hp7 3 3 = some m0 := (ehp7 _ _ (Or.inl (by decide))).trans hm0
        refine Ev.step (j := 21) (s' := ([some (.ref 3), some (.int x1), some (.int x2), some (.long wa3), none], [.ref 3], (0, 0), hp7)) rfl rfl ?_
        refine bs_getU (g := 9) (g1 := 125) rfl rfl Hhp7 (bs_R.uq Hhp7 (g := 9) rfl) (by decide) rfl rfl ?_
        refine Ev.step (j := 25) (s' := ([some (.ref 3), some (.int x1), some (.int x2), some (.long wa3), none], [.ref 3, .ref 5], (0, 0), hp7)) rfl rfl ?_
        refine bs_getI 9 rfl rfl rfl Hhp7 (bs_R.uq Hhp7 (g := 9) rfl) (by decide) rfl fun z9 hz9 lz9 gz9 => ?_
        have e10 : z9.toInt = m0 := Option.some.inj (hz9.symm.trans h8)
        refine Ev.step (j := 29) (s' := ([some (.ref 3), some (.int x1), some (.int x2), some (.long wa3), none], [.int x2, .int z9, .ref 5], (0, 0), hp7)) rfl rfl ?_
        exact by
         refine bs_stv (W := [(125, 0, 900)]) (g := 125) 0 900 (-2147483648, 2147483647) rfl Hhp7 (bs_R.uq Hhp7 (g := 125) rfl) (by decide) rfl rfl (by decide) rfl rfl (by omega) (by omega) (by dsimp only; omega) (by dsimp only; omega) fun hp11 Hhp11 fhp11 rhp11 ehp11 qhp11 nhp11 => ?_
         have Fhp11 := sf_fr_tr Fhp7 (sf_fr_wider (W := [(9, 3, 3), (124, 0, 900), (125, 0, 900), (126, 0, 0)]) rfl fhp11)
         have h12 : sf_rd hp11 3 3 = some m0 := (ehp11 _ _ (Or.inl (by decide))).trans h8
         have h13 : sf_rd hp11 4 z5.toInt.toNat = some x1.toInt := (ehp11 _ _ (Or.inl (by decide))).trans rhp7
         refine Ev.step (j := 31) (s' := ([some (.ref 3), some (.int x1), some (.int x2), some (.long wa3), none], [.ref 3], (0, 0), hp11)) rfl rfl ?_
         refine bs_getU (g := 9) (g1 := 126) rfl rfl Hhp11 (bs_R.uq Hhp11 (g := 9) rfl) (by decide) rfl rfl ?_
         refine Ev.step (j := 35) (s' := ([some (.ref 3), some (.int x1), some (.int x2), some (.long wa3), none], [.ref 3, .ref 6], (0, 0), hp11)) rfl rfl ?_
         refine bs_getI 9 rfl rfl rfl Hhp11 (bs_R.uq Hhp11 (g := 9) rfl) (by decide) rfl fun z14 hz14 lz14 gz14 => ?_
         have e15 : z14.toInt = m0 := Option.some.inj (hz14.symm.trans h12)
         refine Ev.step (j := 39) (s' := ([some (.ref 3), some (.int x1), some (.int x2), some (.long wa3), none], [.long wa3, .int z14, .ref 6], (0, 0), hp11)) rfl rfl ?_
         exact by
          refine bs_lastv (W := [(126, 0, 0)]) (g := 126) rfl Hhp11 (bs_R.uq Hhp11 (g := 126) rfl) (by decide) rfl rfl (by omega) (by show _ < ((901 : Nat) : Int); omega) fun hp16 Hhp16 fhp16 mhp16 lhp16 ehp16 qhp16 => ?_
          have Fhp16 := sf_fr_tr Fhp11 (sf_fr_wider (W := [(9, 3, 3), (124, 0, 900), (125, 0, 900), (126, 0, 0)]) rfl fhp16)
          have h17 : sf_rd hp16 3 3 = some m0 := (ehp16 _ _).trans h12
          have h18 : sf_rd hp16 4 z5.toInt.toNat = some x1.toInt := (ehp16 _ _).trans h13
          have h19 : sf_rd hp16 5 z9.toInt.toNat = some x2.toInt := (ehp16 _ _).trans rhp11
          refine Ev.step (j := 41) (s' := ([some (.ref 3), some (.int x1), some (.int x2), some (.long wa3), none], [.ref 3], (0, 0), hp16)) rfl rfl ?_
          refine Ev.step (j := 42) (s' := ([some (.ref 3), some (.int x1), some (.int x2), some (.long wa3), none], [.ref 3, .ref 3], (0, 0), hp16)) rfl rfl ?_
          refine bs_getI 9 rfl rfl rfl Hhp16 (bs_R.uq Hhp16 (g := 9) rfl) (by decide) rfl fun z20 hz20 lz20 gz20 => ?_
          have e21 : z20.toInt = m0 := Option.some.inj (hz20.symm.trans h17)
          refine bs_lit (k := 1) rfl rfl fun z22 hz22 => ?_
          first | (refine bs_add rfl (by omega) (by omega) fun z23 hz23 => ?_) | (refine bs_any rfl fun z23 => ?_)
          have rz23 := n_range z23
          refine bs_putIv (W := [(9, 3, 3)]) (g := 9) rfl rfl Hhp16 (bs_R.uq Hhp16 (g := 9) rfl) (by decide) rfl rfl rfl rfl (Or.inl rfl) (by omega) (by omega) fun hp24 Hhp24 fhp24 rhp24 ehp24 qhp24 nhp24 => ?_
          have Fhp24 := sf_fr_tr Fhp16 (sf_fr_wider (W := [(9, 3, 3), (124, 0, 900), (125, 0, 900), (126, 0, 0)]) rfl fhp24)
          have h25 : sf_rd hp24 4 z5.toInt.toNat = some x1.toInt := (ehp24 _ _ (Or.inl (by decide))).trans h18
          have h26 : sf_rd hp24 5 z9.toInt.toNat = some x2.toInt := (ehp24 _ _ (Or.inl (by decide))).trans h19
          have h27 : sf_rl hp24 6 z14.toInt.toNat = some wa3 := (nhp24 _ _).trans mhp16
          exact Ev.ret rfl rfl (by rw [hQ]; exact ⟨t, Hhp24, Fhp24, bs_anU, sf_S_nil, (fun m k p w ha hm hle => by have eqP : m = m0 := Option.some.inj (hm.symm.trans hm0); subst eqP; cases ha; exact ⟨rhp24.trans (congrArg some (by omega)), bs_at h25 (by omega), bs_at h26 (by omega), bl_at h27 (by omega), fun q hq => ⟨((ehp24 _ _ (Or.inl (by decide))).trans ((ehp16 _ _).trans ((ehp11 _ _ (Or.inl (by decide))).trans (ehp7 _ _ (Or.inr (by omega)))))), ((ehp24 _ _ (Or.inl (by decide))).trans ((ehp16 _ _).trans ((ehp11 _ _ (Or.inr (by omega))).trans (ehp7 _ _ (Or.inl (by decide)))))), ((nhp24 _ _).trans ((lhp16 _ _ (Or.inr (by omega))).trans ((nhp11 _ _).trans (nhp7 _ _))))⟩⟩)⟩)
def kq_X8_isToldWord_v : sf_Q := ([(1, 8, 0), (0, 0, 0), (0, 0, 0), (0, 0, 0)], [(1, 3, 0, 0, 24, 0), (1, 6, 0, 0, 940, 0), (1, 9, 0, 0, 7, 0)], some (0, 0, 0), [(1, 0, 0, 0, 1, 0)], [])
def ke_X8_isToldWord_v : List Value → ab_H → Option Value → ab_H → Prop := fun as hp r _ => ∀ (k p l : Int32), as = [.ref 1, .int k, .int p, .int l] → ∃ z : Int32, r = some (.int z) ∧ (z.toInt = 1 → ∀ i, i < 7 → pc (bv hp 2 940) p.toInt.toNat l.toInt.toNat i = WT (7 * k.toInt.toNat + i)) ∧ ((∀ i, i < 7 → pc (bv hp 2 940) p.toInt.toNat l.toInt.toNat i = WT (7 * k.toInt.toNat + i)) → z.toInt = 1)
set_option maxRecDepth 100000 in
set_option maxHeartbeats 4000000 in
theorem ce_X8_isToldWord_v : sf_cE kq_X8_isToldWord_v Z_X8_isToldWord ke_X8_isToldWord_v := by
  intro t hp as H hl hj hpre
  match as, hl with
  | [v0, v1, v2, v3], _ =>
    obtain ⟨a0, rfl, ra0⟩ := bs_aR (hj 0 _ rfl)
    obtain rfl := ra0.eq H (p := 1) rfl
    obtain ⟨x1, rfl⟩ := bs_aI (hj 1 _ rfl)
    have rg1 := n_range x1
    obtain ⟨x2, rfl⟩ := bs_aI (hj 2 _ rfl)
    have rg2 := n_range x2
    obtain ⟨x3, rfl⟩ := bs_aI (hj 3 _ rfl)
    have rg3 := n_range x3
    obtain ⟨pl0, ph0⟩ := bs_s1 (x := x1.toInt) rfl (hpre _ (List.mem_of_getElem? (i := 0) rfl))
    obtain ⟨pl1, ph1⟩ := bs_s1 (x := x2.toInt) rfl (hpre _ (List.mem_of_getElem? (i := 1) rfl))
    obtain ⟨pl2, ph2⟩ := bs_s1 (x := x3.toInt) rfl (hpre _ (List.mem_of_getElem? (i := 2) rfl))
    clear hpre hj
    have F0 : sf_fr [] t hp t hp := sf_fr_rf
    refine bs_finx (E := ke_X8_isToldWord_v) (K := kq_X8_isToldWord_v) (L := (L_X8_isToldWord Z_J0_length_8abf5 Z_X8_valueAt Z_J0_charAt_5068e)) (nL := 7) (Nat.le_of_ble_eq_true rfl) ?_
    obtain ⟨Q, hQ⟩ : ∃ Q : ab_O → Prop, Q = (fun o => ∃ t', sf_h t' o.2 ∧ sf_fr (kq_X8_isToldWord_v).2.2.2.2 t hp t' o.2 ∧ sf_an t' o.2.1 (kq_X8_isToldWord_v).2.2.1 o.1 ∧ sf_S (sf_v1 o.1 [.ref 1, .int x1, .int x2, .int x3] o.2) (kq_X8_isToldWord_v).2.2.2.1 ∧ ke_X8_isToldWord_v [.ref 1, .int x1, .int x2, .int x3] hp o.1 o.2) := ⟨_, rfl⟩
    rw [← hQ]
    refine (show Ev (ab_T (L_X8_isToldWord Z_J0_length_8abf5 Z_X8_valueAt Z_J0_charAt_5068e)) 0 ([some (.ref 1), some (.int x1), some (.int x2), some (.int x3), none, none, none], [], (0, 0), hp) Q from ?_)
    obtain ⟨BB, hBB⟩ : ∃ BB : Nat → Int, BB = bv hp 2 940 := ⟨_, rfl⟩
    have EB : ∀ hp' : ab_H, (∀ q, sf_rd hp' 2 q = sf_rd hp 2 q) → bv hp' 2 940 = BB := fun hp' h => (bv_same h).trans hBB.symm
    have RB : ∀ q, 0 ≤ BB q ∧ BB q ≤ 255 := fun q => by rw [hBB]; exact bv_rng _ _ _ _
    refine Ev.step (j := 1) (s' := ([some (.ref 1), some (.int x1), some (.int x2), some (.int x3), none, none, none], [.int x1], (0, 0), hp)) rfl rfl ?_
    exact by
     refine bs_lit (k := 7) rfl rfl fun z1 hz1 => ?_
     refine bs_mul (7) rfl (Or.inr hz1) (by rw [hz1]; omega) (by rw [hz1]; omega) fun z2 hz2 => ?_
     rw [hz1] at hz2
     refine Ev.step (j := 6) (s' := ([some (.ref 1), some (.int x1), some (.int x2), some (.int x3), some (.int z2), none, none], [], (0, 0), hp)) rfl rfl ?_
     refine bs_lit (k := 0) rfl rfl fun z3 hz3 => ?_
     refine Ev.step (j := 9) (s' := ([some (.ref 1), some (.int x1), some (.int x2), some (.int x3), some (.int z2), some (.int z3), none], [], (0, 0), hp)) rfl rfl ?_
     refine bs_loop (ι := Int32 × (Option Value)) (fun ⟨k4, o5⟩ => ([some (.ref 1), some (.int x1), some (.int x2), some (.int x3), some (.int z2), some (.int k4), o5], [], (0, 0), hp)) (fun ⟨k4, o5⟩ => (0 ≤ k4.toInt ∧ k4.toInt ≤ 7) ∧ (∀ i : Nat, (i : Int) < k4.toInt → pc BB x2.toInt.toNat x3.toInt.toNat i = WT (7 * x1.toInt.toNat + i))) (fun ⟨k4, o5⟩ => (7 - k4.toInt).toNat) ?_ (z3, none) ⟨(by first | omega | assumption), (by first | exact INV | exact fun i h => absurd h (by omega))⟩
     rintro ⟨k4, o5⟩ ⟨i7, i8⟩ ih6
     refine (show Ev _ 9 ([some (.ref 1), some (.int x1), some (.int x2), some (.int x3), some (.int z2), some (.int k4), o5], [], (0, 0), hp) _ from ?_)
     exact by
      refine Ev.step (j := 11) (s' := ([some (.ref 1), some (.int x1), some (.int x2), some (.int x3), some (.int z2), some (.int k4), o5], [.int k4], (0, 0), hp)) rfl rfl ?_
      refine bs_lit (k := 7) rfl rfl fun z9 hz9 => ?_
      refine bs_ge rfl (fun c10 => ?_) (fun c10 => ?_)
      · skip
        refine bs_lit (k := 1) rfl rfl fun z11 hz11 => ?_
        exact bs_zret rfl rfl (by omega) (by omega) (by rw [hQ]; exact ⟨t, H, F0, bs_an0, sf_S_cons (sf_s1 (x := z11.toInt) rfl (by omega) (by omega)) (sf_S_nil), (fun k p l ha => by cases ha; exact ⟨z11, rfl, fun _ i hi => by rw [← hBB]; exact i8 i (by omega), fun _ => by omega⟩)⟩)
      · skip
        refine Ev.step (j := 18) (s' := ([some (.ref 1), some (.int x1), some (.int x2), some (.int x3), some (.int z2), some (.int k4), o5], [.int z2], (0, 0), hp)) rfl rfl ?_
        refine Ev.step (j := 20) (s' := ([some (.ref 1), some (.int x1), some (.int x2), some (.int x3), some (.int z2), some (.int k4), o5], [.int k4, .int z2], (0, 0), hp)) rfl rfl ?_
        first | (refine bs_add rfl (by omega) (by omega) fun z12 hz12 => ?_) | (refine bs_any rfl fun z12 => ?_)
        have rz12 := n_range z12
        refine Ev.step (j := 23) (s' := ([some (.ref 1), some (.int x1), some (.int x2), some (.int x3), some (.int z2), some (.int k4), o5], [.retAddr 4, .int z12], (0, 0), hp)) rfl rfl ?_
        exact by
         refine Ev.callR (o := (some (.int 175), hp)) rfl rfl rfl (x_length hp) ?_
         obtain ⟨z13, qz13⟩ : ∃ z : Int32, z = 175 := ⟨_, rfl⟩
         have hz13 : z13.toInt = 175 := by rw [qz13]; rfl
         refine (show Ev _ 26 ([some (.ref 1), some (.int x1), some (.int x2), some (.int x3), some (.int z2), some (.int k4), o5], [.int 175, .int z12], (0, 0), hp) _ from ?_)
         rw [← qz13]
         refine (show Ev _ 26 ([some (.ref 1), some (.int x1), some (.int x2), some (.int x3), some (.int z2), some (.int k4), o5], [.int z13, .int z12], (0, 0), hp) _ from ?_)
         refine bs_ge rfl (fun c14 => ?_) (fun c14 => ?_)
         · skip
           refine bs_lit (k := 1) rfl rfl fun z15 hz15 => ?_
           exact bs_zret rfl rfl (by omega) (by omega) (by rw [hQ]; exact ⟨t, H, F0, bs_an0, sf_S_cons (sf_s1 (x := z15.toInt) rfl (by omega) (by omega)) (sf_S_nil), (fun k p l ha => by cases ha; exact ⟨z15, rfl, fun _ i hi => by rw [← hBB]; exact i8 i (by omega), fun _ => by omega⟩)⟩)
         · skip
           refine Ev.step (j := 31) (s' := ([some (.ref 1), some (.int x1), some (.int x2), some (.int x3), some (.int z2), some (.int k4), o5], [.int k4], (0, 0), hp)) rfl rfl ?_
           exact by
            refine Ev.step (j := 32) (s' := ([some (.ref 1), some (.int x1), some (.int x2), some (.int x3), some (.int z2), some (.int k4), o5], [.int x3, .int k4], (0, 0), hp)) rfl rfl ?_
            refine bs_ge rfl (fun c16 => ?_) (fun c16 => ?_)
            · skip
              refine bs_lit (k := 32) rfl rfl fun z17 hz17 => ?_
              refine Ev.step (j := 50) (s' := ([some (.ref 1), some (.int x1), some (.int x2), some (.int x3), some (.int z2), some (.int k4), some (.int z17)], [], (0, 0), hp)) rfl rfl ?_
              have PC : pc BB x2.toInt.toNat x3.toInt.toNat k4.toInt.toNat = z17.toInt := by unfold pc; rw [if_neg (by omega)]; omega
              refine Ev.step (j := 52) (s' := ([some (.ref 1), some (.int x1), some (.int x2), some (.int x3), some (.int z2), some (.int k4), some (.int z17)], [.int z17], (0, 0), hp)) rfl rfl ?_
              refine Ev.step (j := 54) (s' := ([some (.ref 1), some (.int x1), some (.int x2), some (.int x3), some (.int z2), some (.int k4), some (.int z17)], [.retAddr 4, .int z17], (0, 0), hp)) rfl rfl ?_
              refine Ev.step (j := 56) (s' := ([some (.ref 1), some (.int x1), some (.int x2), some (.int x3), some (.int z2), some (.int k4), some (.int z17)], [.int z2, .retAddr 4, .int z17], (0, 0), hp)) rfl rfl ?_
              exact by
               refine Ev.step (j := 58) (s' := ([some (.ref 1), some (.int x1), some (.int x2), some (.int x3), some (.int z2), some (.int k4), some (.int z17)], [.int k4, .int z2, .retAddr 4, .int z17], (0, 0), hp)) rfl rfl ?_
               first | (refine bs_add rfl (by omega) (by omega) fun z18 hz18 => ?_) | (refine bs_any rfl fun z18 => ?_)
               have rz18 := n_range z18
               obtain ⟨z19, jz19, wz19⟩ := x_charv hp (x := z18) (by omega) (by omega)
               refine Ev.callR (o := (some (.int z19), hp)) rfl rfl rfl jz19 ?_
               refine (show Ev _ 62 ([some (.ref 1), some (.int x1), some (.int x2), some (.int x3), some (.int z2), some (.int k4), some (.int z17)], [.int z19, .int z17], (0, 0), hp) _ from ?_)
               have WC : WT (7 * x1.toInt.toNat + k4.toInt.toNat) = z19.toInt := by rw [wz19]; congr 1; omega
               refine bs_eq rfl (fun c20 => ?_) (fun c20 => ?_)
               · skip
                 refine bs_iinc (1) rfl rfl rfl rfl (by omega) (by omega) fun z21 hz21 => ?_
                 exact by
                  refine (show Ev _ 70 ([some (.ref 1), some (.int x1), some (.int x2), some (.int x3), some (.int z2), some (.int z21), some (.int z17)], [], (0, 0), hp) _ from ?_)
                  refine Ev.step (j := 9) (s' := ([some (.ref 1), some (.int x1), some (.int x2), some (.int x3), some (.int z2), some (.int z21), some (.int z17)], [], (0, 0), hp)) rfl rfl ?_
                  have INV : ∀ i : Nat, (i : Int) < z21.toInt → pc BB x2.toInt.toNat x3.toInt.toNat i = WT (7 * x1.toInt.toNat + i) := by
                    intro i hi
                    rcases (show (i : Int) < k4.toInt ∨ i = k4.toInt.toNat by omega) with h | h
                    · exact i8 i h
                    · rw [h, PC, WC]; omega
                  refine ih6 (z21, (some (.int z17))) ⟨(by first | omega | assumption), (by first | exact INV | exact fun i h => absurd h (by omega))⟩ ?_
                  show (7 - z21.toInt).toNat < (7 - k4.toInt).toNat
                  omega
               · skip
                 refine bs_lit (k := 0) rfl rfl fun z22 hz22 => ?_
                 exact bs_zret rfl rfl (by omega) (by omega) (by rw [hQ]; exact ⟨t, H, F0, bs_an0, sf_S_cons (sf_s1 (x := z22.toInt) rfl (by omega) (by omega)) (sf_S_nil), (fun k p l ha => by cases ha; exact ⟨z22, rfl, fun h => absurd h (by omega), fun h => absurd (h k4.toInt.toNat (by omega)) (by rw [← hBB, PC, WC]; omega)⟩)⟩)
            · skip
              refine Ev.step (j := 36) (s' := ([some (.ref 1), some (.int x1), some (.int x2), some (.int x3), some (.int z2), some (.int k4), o5], [.ref 1], (0, 0), hp)) rfl rfl ?_
              exact by
               refine Ev.step (j := 37) (s' := ([some (.ref 1), some (.int x1), some (.int x2), some (.int x3), some (.int z2), some (.int k4), o5], [.int x2, .ref 1], (0, 0), hp)) rfl rfl ?_
               refine Ev.step (j := 39) (s' := ([some (.ref 1), some (.int x1), some (.int x2), some (.int x3), some (.int z2), some (.int k4), o5], [.int k4, .int x2, .ref 1], (0, 0), hp)) rfl rfl ?_
               first | (refine bs_add rfl (by omega) (by omega) fun z23 hz23 => ?_) | (refine bs_any rfl fun z23 => ?_)
               have rz23 := n_range z23
               refine va_ev rfl H (by omega) rfl fun z24 vz24 lz24 gz24 => ?_
               refine (show Ev _ 43 ([some (.ref 1), some (.int x1), some (.int x2), some (.int x3), some (.int z2), some (.int k4), o5], [.int z24], (0, 0), hp) _ from ?_)
               have bz24 : BB z23.toInt.toNat = z24.toInt := ((vz24).trans (congrFun (EB _ (fun _ => rfl)) _)).symm
               refine Ev.step (j := 48) (s' := ([some (.ref 1), some (.int x1), some (.int x2), some (.int x3), some (.int z2), some (.int k4), o5], [.int z24], (0, 0), hp)) rfl rfl ?_
               exact by
                refine Ev.step (j := 50) (s' := ([some (.ref 1), some (.int x1), some (.int x2), some (.int x3), some (.int z2), some (.int k4), some (.int z24)], [], (0, 0), hp)) rfl rfl ?_
                have PC : pc BB x2.toInt.toNat x3.toInt.toNat k4.toInt.toNat = z24.toInt := by unfold pc; rw [if_pos (by omega), ← bz24]; congr 1; omega
                refine Ev.step (j := 52) (s' := ([some (.ref 1), some (.int x1), some (.int x2), some (.int x3), some (.int z2), some (.int k4), some (.int z24)], [.int z24], (0, 0), hp)) rfl rfl ?_
                refine Ev.step (j := 54) (s' := ([some (.ref 1), some (.int x1), some (.int x2), some (.int x3), some (.int z2), some (.int k4), some (.int z24)], [.retAddr 4, .int z24], (0, 0), hp)) rfl rfl ?_
                refine Ev.step (j := 56) (s' := ([some (.ref 1), some (.int x1), some (.int x2), some (.int x3), some (.int z2), some (.int k4), some (.int z24)], [.int z2, .retAddr 4, .int z24], (0, 0), hp)) rfl rfl ?_
                refine Ev.step (j := 58) (s' := ([some (.ref 1), some (.int x1), some (.int x2), some (.int x3), some (.int z2), some (.int k4), some (.int z24)], [.int k4, .int z2, .retAddr 4, .int z24], (0, 0), hp)) rfl rfl ?_
                first | (refine bs_add rfl (by omega) (by omega) fun z25 hz25 => ?_) | (refine bs_any rfl fun z25 => ?_)
                have rz25 := n_range z25
                obtain ⟨z26, jz26, wz26⟩ := x_charv hp (x := z25) (by omega) (by omega)
                refine Ev.callR (o := (some (.int z26), hp)) rfl rfl rfl jz26 ?_
                exact by
                 refine (show Ev _ 62 ([some (.ref 1), some (.int x1), some (.int x2), some (.int x3), some (.int z2), some (.int k4), some (.int z24)], [.int z26, .int z24], (0, 0), hp) _ from ?_)
                 have WC : WT (7 * x1.toInt.toNat + k4.toInt.toNat) = z26.toInt := by rw [wz26]; congr 1; omega
                 refine bs_eq rfl (fun c27 => ?_) (fun c27 => ?_)
                 · skip
                   refine bs_iinc (1) rfl rfl rfl rfl (by omega) (by omega) fun z28 hz28 => ?_
                   refine (show Ev _ 70 ([some (.ref 1), some (.int x1), some (.int x2), some (.int x3), some (.int z2), some (.int z28), some (.int z24)], [], (0, 0), hp) _ from ?_)
                   refine Ev.step (j := 9) (s' := ([some (.ref 1), some (.int x1), some (.int x2), some (.int x3), some (.int z2), some (.int z28), some (.int z24)], [], (0, 0), hp)) rfl rfl ?_
                   have INV : ∀ i : Nat, (i : Int) < z28.toInt → pc BB x2.toInt.toNat x3.toInt.toNat i = WT (7 * x1.toInt.toNat + i) := by
                     intro i hi
                     rcases (show (i : Int) < k4.toInt ∨ i = k4.toInt.toNat by omega) with h | h
                     · exact i8 i h
                     · rw [h, PC, WC]; omega
                   refine ih6 (z28, (some (.int z24))) ⟨(by first | omega | assumption), (by first | exact INV | exact fun i h => absurd h (by omega))⟩ ?_
                   show (7 - z28.toInt).toNat < (7 - k4.toInt).toNat
                   omega
                 · skip
                   refine bs_lit (k := 0) rfl rfl fun z29 hz29 => ?_
                   exact bs_zret rfl rfl (by omega) (by omega) (by rw [hQ]; exact ⟨t, H, F0, bs_an0, sf_S_cons (sf_s1 (x := z29.toInt) rfl (by omega) (by omega)) (sf_S_nil), (fun k p l ha => by cases ha; exact ⟨z29, rfl, fun h => absurd h (by omega), fun h => absurd (h k4.toInt.toNat (by omega)) (by rw [← hBB, PC, WC]; omega)⟩)⟩)
def kq_X8_kindOfWord_v : sf_Q := ([(1, 8, 0), (0, 0, 0), (0, 0, 0)], [(1, 3, 0, 0, 940, 0), (1, 6, 0, 0, 7, 0)], some (0, 0, 0), [(1, 0, 0, 2, 88, 0)], [])
def ke_X8_kindOfWord_v : List Value → ab_H → Option Value → ab_H → Prop := fun as hp r _ => ∀ (p l : Int32), as = [.ref 1, .int p, .int l] → ∃ z : Int32, r = some (.int z) ∧ z.toInt = kw (pv (bv hp 2 940) p.toInt.toNat l.toInt.toNat)
set_option maxRecDepth 100000 in
set_option maxHeartbeats 4000000 in
theorem ce_X8_kindOfWord_v : sf_cE kq_X8_kindOfWord_v Z_X8_kindOfWord ke_X8_kindOfWord_v := by
  intro t hp as H hl hj hpre
  match as, hl with
  | [v0, v1, v2], _ =>
    obtain ⟨a0, rfl, ra0⟩ := bs_aR (hj 0 _ rfl)
    obtain rfl := ra0.eq H (p := 1) rfl
    obtain ⟨x1, rfl⟩ := bs_aI (hj 1 _ rfl)
    have rg1 := n_range x1
    obtain ⟨x2, rfl⟩ := bs_aI (hj 2 _ rfl)
    have rg2 := n_range x2
    obtain ⟨pl0, ph0⟩ := bs_s1 (x := x1.toInt) rfl (hpre _ (List.mem_of_getElem? (i := 0) rfl))
    obtain ⟨pl1, ph1⟩ := bs_s1 (x := x2.toInt) rfl (hpre _ (List.mem_of_getElem? (i := 1) rfl))
    clear hpre hj
    have F0 : sf_fr [] t hp t hp := sf_fr_rf
    refine bs_finx (E := ke_X8_kindOfWord_v) (K := kq_X8_kindOfWord_v) (L := (L_X8_kindOfWord Z_X8_isToldWord)) (nL := 4) (Nat.le_of_ble_eq_true rfl) ?_
    obtain ⟨Q, hQ⟩ : ∃ Q : ab_O → Prop, Q = (fun o => ∃ t', sf_h t' o.2 ∧ sf_fr (kq_X8_kindOfWord_v).2.2.2.2 t hp t' o.2 ∧ sf_an t' o.2.1 (kq_X8_kindOfWord_v).2.2.1 o.1 ∧ sf_S (sf_v1 o.1 [.ref 1, .int x1, .int x2] o.2) (kq_X8_kindOfWord_v).2.2.2.1 ∧ ke_X8_kindOfWord_v [.ref 1, .int x1, .int x2] hp o.1 o.2) := ⟨_, rfl⟩
    rw [← hQ]
    refine (show Ev (ab_T (L_X8_kindOfWord Z_X8_isToldWord)) 0 ([some (.ref 1), some (.int x1), some (.int x2), none], [], (0, 0), hp) Q from ?_)
    obtain ⟨BB, hBB⟩ : ∃ BB : Nat → Int, BB = bv hp 2 940 := ⟨_, rfl⟩
    have EB : ∀ hp' : ab_H, (∀ q, sf_rd hp' 2 q = sf_rd hp 2 q) → bv hp' 2 940 = BB := fun hp' h => (bv_same h).trans hBB.symm
    have RB : ∀ q, 0 ≤ BB q ∧ BB q ≤ 255 := fun q => by rw [hBB]; exact bv_rng _ _ _ _
    refine bs_lit (k := 0) rfl rfl fun z1 hz1 => ?_
    exact by
     refine Ev.step (j := 2) (s' := ([some (.ref 1), some (.int x1), some (.int x2), some (.int z1)], [], (0, 0), hp)) rfl rfl ?_
     refine bs_loop (ι := Int32 × ab_H × (Nat → Nat)) (fun ⟨k2, hp3, t4⟩ => ([some (.ref 1), some (.int x1), some (.int x2), some (.int k2)], [], (0, 0), hp3)) (fun ⟨k2, hp3, t4⟩ => (sf_h t4 hp3) ∧ (sf_fr [] t hp t4 hp3) ∧ (0 ≤ k2.toInt ∧ k2.toInt ≤ 25) ∧ (kwf (pv BB x1.toInt.toNat x2.toInt.toNat) (25 - k2.toInt.toNat) k2.toInt.toNat = kwf (pv BB x1.toInt.toNat x2.toInt.toNat) 25 0) ∧ (∀ q, sf_rd hp3 2 q = sf_rd hp 2 q)) (fun ⟨k2, hp3, t4⟩ => (25 - k2.toInt).toNat) ?_ (z1, hp, t) ⟨H, F0, (by first | omega | assumption), (by first | exact INV | (rw [show 25 - z1.toInt.toNat = 25 by omega, show z1.toInt.toNat = 0 by omega])), (by first | exact SB | exact fun _ => rfl)⟩
     rintro ⟨k2, hp3, t4⟩ ⟨Hhp3, Fhp3, i6, i7, i8⟩ ih5
     refine (show Ev _ 2 ([some (.ref 1), some (.int x1), some (.int x2), some (.int k2)], [], (0, 0), hp3) _ from ?_)
     refine Ev.step (j := 3) (s' := ([some (.ref 1), some (.int x1), some (.int x2), some (.int k2)], [.int k2], (0, 0), hp3)) rfl rfl ?_
     refine bs_lit (k := 25) rfl rfl fun z9 hz9 => ?_
     refine bs_ge rfl (fun c10 => ?_) (fun c10 => ?_)
     · skip
       refine bs_lit (k := 2) rfl rfl fun z11 hz11 => ?_
       exact Ev.ret rfl rfl (by rw [hQ]; exact ⟨t4, Hhp3, Fhp3, bs_an0, sf_S_cons (sf_s1 (x := z11.toInt) rfl (by omega) (by omega)) (sf_S_nil), (fun p l ha => by cases ha; refine ⟨z11, rfl, ?_⟩; rw [← hBB]; have h1 := i7; rw [show 25 - k2.toInt.toNat = 0 by omega] at h1; show _ = kwf _ 25 0; rw [← h1]; show z11.toInt = 2; omega)⟩)
     · skip
       refine Ev.step (j := 9) (s' := ([some (.ref 1), some (.int x1), some (.int x2), some (.int k2)], [.ref 1], (0, 0), hp3)) rfl rfl ?_
       exact by
        refine Ev.step (j := 10) (s' := ([some (.ref 1), some (.int x1), some (.int x2), some (.int k2)], [.int k2, .ref 1], (0, 0), hp3)) rfl rfl ?_
        refine Ev.step (j := 11) (s' := ([some (.ref 1), some (.int x1), some (.int x2), some (.int k2)], [.int x1, .int k2, .ref 1], (0, 0), hp3)) rfl rfl ?_
        refine Ev.step (j := 12) (s' := ([some (.ref 1), some (.int x1), some (.int x2), some (.int k2)], [.int x2, .int x1, .int k2, .ref 1], (0, 0), hp3)) rfl rfl ?_
        refine bs_callx (K := kq_X8_isToldWord_v) [.ref 1, .int k2, .int x1, .int x2] [] rfl ce_X8_isToldWord_v Hhp3 rfl rfl rfl (bs_rcv (g := 8) Hhp3 (bs_R.uq Hhp3 (g := 8) rfl) (by decide) rfl) rfl ?_ (sf_S_cons (sf_s1 (x := k2.toInt) rfl (by omega) (by omega)) (sf_S_cons (sf_s1 (x := x1.toInt) rfl (by omega) (by omega)) (sf_S_cons (sf_s1 (x := x2.toInt) rfl (by omega) (by omega)) (sf_S_nil)))) fun r12 hp13 thp13 Hhp13 fhp13 ahp13 php13 xhp13 => ?_
        · intro q k h
          match q, h with
          | 0, h => cases h; exact bs_jR (bs_R.uq Hhp3 (g := 8) rfl)
          | 1, h => cases h; exact sf_j0
          | 2, h => cases h; exact sf_j0
          | 3, h => cases h; exact sf_j0
          | q + 4, h => cases h
        obtain ⟨z14, rfl⟩ := bs_anI ahp13
        have rgz14 := n_range z14
        have Fhp13 := sf_fr_tr Fhp3 (sf_fr_wider (W := []) rfl fhp13)
        obtain ⟨uz14, vz14⟩ := bs_s1 (x := z14.toInt) rfl (php13 _ (List.mem_of_getElem? (i := 0) rfl))
        refine (show Ev _ 15 ([some (.ref 1), some (.int x1), some (.int x2), some (.int k2)], [.int z14], (0, 0), hp13) _ from ?_)
        obtain ⟨z9, rz9, xa, xb⟩ := xhp13 _ _ _ rfl
        obtain rfl := Value.int.inj (Option.some.inj rz9)
        rw [EB _ i8] at xa xb
        have PW : pv BB x1.toInt.toNat x2.toInt.toNat = rwp.getD k2.toInt.toNat 0 ↔ z14.toInt = 1 := (pv_word RB (by omega)).trans ⟨xb, xa⟩
        refine bs_ifeq rfl (fun c15 => ?_) (fun c15 => ?_)
        · skip
          have c16 : z14.toInt = 0 := by omega
          refine bs_iinc (1) rfl rfl rfl rfl (by omega) (by omega) fun z17 hz17 => ?_
          exact by
           refine (show Ev _ 26 ([some (.ref 1), some (.int x1), some (.int x2), some (.int z17)], [], (0, 0), hp13) _ from ?_)
           refine Ev.step (j := 2) (s' := ([some (.ref 1), some (.int x1), some (.int x2), some (.int z17)], [], (0, 0), hp13)) rfl rfl ?_
           have SB : ∀ q, sf_rd hp13 2 q = sf_rd hp 2 q := (fun q => Fhp13.2.2.1 _ (bs_R.uq H (g := 123) (p := 2) rfl).1 _ (by rw [(bs_R.uq H (g := 123) (p := 2) rfl).2]; rfl))
           have INV : kwf (pv BB x1.toInt.toNat x2.toInt.toNat) (25 - z17.toInt.toNat) z17.toInt.toNat = kwf (pv BB x1.toInt.toNat x2.toInt.toNat) 25 0 := by
             have h1 := i7
             rw [show 25 - k2.toInt.toNat = (24 - k2.toInt.toNat) + 1 by omega, kwf_skip (fun e => absurd (PW.mp e) (by omega))] at h1
             rw [show 25 - z17.toInt.toNat = 24 - k2.toInt.toNat by omega, show z17.toInt.toNat = k2.toInt.toNat + 1 by omega]
             exact h1
           refine ih5 (z17, hp13, thp13) ⟨Hhp13, Fhp13, (by first | omega | assumption), (by first | exact INV | (rw [show 25 - z17.toInt.toNat = 25 by omega, show z17.toInt.toNat = 0 by omega])), (by first | exact SB | exact fun _ => rfl)⟩ ?_
           show (25 - z17.toInt).toNat < (25 - k2.toInt).toNat
           omega
        · skip
          refine bs_lit (k := 64) rfl rfl fun z18 hz18 => ?_
          exact by
           refine Ev.step (j := 21) (s' := ([some (.ref 1), some (.int x1), some (.int x2), some (.int k2)], [.int k2, .int z18], (0, 0), hp13)) rfl rfl ?_
           first | (refine bs_add rfl (by omega) (by omega) fun z19 hz19 => ?_) | (refine bs_any rfl fun z19 => ?_)
           have rz19 := n_range z19
           exact Ev.ret rfl rfl (by rw [hQ]; exact ⟨thp13, Hhp13, Fhp13, bs_an0, sf_S_cons (sf_s1 (x := z19.toInt) rfl (by omega) (by omega)) (sf_S_nil), (fun p l ha => by cases ha; refine ⟨z19, rfl, ?_⟩; rw [← hBB]; have h1 := i7; rw [show 25 - k2.toInt.toNat = (24 - k2.toInt.toNat) + 1 by omega, kwf_hit (PW.mpr (by omega))] at h1; show _ = kwf _ 25 0; rw [← h1]; omega)⟩)
def kq_X8_cutRun_v : sf_Q := ([(1, 8, 0), (1, 9, 0)], [], some (0, 0, 0), [(1, 0, 0, 1, 88, 0)], [(8, 2, 2), (9, 3, 3), (124, 0, 900), (125, 0, 900), (126, 0, 0)])
def ke_X8_cutRun_v : List Value → ab_H → Option Value → ab_H → Prop := fun _ hp r hp' => ∀ p n m : Int, sf_rd hp 1 2 = some p → sf_rd hp 1 1 = some n → sf_rd hp 3 3 = some m → m ≤ 900 → ∃ z : Int32, r = some (.int z) ∧ z.toInt = (trn (bv hp 2 n.toNat) p.toNat (tk_e tk_r (bv hp 2 n.toNat) n.toNat p.toNat - p.toNat)).k ∧ sf_rd hp' 1 2 = some ((trn (bv hp 2 n.toNat) p.toNat (tk_e tk_r (bv hp 2 n.toNat) n.toNat p.toNat - p.toNat)).nx : Int) ∧ ADT hp hp' m (trn (bv hp 2 n.toNat) p.toNat (tk_e tk_r (bv hp 2 n.toNat) n.toNat p.toNat - p.toNat))
set_option maxRecDepth 100000 in
set_option maxHeartbeats 4000000 in
theorem ce_X8_cutRun_v : sf_cE kq_X8_cutRun_v Z_X8_cutRun ke_X8_cutRun_v := by
  intro t hp as H hl hj hpre
  match as, hl with
  | [v0, v1], _ =>
    obtain ⟨a0, rfl, ra0⟩ := bs_aR (hj 0 _ rfl)
    obtain rfl := ra0.eq H (p := 1) rfl
    obtain ⟨a1, rfl, ra1⟩ := bs_aR (hj 1 _ rfl)
    obtain rfl := ra1.eq H (p := 3) rfl
    clear hpre hj
    have F0 : sf_fr [(8, 2, 2), (9, 3, 3), (124, 0, 900), (125, 0, 900), (126, 0, 0)] t hp t hp := sf_fr_rf
    refine bs_finx (E := ke_X8_cutRun_v) (K := kq_X8_cutRun_v) (L := (L_X8_cutRun Z_X8_valueAt Z_X8_isLetter Z_X8_isDigit Z_X8_kindOfWord Z_X9_add)) (nL := 9) (Nat.le_of_ble_eq_true rfl) ?_
    obtain ⟨Q, hQ⟩ : ∃ Q : ab_O → Prop, Q = (fun o => ∃ t', sf_h t' o.2 ∧ sf_fr (kq_X8_cutRun_v).2.2.2.2 t hp t' o.2 ∧ sf_an t' o.2.1 (kq_X8_cutRun_v).2.2.1 o.1 ∧ sf_S (sf_v1 o.1 [.ref 1, .ref 3] o.2) (kq_X8_cutRun_v).2.2.2.1 ∧ ke_X8_cutRun_v [.ref 1, .ref 3] hp o.1 o.2) := ⟨_, rfl⟩
    rw [← hQ]
    refine (show Ev (ab_T (L_X8_cutRun Z_X8_valueAt Z_X8_isLetter Z_X8_isDigit Z_X8_kindOfWord Z_X9_add)) 0 ([some (.ref 1), some (.ref 3), none, none, none, none, none, none, none], [], (0, 0), hp) Q from ?_)
    obtain ⟨p0, hp0, lp0, up0⟩ := bs_fld (k := 2) H (bs_R.uq H (g := 8) rfl) (by decide) rfl
    obtain ⟨n0, hn0, ln0, un0⟩ := bs_fld (k := 1) H (bs_R.uq H (g := 8) rfl) (by decide) rfl
    obtain ⟨BB, hBB⟩ : ∃ BB : Nat → Int, BB = bv hp 2 n0.toNat := ⟨_, rfl⟩
    have EB : ∀ hp' : ab_H, (∀ q, sf_rd hp' 2 q = sf_rd hp 2 q) → bv hp' 2 n0.toNat = BB := fun hp' h => (bv_same h).trans hBB.symm
    have RB : ∀ q, 0 ≤ BB q ∧ BB q ≤ 255 := fun q => by rw [hBB]; exact bv_rng _ _ _ _
    refine Ev.step (j := 1) (s' := ([some (.ref 1), some (.ref 3), none, none, none, none, none, none, none], [.ref 1], (0, 0), hp)) rfl rfl ?_
    exact by
     refine bs_getI 8 rfl rfl rfl H (bs_R.uq H (g := 8) rfl) (by decide) rfl fun z1 hz1 lz1 gz1 => ?_
     have e2 : z1.toInt = p0 := Option.some.inj (hz1.symm.trans hp0)
     refine Ev.step (j := 5) (s' := ([some (.ref 1), some (.ref 3), some (.int z1), none, none, none, none, none, none], [], (0, 0), hp)) rfl rfl ?_
     refine bs_lit (k := 0) rfl rfl fun z3 hz3 => ?_
     refine Ev.step (j := 7) (s' := ([some (.ref 1), some (.ref 3), some (.int z1), some (.int z3), none, none, none, none, none], [], (0, 0), hp)) rfl rfl ?_
     refine bs_lit (k := 0) rfl rfl fun z4 hz4 => ?_
     refine Ev.step (j := 10) (s' := ([some (.ref 1), some (.ref 3), some (.int z1), some (.int z3), some (.int z4), none, none, none, none], [], (0, 0), hp)) rfl rfl ?_
     refine Ev.step (j := 11) (s' := ([some (.ref 1), some (.ref 3), some (.int z1), some (.int z3), some (.int z4), none, none, none, none], [.long (0 : Int64)], (0, 0), hp)) rfl rfl ?_
     exact by
      refine Ev.step (j := 13) (s' := ([some (.ref 1), some (.ref 3), some (.int z1), some (.int z3), some (.int z4), some (.long (0 : Int64)), none, none, none], [], (0, 0), hp)) rfl rfl ?_
      refine bs_lit (k := 0) rfl rfl fun z5 hz5 => ?_
      refine Ev.step (j := 16) (s' := ([some (.ref 1), some (.ref 3), some (.int z1), some (.int z3), some (.int z4), some (.long (0 : Int64)), none, some (.int z5), none], [], (0, 0), hp)) rfl rfl ?_
      have EM : (p0 - p0).toNat = 0 := by omega
      have INV : ∃ v : Int, sf_rd hp 1 2 = some v ∧ p0 ≤ v ∧ v ≤ 940 ∧ (v = p0 ∨ v ≤ n0) ∧ tk_e tk_r BB n0.toNat v.toNat = tk_e tk_r BB n0.toNat p0.toNat ∧ z3.toInt + z4.toInt = v - p0 ∧ 0 ≤ z3.toInt ∧ 0 ≤ z4.toInt ∧ (z4.toInt = 0 ↔ allP tk_l BB p0.toNat (v - p0).toNat = true) ∧ (z3.toInt = 0 ↔ allP tk_d BB p0.toNat (v - p0).toNat = true) ∧ (z4.toInt = 0 → z3.toInt ≤ 7 → (0 : Int64).toInt = w32 BB p0.toNat (v - p0).toNat) ∧ (z3.toInt = 0 → z4.toInt ≤ 3 → z5.toInt = nb BB p0.toNat (v - p0).toNat) ∧ 0 ≤ z5.toInt ∧ z5.toInt ≤ 999 ∧ (z4.toInt = 0 → z5.toInt = 0) ∧ (z4.toInt ≤ 1 → z5.toInt ≤ 9) ∧ (z4.toInt ≤ 2 → z5.toInt ≤ 99) := ⟨p0, hp0, by omega, by omega, by omega, rfl, by omega, by omega, by omega, by rw [EM]; exact ⟨fun _ => rfl, fun _ => by omega⟩, by rw [EM]; exact ⟨fun _ => rfl, fun _ => by omega⟩, by rw [EM]; intro _ _; rfl, by rw [EM]; intro _ _; show _ = (0 : Int); omega, by omega, by omega, by omega, by omega, by omega⟩
      refine bs_loop (ι := Int32 × Int32 × Int32 × Int64 × (Option Value) × ab_H × (Nat → Nat)) (fun ⟨k6, k7, k8, w12, o11, hp9, t10⟩ => ([some (.ref 1), some (.ref 3), some (.int z1), some (.int k6), some (.int k7), some (.long w12), none, some (.int k8), o11], [], (0, 0), hp9)) (fun ⟨k6, k7, k8, w12, o11, hp9, t10⟩ => (sf_h t10 hp9) ∧ (sf_fr [(8, 2, 2), (9, 3, 3), (124, 0, 900), (125, 0, 900), (126, 0, 0)] t hp t10 hp9) ∧ (sf_rd hp9 1 1 = some n0) ∧ (∃ v : Int, sf_rd hp9 1 2 = some v ∧ p0 ≤ v ∧ v ≤ 940 ∧ (v = p0 ∨ v ≤ n0) ∧ tk_e tk_r BB n0.toNat v.toNat = tk_e tk_r BB n0.toNat p0.toNat ∧ k6.toInt + k7.toInt = v - p0 ∧ 0 ≤ k6.toInt ∧ 0 ≤ k7.toInt ∧ (k7.toInt = 0 ↔ allP tk_l BB p0.toNat (v - p0).toNat = true) ∧ (k6.toInt = 0 ↔ allP tk_d BB p0.toNat (v - p0).toNat = true) ∧ (k7.toInt = 0 → k6.toInt ≤ 7 → w12.toInt = w32 BB p0.toNat (v - p0).toNat) ∧ (k6.toInt = 0 → k7.toInt ≤ 3 → k8.toInt = nb BB p0.toNat (v - p0).toNat) ∧ 0 ≤ k8.toInt ∧ k8.toInt ≤ 999 ∧ (k7.toInt = 0 → k8.toInt = 0) ∧ (k7.toInt ≤ 1 → k8.toInt ≤ 9) ∧ (k7.toInt ≤ 2 → k8.toInt ≤ 99)) ∧ (TU hp hp9)) (fun ⟨k6, k7, k8, w12, o11, hp9, t10⟩ => (940 - (sf_rd hp9 1 2).getD 0).toNat) ?_ (z3, z4, z5, (0 : Int64), none, hp, t) ⟨H, F0, hn0, (by exact INV), (by first | exact TUN | exact TU.rf)⟩
      rintro ⟨k6, k7, k8, w12, o11, hp9, t10⟩ ⟨Hhp9, Fhp9, i14, i15, i16⟩ ih13
      refine (show Ev _ 16 ([some (.ref 1), some (.ref 3), some (.int z1), some (.int k6), some (.int k7), some (.long w12), none, some (.int k8), o11], [], (0, 0), hp9) _ from ?_)
      obtain ⟨y17, hy17, ly17, gy17, xy17, ky17, sy17, ay17, dy17, py17, qy17, ny17, my17, iy17, jy17, fy17, cy17, oy17⟩ := i15
      refine Ev.step (j := 17) (s' := ([some (.ref 1), some (.ref 3), some (.int z1), some (.int k6), some (.int k7), some (.long w12), none, some (.int k8), o11], [.ref 1], (0, 0), hp9)) rfl rfl ?_
      have cut18 : ∀ (k19 : Int32) (k20 : Int32) (k21 : Int32) (w22 : Int64) (o23 : Option Value) (hp24 : ab_H) (t25 : Nat → Nat), sf_h t25 hp24 → sf_fr [(8, 2, 2), (9, 3, 3), (124, 0, 900), (125, 0, 900), (126, 0, 0)] t hp t25 hp24 → (sf_rd hp24 1 1 = some n0) → ((∃ v : Int, sf_rd hp24 1 2 = some v ∧ p0 ≤ v ∧ v ≤ 940 ∧ (v = p0 ∨ v ≤ n0) ∧ tk_e tk_r BB n0.toNat v.toNat = tk_e tk_r BB n0.toNat p0.toNat ∧ k19.toInt + k20.toInt = v - p0 ∧ 0 ≤ k19.toInt ∧ 0 ≤ k20.toInt ∧ (k20.toInt = 0 ↔ allP tk_l BB p0.toNat (v - p0).toNat = true) ∧ (k19.toInt = 0 ↔ allP tk_d BB p0.toNat (v - p0).toNat = true) ∧ (k20.toInt = 0 → k19.toInt ≤ 7 → w22.toInt = w32 BB p0.toNat (v - p0).toNat) ∧ (k19.toInt = 0 → k20.toInt ≤ 3 → k21.toInt = nb BB p0.toNat (v - p0).toNat) ∧ 0 ≤ k21.toInt ∧ k21.toInt ≤ 999 ∧ (k20.toInt = 0 → k21.toInt = 0) ∧ (k20.toInt ≤ 1 → k21.toInt ≤ 9) ∧ (k20.toInt ≤ 2 → k21.toInt ≤ 99)) ∧ ∃ v : Int, sf_rd hp24 1 2 = some v ∧ tk_e tk_r BB n0.toNat p0.toNat = v.toNat) → (TU hp hp24) → Ev (ab_T (L_X8_cutRun Z_X8_valueAt Z_X8_isLetter Z_X8_isDigit Z_X8_kindOfWord Z_X9_add)) 148 ([some (.ref 1), some (.ref 3), some (.int z1), some (.int k19), some (.int k20), some (.long w22), none, some (.int k21), o23], [], (0, 0), hp24) Q := by
        intro k19 k20 k21 w22 o23 hp24 t25 Hhp24 Fhp24 i26 i27 i28
        obtain ⟨⟨y29, hy29, ly29, gy29, xy29, ky29, sy29, ay29, dy29, py29, qy29, ny29, my29, iy29, jy29, fy29, cy29, oy29⟩, y30, hy30, ST⟩ := i27
        have EU : y30 = y29 := Option.some.inj (hy30.symm.trans hy29)
        have EM : tk_e tk_r BB n0.toNat p0.toNat - p0.toNat = (y29 - p0).toNat := by omega
        refine bs_lit (k := 1) rfl rfl fun z31 hz31 => ?_
        exact by
         refine Ev.step (j := 151) (s' := ([some (.ref 1), some (.ref 3), some (.int z1), some (.int k19), some (.int k20), some (.long w22), none, some (.int k21), some (.int z31)], [], (0, 0), hp24)) rfl rfl ?_
         refine Ev.step (j := 153) (s' := ([some (.ref 1), some (.ref 3), some (.int z1), some (.int k19), some (.int k20), some (.long w22), none, some (.int k21), some (.int z31)], [.int k20], (0, 0), hp24)) rfl rfl ?_
         refine bs_ifne rfl (fun c32 => ?_) (fun c32 => ?_)
         · skip
           refine Ev.step (j := 174) (s' := ([some (.ref 1), some (.ref 3), some (.int z1), some (.int k19), some (.int k20), some (.long w22), none, some (.int k21), some (.int z31)], [.int k19], (0, 0), hp24)) rfl rfl ?_
           refine bs_ifne rfl (fun c33 => ?_) (fun c33 => ?_)
           · skip
             refine Ev.step (j := 187) (s' := ([some (.ref 1), some (.ref 3), some (.int z1), some (.int k19), some (.int k20), some (.long w22), none, some (.int k21), some (.int z31)], [.ref 3], (0, 0), hp24)) rfl rfl ?_
             refine Ev.step (j := 189) (s' := ([some (.ref 1), some (.ref 3), some (.int z1), some (.int k19), some (.int k20), some (.long w22), none, some (.int k21), some (.int z31)], [.int z31, .ref 3], (0, 0), hp24)) rfl rfl ?_
             refine Ev.step (j := 190) (s' := ([some (.ref 1), some (.ref 3), some (.int z1), some (.int k19), some (.int k20), some (.long w22), none, some (.int k21), some (.int z31)], [.int z1, .int z31, .ref 3], (0, 0), hp24)) rfl rfl ?_
             exact by
              refine Ev.step (j := 192) (s' := ([some (.ref 1), some (.ref 3), some (.int z1), some (.int k19), some (.int k20), some (.long w22), none, some (.int k21), some (.int z31)], [.int z31, .int z1, .int z31, .ref 3], (0, 0), hp24)) rfl rfl ?_
              refine bs_lit (k := 3) rfl rfl fun z34 hz34 => ?_
              refine bs_ne rfl (fun c35 => ?_) (fun c35 => ?_)
              · skip
                refine Ev.step (j := 204) (s' := ([some (.ref 1), some (.ref 3), some (.int z1), some (.int k19), some (.int k20), some (.long w22), none, some (.int k21), some (.int z31)], [.long w22, .int z1, .int z31, .ref 3], (0, 0), hp24)) rfl rfl ?_
                refine bs_callx (K := kq_X9_add_v) [.ref 3, .int z31, .int z1, .long w22] [] rfl ce_X9_add_v Hhp24 rfl rfl rfl (bs_rcv (g := 9) Hhp24 (bs_R.uq Hhp24 (g := 9) rfl) (by decide) rfl) rfl ?_ (sf_S_nil) fun r36 hp37 thp37 Hhp37 fhp37 ahp37 php37 xhp37 => ?_
                · intro q k h
                  match q, h with
                  | 0, h => cases h; exact bs_jR (bs_R.uq Hhp24 (g := 9) rfl)
                  | 1, h => cases h; exact sf_j0
                  | 2, h => cases h; exact sf_j0
                  | 3, h => cases h; exact sf_j2
                  | q + 4, h => cases h
                obtain rfl := ahp37.1 rfl
                have Fhp37 := sf_fr_tr Fhp24 (sf_fr_wider (W := [(8, 2, 2), (9, 3, 3), (124, 0, 900), (125, 0, 900), (126, 0, 0)]) rfl fhp37)
                have h38 : sf_rd hp37 1 1 = some n0 := (fhp37.2.2.1 _ (bs_R.uq Hhp24 (g := 8) (p := 1) rfl).1 _ (by rw [(bs_R.uq Hhp24 (g := 8) (p := 1) rfl).2]; rfl)).trans i26
                have h39 : sf_rd hp37 1 2 = some y29 := (fhp37.2.2.1 _ (bs_R.uq Hhp24 (g := 8) (p := 1) rfl).1 _ (by rw [(bs_R.uq Hhp24 (g := 8) (p := 1) rfl).2]; rfl)).trans hy29
                refine (show Ev _ 207 ([some (.ref 1), some (.ref 3), some (.int z1), some (.int k19), some (.int k20), some (.long w22), none, some (.int k21), some (.int z31)], [], (0, 0), hp37) _ from ?_)
                exact by
                 refine Ev.step (j := 209) (s' := ([some (.ref 1), some (.ref 3), some (.int z1), some (.int k19), some (.int k20), some (.long w22), none, some (.int k21), some (.int z31)], [.int z31], (0, 0), hp37)) rfl rfl ?_
                 exact Ev.ret rfl rfl (by rw [hQ]; exact ⟨thp37, Hhp37, Fhp37, bs_an0, sf_S_cons (sf_s1 (x := z31.toInt) rfl (by omega) (by omega)) (sf_S_nil), (fun p n m hp_ hn_ hm_ hle => by have eqP : p = p0 := Option.some.inj (hp_.symm.trans hp0); have eqN : n = n0 := Option.some.inj (hn_.symm.trans hn0); subst eqP eqN; rw [← hBB]; rw [EM]; rw [show trn BB p.toNat (y29 - p).toNat = ⟨1, p.toNat, 0, p.toNat + (y29 - p).toNat⟩ from (if_neg fun h => by have h1 := py29.mpr h.1; have h2 := h.2; omega).trans (if_neg fun h => by have h1 := qy29.mpr h.1; have h2 := h.2; omega)]; have KV : z31.toInt = TT.k ⟨1, p.toNat, 0, p.toNat + (y29 - p).toNat⟩ := (by show _ = (1 : Int); omega); have PL : z1.toInt = TT.pl ⟨1, p.toNat, 0, p.toNat + (y29 - p).toNat⟩ := (by show _ = ((p.toNat : Nat) : Int); omega); have AA := AD_TU i28 (xhp37 _ _ _ _ rfl ((sf_rd_cell i28.1).trans hm_) hle); rw [KV, PL] at AA; exact ⟨z31, rfl, KV, h39.trans (congrArg some (by show _ = ((p.toNat + (y29 - p).toNat : Nat) : Int); omega)), w22, AA, ⟨fun e => absurd e (by show (1 : Int) ≠ 3; decide), fun e => absurd e (by show (1 : Int) ≠ 2; decide)⟩⟩)⟩)
              · exfalso; omega
           · skip
             have c40 : k19.toInt = 0 := by omega
             refine Ev.step (j := 179) (s' := ([some (.ref 1), some (.ref 3), some (.int z1), some (.int k19), some (.int k20), some (.long w22), none, some (.int k21), some (.int z31)], [.int k20], (0, 0), hp24)) rfl rfl ?_
             exact by
              refine bs_lit (k := 3) rfl rfl fun z41 hz41 => ?_
              refine bs_gt rfl (fun c42 => ?_) (fun c42 => ?_)
              · skip
                refine Ev.step (j := 187) (s' := ([some (.ref 1), some (.ref 3), some (.int z1), some (.int k19), some (.int k20), some (.long w22), none, some (.int k21), some (.int z31)], [.ref 3], (0, 0), hp24)) rfl rfl ?_
                refine Ev.step (j := 189) (s' := ([some (.ref 1), some (.ref 3), some (.int z1), some (.int k19), some (.int k20), some (.long w22), none, some (.int k21), some (.int z31)], [.int z31, .ref 3], (0, 0), hp24)) rfl rfl ?_
                refine Ev.step (j := 190) (s' := ([some (.ref 1), some (.ref 3), some (.int z1), some (.int k19), some (.int k20), some (.long w22), none, some (.int k21), some (.int z31)], [.int z1, .int z31, .ref 3], (0, 0), hp24)) rfl rfl ?_
                refine Ev.step (j := 192) (s' := ([some (.ref 1), some (.ref 3), some (.int z1), some (.int k19), some (.int k20), some (.long w22), none, some (.int k21), some (.int z31)], [.int z31, .int z1, .int z31, .ref 3], (0, 0), hp24)) rfl rfl ?_
                refine bs_lit (k := 3) rfl rfl fun z43 hz43 => ?_
                refine bs_ne rfl (fun c44 => ?_) (fun c44 => ?_)
                · skip
                  refine Ev.step (j := 204) (s' := ([some (.ref 1), some (.ref 3), some (.int z1), some (.int k19), some (.int k20), some (.long w22), none, some (.int k21), some (.int z31)], [.long w22, .int z1, .int z31, .ref 3], (0, 0), hp24)) rfl rfl ?_
                  exact by
                   refine bs_callx (K := kq_X9_add_v) [.ref 3, .int z31, .int z1, .long w22] [] rfl ce_X9_add_v Hhp24 rfl rfl rfl (bs_rcv (g := 9) Hhp24 (bs_R.uq Hhp24 (g := 9) rfl) (by decide) rfl) rfl ?_ (sf_S_nil) fun r45 hp46 thp46 Hhp46 fhp46 ahp46 php46 xhp46 => ?_
                   · intro q k h
                     match q, h with
                     | 0, h => cases h; exact bs_jR (bs_R.uq Hhp24 (g := 9) rfl)
                     | 1, h => cases h; exact sf_j0
                     | 2, h => cases h; exact sf_j0
                     | 3, h => cases h; exact sf_j2
                     | q + 4, h => cases h
                   obtain rfl := ahp46.1 rfl
                   have Fhp46 := sf_fr_tr Fhp24 (sf_fr_wider (W := [(8, 2, 2), (9, 3, 3), (124, 0, 900), (125, 0, 900), (126, 0, 0)]) rfl fhp46)
                   have h47 : sf_rd hp46 1 1 = some n0 := (fhp46.2.2.1 _ (bs_R.uq Hhp24 (g := 8) (p := 1) rfl).1 _ (by rw [(bs_R.uq Hhp24 (g := 8) (p := 1) rfl).2]; rfl)).trans i26
                   have h48 : sf_rd hp46 1 2 = some y29 := (fhp46.2.2.1 _ (bs_R.uq Hhp24 (g := 8) (p := 1) rfl).1 _ (by rw [(bs_R.uq Hhp24 (g := 8) (p := 1) rfl).2]; rfl)).trans hy29
                   refine (show Ev _ 207 ([some (.ref 1), some (.ref 3), some (.int z1), some (.int k19), some (.int k20), some (.long w22), none, some (.int k21), some (.int z31)], [], (0, 0), hp46) _ from ?_)
                   refine Ev.step (j := 209) (s' := ([some (.ref 1), some (.ref 3), some (.int z1), some (.int k19), some (.int k20), some (.long w22), none, some (.int k21), some (.int z31)], [.int z31], (0, 0), hp46)) rfl rfl ?_
                   exact Ev.ret rfl rfl (by rw [hQ]; exact ⟨thp46, Hhp46, Fhp46, bs_an0, sf_S_cons (sf_s1 (x := z31.toInt) rfl (by omega) (by omega)) (sf_S_nil), (fun p n m hp_ hn_ hm_ hle => by have eqP : p = p0 := Option.some.inj (hp_.symm.trans hp0); have eqN : n = n0 := Option.some.inj (hn_.symm.trans hn0); subst eqP eqN; rw [← hBB]; rw [EM]; rw [show trn BB p.toNat (y29 - p).toNat = ⟨1, p.toNat, 0, p.toNat + (y29 - p).toNat⟩ from (if_neg fun h => by have h1 := py29.mpr h.1; have h2 := h.2; omega).trans (if_neg fun h => by have h1 := qy29.mpr h.1; have h2 := h.2; omega)]; have KV : z31.toInt = TT.k ⟨1, p.toNat, 0, p.toNat + (y29 - p).toNat⟩ := (by show _ = (1 : Int); omega); have PL : z1.toInt = TT.pl ⟨1, p.toNat, 0, p.toNat + (y29 - p).toNat⟩ := (by show _ = ((p.toNat : Nat) : Int); omega); have AA := AD_TU i28 (xhp46 _ _ _ _ rfl ((sf_rd_cell i28.1).trans hm_) hle); rw [KV, PL] at AA; exact ⟨z31, rfl, KV, h48.trans (congrArg some (by show _ = ((p.toNat + (y29 - p).toNat : Nat) : Int); omega)), w22, AA, ⟨fun e => absurd e (by show (1 : Int) ≠ 3; decide), fun e => absurd e (by show (1 : Int) ≠ 2; decide)⟩⟩)⟩)
                · exfalso; omega
              · skip
                refine bs_lit (k := 3) rfl rfl fun z49 hz49 => ?_
                exact by
                 refine Ev.step (j := 186) (s' := ([some (.ref 1), some (.ref 3), some (.int z1), some (.int k19), some (.int k20), some (.long w22), none, some (.int k21), some (.int z49)], [], (0, 0), hp24)) rfl rfl ?_
                 refine Ev.step (j := 187) (s' := ([some (.ref 1), some (.ref 3), some (.int z1), some (.int k19), some (.int k20), some (.long w22), none, some (.int k21), some (.int z49)], [.ref 3], (0, 0), hp24)) rfl rfl ?_
                 refine Ev.step (j := 189) (s' := ([some (.ref 1), some (.ref 3), some (.int z1), some (.int k19), some (.int k20), some (.long w22), none, some (.int k21), some (.int z49)], [.int z49, .ref 3], (0, 0), hp24)) rfl rfl ?_
                 refine Ev.step (j := 190) (s' := ([some (.ref 1), some (.ref 3), some (.int z1), some (.int k19), some (.int k20), some (.long w22), none, some (.int k21), some (.int z49)], [.int z1, .int z49, .ref 3], (0, 0), hp24)) rfl rfl ?_
                 refine Ev.step (j := 192) (s' := ([some (.ref 1), some (.ref 3), some (.int z1), some (.int k19), some (.int k20), some (.long w22), none, some (.int k21), some (.int z49)], [.int z49, .int z1, .int z49, .ref 3], (0, 0), hp24)) rfl rfl ?_
                 refine bs_lit (k := 3) rfl rfl fun z50 hz50 => ?_
                 refine bs_ne rfl (fun c51 => ?_) (fun c51 => ?_)
                 · exfalso; omega
                 · skip
                   refine Ev.step (j := 198) (s' := ([some (.ref 1), some (.ref 3), some (.int z1), some (.int k19), some (.int k20), some (.long w22), none, some (.int k21), some (.int z49)], [.int k21, .int z1, .int z49, .ref 3], (0, 0), hp24)) rfl rfl ?_
                   exact by
                    refine Ev.step (j := 199) (s' := ([some (.ref 1), some (.ref 3), some (.int z1), some (.int k19), some (.int k20), some (.long w22), none, some (.int k21), some (.int z49)], [.long (k21.toInt64), .int z1, .int z49, .ref 3], (0, 0), hp24)) rfl rfl ?_
                    refine Ev.step (j := 204) (s' := ([some (.ref 1), some (.ref 3), some (.int z1), some (.int k19), some (.int k20), some (.long w22), none, some (.int k21), some (.int z49)], [.long (k21.toInt64), .int z1, .int z49, .ref 3], (0, 0), hp24)) rfl rfl ?_
                    refine bs_callx (K := kq_X9_add_v) [.ref 3, .int z49, .int z1, .long (k21.toInt64)] [] rfl ce_X9_add_v Hhp24 rfl rfl rfl (bs_rcv (g := 9) Hhp24 (bs_R.uq Hhp24 (g := 9) rfl) (by decide) rfl) rfl ?_ (sf_S_nil) fun r52 hp53 thp53 Hhp53 fhp53 ahp53 php53 xhp53 => ?_
                    · intro q k h
                      match q, h with
                      | 0, h => cases h; exact bs_jR (bs_R.uq Hhp24 (g := 9) rfl)
                      | 1, h => cases h; exact sf_j0
                      | 2, h => cases h; exact sf_j0
                      | 3, h => cases h; exact sf_j2
                      | q + 4, h => cases h
                    obtain rfl := ahp53.1 rfl
                    have Fhp53 := sf_fr_tr Fhp24 (sf_fr_wider (W := [(8, 2, 2), (9, 3, 3), (124, 0, 900), (125, 0, 900), (126, 0, 0)]) rfl fhp53)
                    have h54 : sf_rd hp53 1 1 = some n0 := (fhp53.2.2.1 _ (bs_R.uq Hhp24 (g := 8) (p := 1) rfl).1 _ (by rw [(bs_R.uq Hhp24 (g := 8) (p := 1) rfl).2]; rfl)).trans i26
                    have h55 : sf_rd hp53 1 2 = some y29 := (fhp53.2.2.1 _ (bs_R.uq Hhp24 (g := 8) (p := 1) rfl).1 _ (by rw [(bs_R.uq Hhp24 (g := 8) (p := 1) rfl).2]; rfl)).trans hy29
                    refine (show Ev _ 207 ([some (.ref 1), some (.ref 3), some (.int z1), some (.int k19), some (.int k20), some (.long w22), none, some (.int k21), some (.int z49)], [], (0, 0), hp53) _ from ?_)
                    exact by
                     refine Ev.step (j := 209) (s' := ([some (.ref 1), some (.ref 3), some (.int z1), some (.int k19), some (.int k20), some (.long w22), none, some (.int k21), some (.int z49)], [.int z49], (0, 0), hp53)) rfl rfl ?_
                     exact Ev.ret rfl rfl (by rw [hQ]; exact ⟨thp53, Hhp53, Fhp53, bs_an0, sf_S_cons (sf_s1 (x := z49.toInt) rfl (by omega) (by omega)) (sf_S_nil), (fun p n m hp_ hn_ hm_ hle => by have eqP : p = p0 := Option.some.inj (hp_.symm.trans hp0); have eqN : n = n0 := Option.some.inj (hn_.symm.trans hn0); subst eqP eqN; rw [← hBB]; rw [EM]; rw [show trn BB p.toNat (y29 - p).toNat = ⟨3, p.toNat, nb BB p.toNat (y29 - p).toNat, p.toNat + (y29 - p).toNat⟩ from (if_neg fun h => by have h1 := py29.mpr h.1; have h2 := h.2; omega).trans (if_pos ⟨qy29.mp (by omega), by omega⟩)]; have KV : z49.toInt = TT.k ⟨3, p.toNat, nb BB p.toNat (y29 - p).toNat, p.toNat + (y29 - p).toNat⟩ := (by show _ = (3 : Int); omega); have PL : z1.toInt = TT.pl ⟨3, p.toNat, nb BB p.toNat (y29 - p).toNat, p.toNat + (y29 - p).toNat⟩ := (by show _ = ((p.toNat : Nat) : Int); omega); have AA := AD_TU i28 (xhp53 _ _ _ _ rfl ((sf_rd_cell i28.1).trans hm_) hle); rw [KV, PL] at AA; exact ⟨z49, rfl, KV, h55.trans (congrArg some (by show _ = ((p.toNat + (y29 - p).toNat : Nat) : Int); omega)), (k21.toInt64), AA, ⟨fun _ => (Int32.toInt_toInt64 k21).trans (my29 (by omega) (by omega)), fun e => absurd e (by show (3 : Int) ≠ 2; decide)⟩⟩)⟩)
         · skip
           have c56 : k20.toInt = 0 := by omega
           refine Ev.step (j := 157) (s' := ([some (.ref 1), some (.ref 3), some (.int z1), some (.int k19), some (.int k20), some (.long w22), none, some (.int k21), some (.int z31)], [.int k19], (0, 0), hp24)) rfl rfl ?_
           exact by
            refine bs_lit (k := 7) rfl rfl fun z57 hz57 => ?_
            refine bs_gt rfl (fun c58 => ?_) (fun c58 => ?_)
            · skip
              refine Ev.step (j := 174) (s' := ([some (.ref 1), some (.ref 3), some (.int z1), some (.int k19), some (.int k20), some (.long w22), none, some (.int k21), some (.int z31)], [.int k19], (0, 0), hp24)) rfl rfl ?_
              refine bs_ifne rfl (fun c59 => ?_) (fun c59 => ?_)
              · skip
                refine Ev.step (j := 187) (s' := ([some (.ref 1), some (.ref 3), some (.int z1), some (.int k19), some (.int k20), some (.long w22), none, some (.int k21), some (.int z31)], [.ref 3], (0, 0), hp24)) rfl rfl ?_
                refine Ev.step (j := 189) (s' := ([some (.ref 1), some (.ref 3), some (.int z1), some (.int k19), some (.int k20), some (.long w22), none, some (.int k21), some (.int z31)], [.int z31, .ref 3], (0, 0), hp24)) rfl rfl ?_
                refine Ev.step (j := 190) (s' := ([some (.ref 1), some (.ref 3), some (.int z1), some (.int k19), some (.int k20), some (.long w22), none, some (.int k21), some (.int z31)], [.int z1, .int z31, .ref 3], (0, 0), hp24)) rfl rfl ?_
                refine Ev.step (j := 192) (s' := ([some (.ref 1), some (.ref 3), some (.int z1), some (.int k19), some (.int k20), some (.long w22), none, some (.int k21), some (.int z31)], [.int z31, .int z1, .int z31, .ref 3], (0, 0), hp24)) rfl rfl ?_
                exact by
                 refine bs_lit (k := 3) rfl rfl fun z60 hz60 => ?_
                 refine bs_ne rfl (fun c61 => ?_) (fun c61 => ?_)
                 · skip
                   refine Ev.step (j := 204) (s' := ([some (.ref 1), some (.ref 3), some (.int z1), some (.int k19), some (.int k20), some (.long w22), none, some (.int k21), some (.int z31)], [.long w22, .int z1, .int z31, .ref 3], (0, 0), hp24)) rfl rfl ?_
                   refine bs_callx (K := kq_X9_add_v) [.ref 3, .int z31, .int z1, .long w22] [] rfl ce_X9_add_v Hhp24 rfl rfl rfl (bs_rcv (g := 9) Hhp24 (bs_R.uq Hhp24 (g := 9) rfl) (by decide) rfl) rfl ?_ (sf_S_nil) fun r62 hp63 thp63 Hhp63 fhp63 ahp63 php63 xhp63 => ?_
                   · intro q k h
                     match q, h with
                     | 0, h => cases h; exact bs_jR (bs_R.uq Hhp24 (g := 9) rfl)
                     | 1, h => cases h; exact sf_j0
                     | 2, h => cases h; exact sf_j0
                     | 3, h => cases h; exact sf_j2
                     | q + 4, h => cases h
                   obtain rfl := ahp63.1 rfl
                   have Fhp63 := sf_fr_tr Fhp24 (sf_fr_wider (W := [(8, 2, 2), (9, 3, 3), (124, 0, 900), (125, 0, 900), (126, 0, 0)]) rfl fhp63)
                   have h64 : sf_rd hp63 1 1 = some n0 := (fhp63.2.2.1 _ (bs_R.uq Hhp24 (g := 8) (p := 1) rfl).1 _ (by rw [(bs_R.uq Hhp24 (g := 8) (p := 1) rfl).2]; rfl)).trans i26
                   have h65 : sf_rd hp63 1 2 = some y29 := (fhp63.2.2.1 _ (bs_R.uq Hhp24 (g := 8) (p := 1) rfl).1 _ (by rw [(bs_R.uq Hhp24 (g := 8) (p := 1) rfl).2]; rfl)).trans hy29
                   refine (show Ev _ 207 ([some (.ref 1), some (.ref 3), some (.int z1), some (.int k19), some (.int k20), some (.long w22), none, some (.int k21), some (.int z31)], [], (0, 0), hp63) _ from ?_)
                   exact by
                    refine Ev.step (j := 209) (s' := ([some (.ref 1), some (.ref 3), some (.int z1), some (.int k19), some (.int k20), some (.long w22), none, some (.int k21), some (.int z31)], [.int z31], (0, 0), hp63)) rfl rfl ?_
                    exact Ev.ret rfl rfl (by rw [hQ]; exact ⟨thp63, Hhp63, Fhp63, bs_an0, sf_S_cons (sf_s1 (x := z31.toInt) rfl (by omega) (by omega)) (sf_S_nil), (fun p n m hp_ hn_ hm_ hle => by have eqP : p = p0 := Option.some.inj (hp_.symm.trans hp0); have eqN : n = n0 := Option.some.inj (hn_.symm.trans hn0); subst eqP eqN; rw [← hBB]; rw [EM]; rw [show trn BB p.toNat (y29 - p).toNat = ⟨1, p.toNat, 0, p.toNat + (y29 - p).toNat⟩ from (if_neg fun h => by have h1 := py29.mpr h.1; have h2 := h.2; omega).trans (if_neg fun h => by have h1 := qy29.mpr h.1; have h2 := h.2; omega)]; have KV : z31.toInt = TT.k ⟨1, p.toNat, 0, p.toNat + (y29 - p).toNat⟩ := (by show _ = (1 : Int); omega); have PL : z1.toInt = TT.pl ⟨1, p.toNat, 0, p.toNat + (y29 - p).toNat⟩ := (by show _ = ((p.toNat : Nat) : Int); omega); have AA := AD_TU i28 (xhp63 _ _ _ _ rfl ((sf_rd_cell i28.1).trans hm_) hle); rw [KV, PL] at AA; exact ⟨z31, rfl, KV, h65.trans (congrArg some (by show _ = ((p.toNat + (y29 - p).toNat : Nat) : Int); omega)), w22, AA, ⟨fun e => absurd e (by show (1 : Int) ≠ 3; decide), fun e => absurd e (by show (1 : Int) ≠ 2; decide)⟩⟩)⟩)
                 · exfalso; omega
              · skip
                have c66 : k19.toInt = 0 := by omega
                refine Ev.step (j := 179) (s' := ([some (.ref 1), some (.ref 3), some (.int z1), some (.int k19), some (.int k20), some (.long w22), none, some (.int k21), some (.int z31)], [.int k20], (0, 0), hp24)) rfl rfl ?_
                exact by
                 refine bs_lit (k := 3) rfl rfl fun z67 hz67 => ?_
                 refine bs_gt rfl (fun c68 => ?_) (fun c68 => ?_)
                 · exfalso; omega
                 · skip
                   refine bs_lit (k := 3) rfl rfl fun z69 hz69 => ?_
                   refine Ev.step (j := 186) (s' := ([some (.ref 1), some (.ref 3), some (.int z1), some (.int k19), some (.int k20), some (.long w22), none, some (.int k21), some (.int z69)], [], (0, 0), hp24)) rfl rfl ?_
                   refine Ev.step (j := 187) (s' := ([some (.ref 1), some (.ref 3), some (.int z1), some (.int k19), some (.int k20), some (.long w22), none, some (.int k21), some (.int z69)], [.ref 3], (0, 0), hp24)) rfl rfl ?_
                   refine Ev.step (j := 189) (s' := ([some (.ref 1), some (.ref 3), some (.int z1), some (.int k19), some (.int k20), some (.long w22), none, some (.int k21), some (.int z69)], [.int z69, .ref 3], (0, 0), hp24)) rfl rfl ?_
                   refine Ev.step (j := 190) (s' := ([some (.ref 1), some (.ref 3), some (.int z1), some (.int k19), some (.int k20), some (.long w22), none, some (.int k21), some (.int z69)], [.int z1, .int z69, .ref 3], (0, 0), hp24)) rfl rfl ?_
                   refine Ev.step (j := 192) (s' := ([some (.ref 1), some (.ref 3), some (.int z1), some (.int k19), some (.int k20), some (.long w22), none, some (.int k21), some (.int z69)], [.int z69, .int z1, .int z69, .ref 3], (0, 0), hp24)) rfl rfl ?_
                   exact by
                    refine bs_lit (k := 3) rfl rfl fun z70 hz70 => ?_
                    refine bs_ne rfl (fun c71 => ?_) (fun c71 => ?_)
                    · exfalso; omega
                    · skip
                      refine Ev.step (j := 198) (s' := ([some (.ref 1), some (.ref 3), some (.int z1), some (.int k19), some (.int k20), some (.long w22), none, some (.int k21), some (.int z69)], [.int k21, .int z1, .int z69, .ref 3], (0, 0), hp24)) rfl rfl ?_
                      refine Ev.step (j := 199) (s' := ([some (.ref 1), some (.ref 3), some (.int z1), some (.int k19), some (.int k20), some (.long w22), none, some (.int k21), some (.int z69)], [.long (k21.toInt64), .int z1, .int z69, .ref 3], (0, 0), hp24)) rfl rfl ?_
                      refine Ev.step (j := 204) (s' := ([some (.ref 1), some (.ref 3), some (.int z1), some (.int k19), some (.int k20), some (.long w22), none, some (.int k21), some (.int z69)], [.long (k21.toInt64), .int z1, .int z69, .ref 3], (0, 0), hp24)) rfl rfl ?_
                      refine bs_callx (K := kq_X9_add_v) [.ref 3, .int z69, .int z1, .long (k21.toInt64)] [] rfl ce_X9_add_v Hhp24 rfl rfl rfl (bs_rcv (g := 9) Hhp24 (bs_R.uq Hhp24 (g := 9) rfl) (by decide) rfl) rfl ?_ (sf_S_nil) fun r72 hp73 thp73 Hhp73 fhp73 ahp73 php73 xhp73 => ?_
                      · intro q k h
                        match q, h with
                        | 0, h => cases h; exact bs_jR (bs_R.uq Hhp24 (g := 9) rfl)
                        | 1, h => cases h; exact sf_j0
                        | 2, h => cases h; exact sf_j0
                        | 3, h => cases h; exact sf_j2
                        | q + 4, h => cases h
                      obtain rfl := ahp73.1 rfl
                      have Fhp73 := sf_fr_tr Fhp24 (sf_fr_wider (W := [(8, 2, 2), (9, 3, 3), (124, 0, 900), (125, 0, 900), (126, 0, 0)]) rfl fhp73)
                      have h74 : sf_rd hp73 1 1 = some n0 := (fhp73.2.2.1 _ (bs_R.uq Hhp24 (g := 8) (p := 1) rfl).1 _ (by rw [(bs_R.uq Hhp24 (g := 8) (p := 1) rfl).2]; rfl)).trans i26
                      have h75 : sf_rd hp73 1 2 = some y29 := (fhp73.2.2.1 _ (bs_R.uq Hhp24 (g := 8) (p := 1) rfl).1 _ (by rw [(bs_R.uq Hhp24 (g := 8) (p := 1) rfl).2]; rfl)).trans hy29
                      refine (show Ev _ 207 ([some (.ref 1), some (.ref 3), some (.int z1), some (.int k19), some (.int k20), some (.long w22), none, some (.int k21), some (.int z69)], [], (0, 0), hp73) _ from ?_)
                      exact by
                       refine Ev.step (j := 209) (s' := ([some (.ref 1), some (.ref 3), some (.int z1), some (.int k19), some (.int k20), some (.long w22), none, some (.int k21), some (.int z69)], [.int z69], (0, 0), hp73)) rfl rfl ?_
                       exact Ev.ret rfl rfl (by rw [hQ]; exact ⟨thp73, Hhp73, Fhp73, bs_an0, sf_S_cons (sf_s1 (x := z69.toInt) rfl (by omega) (by omega)) (sf_S_nil), (fun p n m hp_ hn_ hm_ hle => by have eqP : p = p0 := Option.some.inj (hp_.symm.trans hp0); have eqN : n = n0 := Option.some.inj (hn_.symm.trans hn0); subst eqP eqN; rw [← hBB]; rw [EM]; rw [show trn BB p.toNat (y29 - p).toNat = ⟨3, p.toNat, nb BB p.toNat (y29 - p).toNat, p.toNat + (y29 - p).toNat⟩ from (if_neg fun h => by have h1 := py29.mpr h.1; have h2 := h.2; omega).trans (if_pos ⟨qy29.mp (by omega), by omega⟩)]; have KV : z69.toInt = TT.k ⟨3, p.toNat, nb BB p.toNat (y29 - p).toNat, p.toNat + (y29 - p).toNat⟩ := (by show _ = (3 : Int); omega); have PL : z1.toInt = TT.pl ⟨3, p.toNat, nb BB p.toNat (y29 - p).toNat, p.toNat + (y29 - p).toNat⟩ := (by show _ = ((p.toNat : Nat) : Int); omega); have AA := AD_TU i28 (xhp73 _ _ _ _ rfl ((sf_rd_cell i28.1).trans hm_) hle); rw [KV, PL] at AA; exact ⟨z69, rfl, KV, h75.trans (congrArg some (by show _ = ((p.toNat + (y29 - p).toNat : Nat) : Int); omega)), (k21.toInt64), AA, ⟨fun _ => (Int32.toInt_toInt64 k21).trans (my29 (by omega) (by omega)), fun e => absurd e (by show (3 : Int) ≠ 2; decide)⟩⟩)⟩)
            · skip
              refine Ev.step (j := 163) (s' := ([some (.ref 1), some (.ref 3), some (.int z1), some (.int k19), some (.int k20), some (.long w22), none, some (.int k21), some (.int z31)], [.ref 1], (0, 0), hp24)) rfl rfl ?_
              exact by
               refine Ev.step (j := 164) (s' := ([some (.ref 1), some (.ref 3), some (.int z1), some (.int k19), some (.int k20), some (.long w22), none, some (.int k21), some (.int z31)], [.int z1, .ref 1], (0, 0), hp24)) rfl rfl ?_
               refine Ev.step (j := 165) (s' := ([some (.ref 1), some (.ref 3), some (.int z1), some (.int k19), some (.int k20), some (.long w22), none, some (.int k21), some (.int z31)], [.int k19, .int z1, .ref 1], (0, 0), hp24)) rfl rfl ?_
               refine bs_callx (K := kq_X8_kindOfWord_v) [.ref 1, .int z1, .int k19] [] rfl ce_X8_kindOfWord_v Hhp24 rfl rfl rfl (bs_rcv (g := 8) Hhp24 (bs_R.uq Hhp24 (g := 8) rfl) (by decide) rfl) rfl ?_ (sf_S_cons (sf_s1 (x := z1.toInt) rfl (by omega) (by omega)) (sf_S_cons (sf_s1 (x := k19.toInt) rfl (by omega) (by omega)) (sf_S_nil))) fun r76 hp77 thp77 Hhp77 fhp77 ahp77 php77 xhp77 => ?_
               · intro q k h
                 match q, h with
                 | 0, h => cases h; exact bs_jR (bs_R.uq Hhp24 (g := 8) rfl)
                 | 1, h => cases h; exact sf_j0
                 | 2, h => cases h; exact sf_j0
                 | q + 3, h => cases h
               obtain ⟨z78, rfl⟩ := bs_anI ahp77
               have rgz78 := n_range z78
               have Fhp77 := sf_fr_tr Fhp24 (sf_fr_wider (W := [(8, 2, 2), (9, 3, 3), (124, 0, 900), (125, 0, 900), (126, 0, 0)]) rfl fhp77)
               have h79 : sf_rd hp77 1 1 = some n0 := (fhp77.2.2.1 _ (bs_R.uq Hhp24 (g := 8) (p := 1) rfl).1 _ (by rw [(bs_R.uq Hhp24 (g := 8) (p := 1) rfl).2]; rfl)).trans i26
               have h80 : sf_rd hp77 1 2 = some y29 := (fhp77.2.2.1 _ (bs_R.uq Hhp24 (g := 8) (p := 1) rfl).1 _ (by rw [(bs_R.uq Hhp24 (g := 8) (p := 1) rfl).2]; rfl)).trans hy29
               obtain ⟨uz78, vz78⟩ := bs_s1 (x := z78.toInt) rfl (php77 _ (List.mem_of_getElem? (i := 0) rfl))
               refine (show Ev _ 168 ([some (.ref 1), some (.ref 3), some (.int z1), some (.int k19), some (.int k20), some (.long w22), none, some (.int k21), some (.int z31)], [.int z78], (0, 0), hp77) _ from ?_)
               obtain ⟨z9, rz9, KW⟩ := xhp77 _ _ rfl
               obtain rfl := Value.int.inj (Option.some.inj rz9)
               rw [pv_mask (hp := hp24) (a := 2) (n := 940) (n' := n0.toNat) (q := z1.toInt.toNat) (len := k19.toInt.toNat) (by omega), EB _ (fun q => Fhp24.2.2.1 _ (bs_R.uq H (g := 123) (p := 2) rfl).1 _ (by rw [(bs_R.uq H (g := 123) (p := 2) rfl).2]; rfl))] at KW
               have KR := kw_rng (pv BB z1.toInt.toNat k19.toInt.toNat)
               refine Ev.step (j := 170) (s' := ([some (.ref 1), some (.ref 3), some (.int z1), some (.int k19), some (.int k20), some (.long w22), none, some (.int k21), some (.int z78)], [], (0, 0), hp77)) rfl rfl ?_
               exact by
                refine Ev.step (j := 186) (s' := ([some (.ref 1), some (.ref 3), some (.int z1), some (.int k19), some (.int k20), some (.long w22), none, some (.int k21), some (.int z78)], [], (0, 0), hp77)) rfl rfl ?_
                refine Ev.step (j := 187) (s' := ([some (.ref 1), some (.ref 3), some (.int z1), some (.int k19), some (.int k20), some (.long w22), none, some (.int k21), some (.int z78)], [.ref 3], (0, 0), hp77)) rfl rfl ?_
                refine Ev.step (j := 189) (s' := ([some (.ref 1), some (.ref 3), some (.int z1), some (.int k19), some (.int k20), some (.long w22), none, some (.int k21), some (.int z78)], [.int z78, .ref 3], (0, 0), hp77)) rfl rfl ?_
                refine Ev.step (j := 190) (s' := ([some (.ref 1), some (.ref 3), some (.int z1), some (.int k19), some (.int k20), some (.long w22), none, some (.int k21), some (.int z78)], [.int z1, .int z78, .ref 3], (0, 0), hp77)) rfl rfl ?_
                refine Ev.step (j := 192) (s' := ([some (.ref 1), some (.ref 3), some (.int z1), some (.int k19), some (.int k20), some (.long w22), none, some (.int k21), some (.int z78)], [.int z78, .int z1, .int z78, .ref 3], (0, 0), hp77)) rfl rfl ?_
                refine bs_lit (k := 3) rfl rfl fun z81 hz81 => ?_
                refine bs_ne rfl (fun c82 => ?_) (fun c82 => ?_)
                · skip
                  refine Ev.step (j := 204) (s' := ([some (.ref 1), some (.ref 3), some (.int z1), some (.int k19), some (.int k20), some (.long w22), none, some (.int k21), some (.int z78)], [.long w22, .int z1, .int z78, .ref 3], (0, 0), hp77)) rfl rfl ?_
                  exact by
                   refine bs_callx (K := kq_X9_add_v) [.ref 3, .int z78, .int z1, .long w22] [] rfl ce_X9_add_v Hhp77 rfl rfl rfl (bs_rcv (g := 9) Hhp77 (bs_R.uq Hhp77 (g := 9) rfl) (by decide) rfl) rfl ?_ (sf_S_nil) fun r83 hp84 thp84 Hhp84 fhp84 ahp84 php84 xhp84 => ?_
                   · intro q k h
                     match q, h with
                     | 0, h => cases h; exact bs_jR (bs_R.uq Hhp77 (g := 9) rfl)
                     | 1, h => cases h; exact sf_j0
                     | 2, h => cases h; exact sf_j0
                     | 3, h => cases h; exact sf_j2
                     | q + 4, h => cases h
                   obtain rfl := ahp84.1 rfl
                   have Fhp84 := sf_fr_tr Fhp77 (sf_fr_wider (W := [(8, 2, 2), (9, 3, 3), (124, 0, 900), (125, 0, 900), (126, 0, 0)]) rfl fhp84)
                   have h85 : sf_rd hp84 1 1 = some n0 := (fhp84.2.2.1 _ (bs_R.uq Hhp77 (g := 8) (p := 1) rfl).1 _ (by rw [(bs_R.uq Hhp77 (g := 8) (p := 1) rfl).2]; rfl)).trans h79
                   have h86 : sf_rd hp84 1 2 = some y29 := (fhp84.2.2.1 _ (bs_R.uq Hhp77 (g := 8) (p := 1) rfl).1 _ (by rw [(bs_R.uq Hhp77 (g := 8) (p := 1) rfl).2]; rfl)).trans h80
                   refine (show Ev _ 207 ([some (.ref 1), some (.ref 3), some (.int z1), some (.int k19), some (.int k20), some (.long w22), none, some (.int k21), some (.int z78)], [], (0, 0), hp84) _ from ?_)
                   refine Ev.step (j := 209) (s' := ([some (.ref 1), some (.ref 3), some (.int z1), some (.int k19), some (.int k20), some (.long w22), none, some (.int k21), some (.int z78)], [.int z78], (0, 0), hp84)) rfl rfl ?_
                   exact Ev.ret rfl rfl (by rw [hQ]; exact ⟨thp84, Hhp84, Fhp84, bs_an0, sf_S_cons (sf_s1 (x := z78.toInt) rfl (by omega) (by omega)) (sf_S_nil), (fun p n m hp_ hn_ hm_ hle => by have eqP : p = p0 := Option.some.inj (hp_.symm.trans hp0); have eqN : n = n0 := Option.some.inj (hn_.symm.trans hn0); subst eqP eqN; rw [← hBB]; rw [EM]; rw [show trn BB p.toNat (y29 - p).toNat = ⟨kw (pv BB p.toNat (y29 - p).toNat), p.toNat, wd BB p.toNat (y29 - p).toNat, p.toNat + (y29 - p).toNat⟩ from if_pos ⟨py29.mp (by omega), by omega⟩]; have KV : z78.toInt = TT.k ⟨kw (pv BB p.toNat (y29 - p).toNat), p.toNat, wd BB p.toNat (y29 - p).toNat, p.toNat + (y29 - p).toNat⟩ := (by show _ = kw (pv BB p.toNat (y29 - p).toNat); rw [KW, show z1.toInt.toNat = p.toNat by omega, show k19.toInt.toNat = (y29 - p).toNat by omega]); have PL : z1.toInt = TT.pl ⟨kw (pv BB p.toNat (y29 - p).toNat), p.toNat, wd BB p.toNat (y29 - p).toNat, p.toNat + (y29 - p).toNat⟩ := (by show _ = ((p.toNat : Nat) : Int); omega); have AA := AD_TU (i28.tr (TU_fr Hhp24 fhp77 rfl rfl rfl rfl)) (xhp84 _ _ _ _ rfl ((sf_rd_cell (i28.tr (TU_fr Hhp24 fhp77 rfl rfl rfl rfl)).1).trans hm_) hle); rw [KV, PL] at AA; exact ⟨z78, rfl, KV, h86.trans (congrArg some (by show _ = ((p.toNat + (y29 - p).toNat : Nat) : Int); omega)), w22, AA, ⟨fun e => absurd (KV.trans e) (by omega), fun _ => (ny29 (by omega) (by omega)).trans (wd_nm (py29.mp (by omega)) (by omega)).2.symm⟩⟩)⟩)
                · exfalso; omega
      refine bs_getI 8 rfl rfl rfl Hhp9 (bs_R.uq Hhp9 (g := 8) rfl) (by decide) rfl fun z87 hz87 lz87 gz87 => ?_
      have e88 : z87.toInt = y17 := Option.some.inj (hz87.symm.trans hy17)
      refine Ev.step (j := 21) (s' := ([some (.ref 1), some (.ref 3), some (.int z1), some (.int k6), some (.int k7), some (.long w12), none, some (.int k8), o11], [.ref 1, .int z87], (0, 0), hp9)) rfl rfl ?_
      exact by
       refine bs_getI 8 rfl rfl rfl Hhp9 (bs_R.uq Hhp9 (g := 8) rfl) (by decide) rfl fun z89 hz89 lz89 gz89 => ?_
       have e90 : z89.toInt = n0 := Option.some.inj (hz89.symm.trans i14)
       refine bs_ge rfl (fun c91 => ?_) (fun c91 => ?_)
       · skip
         exact cut18 k6 k7 k8 w12 o11 hp9 t10 Hhp9 Fhp9 i14 (by exact ⟨⟨y17, hy17, ly17, gy17, xy17, ky17, sy17, ay17, dy17, py17, qy17, ny17, my17, iy17, jy17, fy17, cy17, oy17⟩, y17, hy17, ky17.symm.trans (tk_stop (Or.inl (by omega)))⟩) (by first | omega | assumption)
       · skip
         refine Ev.step (j := 28) (s' := ([some (.ref 1), some (.ref 3), some (.int z1), some (.int k6), some (.int k7), some (.long w12), none, some (.int k8), o11], [.ref 1], (0, 0), hp9)) rfl rfl ?_
         refine Ev.step (j := 29) (s' := ([some (.ref 1), some (.ref 3), some (.int z1), some (.int k6), some (.int k7), some (.long w12), none, some (.int k8), o11], [.ref 1, .ref 1], (0, 0), hp9)) rfl rfl ?_
         refine bs_getI 8 rfl rfl rfl Hhp9 (bs_R.uq Hhp9 (g := 8) rfl) (by decide) rfl fun z92 hz92 lz92 gz92 => ?_
         have e93 : z92.toInt = y17 := Option.some.inj (hz92.symm.trans hy17)
         refine va_ev rfl Hhp9 (by omega) rfl fun z94 vz94 lz94 gz94 => ?_
         exact by
          refine (show Ev _ 35 ([some (.ref 1), some (.ref 3), some (.int z1), some (.int k6), some (.int k7), some (.long w12), none, some (.int k8), o11], [.int z94], (0, 0), hp9) _ from ?_)
          have bz94 : BB (p0.toNat + (y17 - p0).toNat) = z94.toInt := (congrArg BB (show p0.toNat + (y17 - p0).toNat = z92.toInt.toNat by omega)).trans ((vz94.trans (bv_mask (by omega) (by omega))).trans (congrFun (EB _ (fun q => Fhp9.2.2.1 _ (bs_R.uq H (g := 123) (p := 2) rfl).1 _ (by rw [(bs_R.uq H (g := 123) (p := 2) rfl).2]; rfl))) _)).symm
          refine bs_pure [.int z94] [] rfl rfl rfl rfl px_X8_isLetter fun z95 hz95 => ?_
          refine (show Ev _ 38 ([some (.ref 1), some (.ref 3), some (.int z1), some (.int k6), some (.int k7), some (.long w12), none, some (.int k8), o11], [.int z95], (0, 0), hp9) _ from ?_)
          rcases hz95 with ⟨ez95, tz95⟩ | ⟨ez95, tz95⟩
          · skip
            refine bs_ifne rfl (fun c96 => ?_) (fun c96 => ?_)
            · skip
              refine Ev.step (j := 56) (s' := ([some (.ref 1), some (.ref 3), some (.int z1), some (.int k6), some (.int k7), some (.long w12), none, some (.int k8), o11], [.ref 1], (0, 0), hp9)) rfl rfl ?_
              refine Ev.step (j := 57) (s' := ([some (.ref 1), some (.ref 3), some (.int z1), some (.int k6), some (.int k7), some (.long w12), none, some (.int k8), o11], [.ref 1, .ref 1], (0, 0), hp9)) rfl rfl ?_
              refine bs_getI 8 rfl rfl rfl Hhp9 (bs_R.uq Hhp9 (g := 8) rfl) (by decide) rfl fun z97 hz97 lz97 gz97 => ?_
              have e98 : z97.toInt = y17 := Option.some.inj (hz97.symm.trans hy17)
              refine va_ev rfl Hhp9 (by omega) rfl fun z99 vz99 lz99 gz99 => ?_
              exact by
               refine (show Ev _ 63 ([some (.ref 1), some (.ref 3), some (.int z1), some (.int k6), some (.int k7), some (.long w12), none, some (.int k8), o11], [.int z99], (0, 0), hp9) _ from ?_)
               have bz99 : BB (p0.toNat + (y17 - p0).toNat) = z99.toInt := (congrArg BB (show p0.toNat + (y17 - p0).toNat = z97.toInt.toNat by omega)).trans ((vz99.trans (bv_mask (by omega) (by omega))).trans (congrFun (EB _ (fun q => Fhp9.2.2.1 _ (bs_R.uq H (g := 123) (p := 2) rfl).1 _ (by rw [(bs_R.uq H (g := 123) (p := 2) rfl).2]; rfl))) _)).symm
               refine Ev.step (j := 65) (s' := ([some (.ref 1), some (.ref 3), some (.int z1), some (.int k6), some (.int k7), some (.long w12), none, some (.int k8), some (.int z99)], [], (0, 0), hp9)) rfl rfl ?_
               refine Ev.step (j := 67) (s' := ([some (.ref 1), some (.ref 3), some (.int z1), some (.int k6), some (.int k7), some (.long w12), none, some (.int k8), some (.int z99)], [.int z99], (0, 0), hp9)) rfl rfl ?_
               refine bs_pure [.int z99] [] rfl rfl rfl rfl px_X8_isDigit fun z100 hz100 => ?_
               refine (show Ev _ 70 ([some (.ref 1), some (.ref 3), some (.int z1), some (.int k6), some (.int k7), some (.long w12), none, some (.int k8), some (.int z99)], [.int z100], (0, 0), hp9) _ from ?_)
               rcases hz100 with ⟨ez100, tz100⟩ | ⟨ez100, tz100⟩
               · exact absurd (tk_ld tz95) (by rw [show z94.toInt = z99.toInt by omega, tz100]; decide)
               · skip
                 refine bs_ifeq rfl (fun c101 => ?_) (fun c101 => ?_)
                 · skip
                   refine bs_iinc (1) rfl rfl rfl rfl (by omega) (by omega) fun z102 hz102 => ?_
                   exact by
                    refine (show Ev _ 106 ([some (.ref 1), some (.ref 3), some (.int z1), some (.int z102), some (.int k7), some (.long w12), none, some (.int k8), some (.int z99)], [], (0, 0), hp9) _ from ?_)
                    refine Ev.step (j := 107) (s' := ([some (.ref 1), some (.ref 3), some (.int z1), some (.int z102), some (.int k7), some (.long w12), none, some (.int k8), some (.int z99)], [.int z102], (0, 0), hp9)) rfl rfl ?_
                    refine bs_lit (k := 7) rfl rfl fun z103 hz103 => ?_
                    refine bs_gt rfl (fun c104 => ?_) (fun c104 => ?_)
                    · skip
                      refine Ev.step (j := 133) (s' := ([some (.ref 1), some (.ref 3), some (.int z1), some (.int z102), some (.int k7), some (.long w12), none, some (.int k8), some (.int z99)], [.long w12], (0, 0), hp9)) rfl rfl ?_
                      refine Ev.step (j := 135) (s' := ([some (.ref 1), some (.ref 3), some (.int z1), some (.int z102), some (.int k7), some (.long w12), none, some (.int k8), some (.int z99)], [], (0, 0), hp9)) rfl rfl ?_
                      refine Ev.step (j := 136) (s' := ([some (.ref 1), some (.ref 3), some (.int z1), some (.int z102), some (.int k7), some (.long w12), none, some (.int k8), some (.int z99)], [.ref 1], (0, 0), hp9)) rfl rfl ?_
                      refine Ev.step (j := 137) (s' := ([some (.ref 1), some (.ref 3), some (.int z1), some (.int z102), some (.int k7), some (.long w12), none, some (.int k8), some (.int z99)], [.ref 1, .ref 1], (0, 0), hp9)) rfl rfl ?_
                      exact by
                       refine bs_getI 8 rfl rfl rfl Hhp9 (bs_R.uq Hhp9 (g := 8) rfl) (by decide) rfl fun z105 hz105 lz105 gz105 => ?_
                       have e106 : z105.toInt = y17 := Option.some.inj (hz105.symm.trans hy17)
                       refine bs_lit (k := 1) rfl rfl fun z107 hz107 => ?_
                       first | (refine bs_add rfl (by omega) (by omega) fun z108 hz108 => ?_) | (refine bs_any rfl fun z108 => ?_)
                       have rz108 := n_range z108
                       refine bs_putIv (W := [(8, 2, 2)]) (g := 8) rfl rfl Hhp9 (bs_R.uq Hhp9 (g := 8) rfl) (by decide) rfl rfl rfl rfl (Or.inl rfl) (by omega) (by omega) fun hp109 Hhp109 fhp109 rhp109 ehp109 qhp109 nhp109 => ?_
                       have Fhp109 := sf_fr_tr Fhp9 (sf_fr_wider (W := [(8, 2, 2), (9, 3, 3), (124, 0, 900), (125, 0, 900), (126, 0, 0)]) rfl fhp109)
                       have h110 : sf_rd hp109 1 1 = some n0 := (ehp109 _ _ (Or.inr (by omega))).trans i14
                       refine Ev.step (j := 16) (s' := ([some (.ref 1), some (.ref 3), some (.int z1), some (.int z102), some (.int k7), some (.long w12), none, some (.int k8), some (.int z99)], [], (0, 0), hp109)) rfl rfl ?_
                       have EM : (z108.toInt - p0).toNat = (y17 - p0).toNat + 1 := by omega
                       have VB : BB (p0.toNat + (y17 - p0).toNat) = z99.toInt := bz99
                       have LT : tk_l (BB (p0.toNat + (y17 - p0).toNat)) = true := by rw [bz94]; exact tz95
                       have DT := tk_ld LT
                       have LI := tk_l_i LT
                       have INV : ∃ v : Int, sf_rd hp109 1 2 = some v ∧ p0 ≤ v ∧ v ≤ 940 ∧ (v = p0 ∨ v ≤ n0) ∧ tk_e tk_r BB n0.toNat v.toNat = tk_e tk_r BB n0.toNat p0.toNat ∧ z102.toInt + k7.toInt = v - p0 ∧ 0 ≤ z102.toInt ∧ 0 ≤ k7.toInt ∧ (k7.toInt = 0 ↔ allP tk_l BB p0.toNat (v - p0).toNat = true) ∧ (z102.toInt = 0 ↔ allP tk_d BB p0.toNat (v - p0).toNat = true) ∧ (k7.toInt = 0 → z102.toInt ≤ 7 → w12.toInt = w32 BB p0.toNat (v - p0).toNat) ∧ (z102.toInt = 0 → k7.toInt ≤ 3 → k8.toInt = nb BB p0.toNat (v - p0).toNat) ∧ 0 ≤ k8.toInt ∧ k8.toInt ≤ 999 ∧ (k7.toInt = 0 → k8.toInt = 0) ∧ (k7.toInt ≤ 1 → k8.toInt ≤ 9) ∧ (k7.toInt ≤ 2 → k8.toInt ≤ 99) := ⟨z108.toInt, rhp109, by omega, by omega, by omega, (by rw [show z108.toInt.toNat = y17.toNat + 1 by omega, ← tk_go (by omega) (show tk_r (BB y17.toNat) = true by rw [show y17.toNat = p0.toNat + (y17 - p0).toNat by omega]; exact tk_r_l LT)]; exact ky17), by omega, by omega, by omega, by rw [EM, allP_s LT]; exact py17, by rw [EM, allP_n DT]; exact ⟨fun e => absurd e (by omega), fun e => absurd e (by decide)⟩, fun e1 e2 => absurd e2 (by omega), fun e => absurd e (by omega), by omega, by omega, by omega, by omega, by omega⟩
                       have TUN : TU hp hp109 := i16.tr (TU_fr Hhp9 fhp109 rfl rfl rfl rfl)
                       have MS : (940 - (sf_rd hp109 1 2).getD 0).toNat < (940 - (sf_rd hp9 1 2).getD 0).toNat := by
                         rw [rhp109, hy17]
                         show (940 - z108.toInt).toNat < (940 - y17).toNat
                         omega
                       refine ih13 (z102, k7, k8, w12, (some (.int z99)), hp109, t10) ⟨Hhp109, Fhp109, h110, (by exact INV), (by first | exact TUN | exact TU.rf)⟩ ?_
                       show (940 - (sf_rd hp109 1 2).getD 0).toNat < (940 - (sf_rd hp9 1 2).getD 0).toNat
                       exact MS
                    · skip
                      refine Ev.step (j := 114) (s' := ([some (.ref 1), some (.ref 3), some (.int z1), some (.int z102), some (.int k7), some (.long w12), none, some (.int k8), some (.int z99)], [.long w12], (0, 0), hp9)) rfl rfl ?_
                      exact by
                       refine Ev.step (j := 117) (s' := ([some (.ref 1), some (.ref 3), some (.int z1), some (.int z102), some (.int k7), some (.long w12), none, some (.int k8), some (.int z99)], [.long (32 : Int64), .long w12], (0, 0), hp9)) rfl rfl ?_
                       refine Ev.step (j := 118) (s' := ([some (.ref 1), some (.ref 3), some (.int z1), some (.int z102), some (.int k7), some (.long w12), none, some (.int k8), some (.int z99)], [.long (w12 * (32 : Int64))], (0, 0), hp9)) rfl rfl ?_
                       refine Ev.step (j := 120) (s' := ([some (.ref 1), some (.ref 3), some (.int z1), some (.int z102), some (.int k7), some (.long w12), none, some (.int k8), some (.int z99)], [.int z99, .long (w12 * (32 : Int64))], (0, 0), hp9)) rfl rfl ?_
                       refine Ev.step (j := 121) (s' := ([some (.ref 1), some (.ref 3), some (.int z1), some (.int z102), some (.int k7), some (.long w12), none, some (.int k8), some (.int z99)], [.long (z99.toInt64), .long (w12 * (32 : Int64))], (0, 0), hp9)) rfl rfl ?_
                       refine Ev.step (j := 122) (s' := ([some (.ref 1), some (.ref 3), some (.int z1), some (.int z102), some (.int k7), some (.long w12), none, some (.int k8), some (.int z99)], [.long ((w12 * (32 : Int64)) + (z99.toInt64))], (0, 0), hp9)) rfl rfl ?_
                       refine Ev.step (j := 125) (s' := ([some (.ref 1), some (.ref 3), some (.int z1), some (.int z102), some (.int k7), some (.long w12), none, some (.int k8), some (.int z99)], [.long (97 : Int64), .long ((w12 * (32 : Int64)) + (z99.toInt64))], (0, 0), hp9)) rfl rfl ?_
                       refine Ev.step (j := 126) (s' := ([some (.ref 1), some (.ref 3), some (.int z1), some (.int z102), some (.int k7), some (.long w12), none, some (.int k8), some (.int z99)], [.long (((w12 * (32 : Int64)) + (z99.toInt64)) - (97 : Int64))], (0, 0), hp9)) rfl rfl ?_
                       refine Ev.step (j := 127) (s' := ([some (.ref 1), some (.ref 3), some (.int z1), some (.int z102), some (.int k7), some (.long w12), none, some (.int k8), some (.int z99)], [.long (1 : Int64), .long (((w12 * (32 : Int64)) + (z99.toInt64)) - (97 : Int64))], (0, 0), hp9)) rfl rfl ?_
                       exact by
                        refine Ev.step (j := 128) (s' := ([some (.ref 1), some (.ref 3), some (.int z1), some (.int z102), some (.int k7), some (.long w12), none, some (.int k8), some (.int z99)], [.long ((((w12 * (32 : Int64)) + (z99.toInt64)) - (97 : Int64)) + (1 : Int64))], (0, 0), hp9)) rfl rfl ?_
                        refine Ev.step (j := 133) (s' := ([some (.ref 1), some (.ref 3), some (.int z1), some (.int z102), some (.int k7), some (.long w12), none, some (.int k8), some (.int z99)], [.long ((((w12 * (32 : Int64)) + (z99.toInt64)) - (97 : Int64)) + (1 : Int64))], (0, 0), hp9)) rfl rfl ?_
                        refine Ev.step (j := 135) (s' := ([some (.ref 1), some (.ref 3), some (.int z1), some (.int z102), some (.int k7), some (.long ((((w12 * (32 : Int64)) + (z99.toInt64)) - (97 : Int64)) + (1 : Int64))), none, some (.int k8), some (.int z99)], [], (0, 0), hp9)) rfl rfl ?_
                        refine Ev.step (j := 136) (s' := ([some (.ref 1), some (.ref 3), some (.int z1), some (.int z102), some (.int k7), some (.long ((((w12 * (32 : Int64)) + (z99.toInt64)) - (97 : Int64)) + (1 : Int64))), none, some (.int k8), some (.int z99)], [.ref 1], (0, 0), hp9)) rfl rfl ?_
                        refine Ev.step (j := 137) (s' := ([some (.ref 1), some (.ref 3), some (.int z1), some (.int z102), some (.int k7), some (.long ((((w12 * (32 : Int64)) + (z99.toInt64)) - (97 : Int64)) + (1 : Int64))), none, some (.int k8), some (.int z99)], [.ref 1, .ref 1], (0, 0), hp9)) rfl rfl ?_
                        refine bs_getI 8 rfl rfl rfl Hhp9 (bs_R.uq Hhp9 (g := 8) rfl) (by decide) rfl fun z111 hz111 lz111 gz111 => ?_
                        have e112 : z111.toInt = y17 := Option.some.inj (hz111.symm.trans hy17)
                        refine bs_lit (k := 1) rfl rfl fun z113 hz113 => ?_
                        first | (refine bs_add rfl (by omega) (by omega) fun z114 hz114 => ?_) | (refine bs_any rfl fun z114 => ?_)
                        have rz114 := n_range z114
                        refine bs_putIv (W := [(8, 2, 2)]) (g := 8) rfl rfl Hhp9 (bs_R.uq Hhp9 (g := 8) rfl) (by decide) rfl rfl rfl rfl (Or.inl rfl) (by omega) (by omega) fun hp115 Hhp115 fhp115 rhp115 ehp115 qhp115 nhp115 => ?_
                        have Fhp115 := sf_fr_tr Fhp9 (sf_fr_wider (W := [(8, 2, 2), (9, 3, 3), (124, 0, 900), (125, 0, 900), (126, 0, 0)]) rfl fhp115)
                        have h116 : sf_rd hp115 1 1 = some n0 := (ehp115 _ _ (Or.inr (by omega))).trans i14
                        refine Ev.step (j := 16) (s' := ([some (.ref 1), some (.ref 3), some (.int z1), some (.int z102), some (.int k7), some (.long ((((w12 * (32 : Int64)) + (z99.toInt64)) - (97 : Int64)) + (1 : Int64))), none, some (.int k8), some (.int z99)], [], (0, 0), hp115)) rfl rfl ?_
                        have EM : (z114.toInt - p0).toNat = (y17 - p0).toNat + 1 := by omega
                        have VB : BB (p0.toNat + (y17 - p0).toNat) = z99.toInt := bz99
                        have LT : tk_l (BB (p0.toNat + (y17 - p0).toNat)) = true := by rw [bz94]; exact tz95
                        have DT := tk_ld LT
                        have LI := tk_l_i LT
                        have INV : ∃ v : Int, sf_rd hp115 1 2 = some v ∧ p0 ≤ v ∧ v ≤ 940 ∧ (v = p0 ∨ v ≤ n0) ∧ tk_e tk_r BB n0.toNat v.toNat = tk_e tk_r BB n0.toNat p0.toNat ∧ z102.toInt + k7.toInt = v - p0 ∧ 0 ≤ z102.toInt ∧ 0 ≤ k7.toInt ∧ (k7.toInt = 0 ↔ allP tk_l BB p0.toNat (v - p0).toNat = true) ∧ (z102.toInt = 0 ↔ allP tk_d BB p0.toNat (v - p0).toNat = true) ∧ (k7.toInt = 0 → z102.toInt ≤ 7 → ((((w12 * (32 : Int64)) + (z99.toInt64)) - (97 : Int64)) + (1 : Int64)).toInt = w32 BB p0.toNat (v - p0).toNat) ∧ (z102.toInt = 0 → k7.toInt ≤ 3 → k8.toInt = nb BB p0.toNat (v - p0).toNat) ∧ 0 ≤ k8.toInt ∧ k8.toInt ≤ 999 ∧ (k7.toInt = 0 → k8.toInt = 0) ∧ (k7.toInt ≤ 1 → k8.toInt ≤ 9) ∧ (k7.toInt ≤ 2 → k8.toInt ≤ 99) := ⟨z114.toInt, rhp115, by omega, by omega, by omega, (by rw [show z114.toInt.toNat = y17.toNat + 1 by omega, ← tk_go (by omega) (show tk_r (BB y17.toNat) = true by rw [show y17.toNat = p0.toNat + (y17 - p0).toNat by omega]; exact tk_r_l LT)]; exact ky17), by omega, by omega, by omega, by rw [EM, allP_s LT]; exact py17, by rw [EM, allP_n DT]; exact ⟨fun e => absurd e (by omega), fun e => absurd e (by decide)⟩, fun e1 e2 => by have W0 := ny17 e1 (by omega); have W1 := w32_rng (py17.mp e1) (show (y17 - p0).toNat ≤ 7 by omega); rw [EM]; show _ = w32 BB p0.toNat (y17 - p0).toNat * 32 + (BB (p0.toNat + (y17 - p0).toNat) - 96); rw [VB]; exact nm_step W0 (by omega) (by omega) (by omega) (by omega), fun e => absurd e (by omega), by omega, by omega, by omega, by omega, by omega⟩
                        have TUN : TU hp hp115 := i16.tr (TU_fr Hhp9 fhp115 rfl rfl rfl rfl)
                        have MS : (940 - (sf_rd hp115 1 2).getD 0).toNat < (940 - (sf_rd hp9 1 2).getD 0).toNat := by
                          rw [rhp115, hy17]
                          show (940 - z114.toInt).toNat < (940 - y17).toNat
                          omega
                        refine ih13 (z102, k7, k8, ((((w12 * (32 : Int64)) + (z99.toInt64)) - (97 : Int64)) + (1 : Int64)), (some (.int z99)), hp115, t10) ⟨Hhp115, Fhp115, h116, (by exact INV), (by first | exact TUN | exact TU.rf)⟩ ?_
                        show (940 - (sf_rd hp115 1 2).getD 0).toNat < (940 - (sf_rd hp9 1 2).getD 0).toNat
                        exact MS
                 · exfalso; omega
            · exfalso; omega
          · skip
            refine bs_ifne rfl (fun c117 => ?_) (fun c117 => ?_)
            · exfalso; omega
            · skip
              refine Ev.step (j := 42) (s' := ([some (.ref 1), some (.ref 3), some (.int z1), some (.int k6), some (.int k7), some (.long w12), none, some (.int k8), o11], [.ref 1], (0, 0), hp9)) rfl rfl ?_
              exact by
               refine Ev.step (j := 43) (s' := ([some (.ref 1), some (.ref 3), some (.int z1), some (.int k6), some (.int k7), some (.long w12), none, some (.int k8), o11], [.ref 1, .ref 1], (0, 0), hp9)) rfl rfl ?_
               refine bs_getI 8 rfl rfl rfl Hhp9 (bs_R.uq Hhp9 (g := 8) rfl) (by decide) rfl fun z118 hz118 lz118 gz118 => ?_
               have e119 : z118.toInt = y17 := Option.some.inj (hz118.symm.trans hy17)
               refine va_ev rfl Hhp9 (by omega) rfl fun z120 vz120 lz120 gz120 => ?_
               refine (show Ev _ 49 ([some (.ref 1), some (.ref 3), some (.int z1), some (.int k6), some (.int k7), some (.long w12), none, some (.int k8), o11], [.int z120], (0, 0), hp9) _ from ?_)
               have bz120 : BB (p0.toNat + (y17 - p0).toNat) = z120.toInt := (congrArg BB (show p0.toNat + (y17 - p0).toNat = z118.toInt.toNat by omega)).trans ((vz120.trans (bv_mask (by omega) (by omega))).trans (congrFun (EB _ (fun q => Fhp9.2.2.1 _ (bs_R.uq H (g := 123) (p := 2) rfl).1 _ (by rw [(bs_R.uq H (g := 123) (p := 2) rfl).2]; rfl))) _)).symm
               refine bs_pure [.int z120] [] rfl rfl rfl rfl px_X8_isDigit fun z121 hz121 => ?_
               refine (show Ev _ 52 ([some (.ref 1), some (.ref 3), some (.int z1), some (.int k6), some (.int k7), some (.long w12), none, some (.int k8), o11], [.int z121], (0, 0), hp9) _ from ?_)
               rcases hz121 with ⟨ez121, tz121⟩ | ⟨ez121, tz121⟩
               · skip
                 refine bs_ifeq rfl (fun c122 => ?_) (fun c122 => ?_)
                 · exfalso; omega
                 · skip
                   refine Ev.step (j := 56) (s' := ([some (.ref 1), some (.ref 3), some (.int z1), some (.int k6), some (.int k7), some (.long w12), none, some (.int k8), o11], [.ref 1], (0, 0), hp9)) rfl rfl ?_
                   exact by
                    refine Ev.step (j := 57) (s' := ([some (.ref 1), some (.ref 3), some (.int z1), some (.int k6), some (.int k7), some (.long w12), none, some (.int k8), o11], [.ref 1, .ref 1], (0, 0), hp9)) rfl rfl ?_
                    refine bs_getI 8 rfl rfl rfl Hhp9 (bs_R.uq Hhp9 (g := 8) rfl) (by decide) rfl fun z123 hz123 lz123 gz123 => ?_
                    have e124 : z123.toInt = y17 := Option.some.inj (hz123.symm.trans hy17)
                    refine va_ev rfl Hhp9 (by omega) rfl fun z125 vz125 lz125 gz125 => ?_
                    refine (show Ev _ 63 ([some (.ref 1), some (.ref 3), some (.int z1), some (.int k6), some (.int k7), some (.long w12), none, some (.int k8), o11], [.int z125], (0, 0), hp9) _ from ?_)
                    have bz125 : BB (p0.toNat + (y17 - p0).toNat) = z125.toInt := (congrArg BB (show p0.toNat + (y17 - p0).toNat = z123.toInt.toNat by omega)).trans ((vz125.trans (bv_mask (by omega) (by omega))).trans (congrFun (EB _ (fun q => Fhp9.2.2.1 _ (bs_R.uq H (g := 123) (p := 2) rfl).1 _ (by rw [(bs_R.uq H (g := 123) (p := 2) rfl).2]; rfl))) _)).symm
                    refine Ev.step (j := 65) (s' := ([some (.ref 1), some (.ref 3), some (.int z1), some (.int k6), some (.int k7), some (.long w12), none, some (.int k8), some (.int z125)], [], (0, 0), hp9)) rfl rfl ?_
                    refine Ev.step (j := 67) (s' := ([some (.ref 1), some (.ref 3), some (.int z1), some (.int k6), some (.int k7), some (.long w12), none, some (.int k8), some (.int z125)], [.int z125], (0, 0), hp9)) rfl rfl ?_
                    exact by
                     refine bs_pure [.int z125] [] rfl rfl rfl rfl px_X8_isDigit fun z126 hz126 => ?_
                     refine (show Ev _ 70 ([some (.ref 1), some (.ref 3), some (.int z1), some (.int k6), some (.int k7), some (.long w12), none, some (.int k8), some (.int z125)], [.int z126], (0, 0), hp9) _ from ?_)
                     rcases hz126 with ⟨ez126, tz126⟩ | ⟨ez126, tz126⟩
                     · skip
                       refine bs_ifeq rfl (fun c127 => ?_) (fun c127 => ?_)
                       · exfalso; omega
                       · skip
                         refine bs_iinc (1) rfl rfl rfl rfl (by omega) (by omega) fun z128 hz128 => ?_
                         refine (show Ev _ 76 ([some (.ref 1), some (.ref 3), some (.int z1), some (.int k6), some (.int z128), some (.long w12), none, some (.int k8), some (.int z125)], [], (0, 0), hp9) _ from ?_)
                         refine Ev.step (j := 78) (s' := ([some (.ref 1), some (.ref 3), some (.int z1), some (.int k6), some (.int z128), some (.long w12), none, some (.int k8), some (.int z125)], [.int z128], (0, 0), hp9)) rfl rfl ?_
                         refine bs_lit (k := 3) rfl rfl fun z129 hz129 => ?_
                         refine bs_gt rfl (fun c130 => ?_) (fun c130 => ?_)
                         · skip
                           refine Ev.step (j := 98) (s' := ([some (.ref 1), some (.ref 3), some (.int z1), some (.int k6), some (.int z128), some (.long w12), none, some (.int k8), some (.int z125)], [.int k8], (0, 0), hp9)) rfl rfl ?_
                           exact by
                            refine Ev.step (j := 100) (s' := ([some (.ref 1), some (.ref 3), some (.int z1), some (.int k6), some (.int z128), some (.long w12), none, some (.int k8), some (.int z125)], [], (0, 0), hp9)) rfl rfl ?_
                            refine Ev.step (j := 135) (s' := ([some (.ref 1), some (.ref 3), some (.int z1), some (.int k6), some (.int z128), some (.long w12), none, some (.int k8), some (.int z125)], [], (0, 0), hp9)) rfl rfl ?_
                            refine Ev.step (j := 136) (s' := ([some (.ref 1), some (.ref 3), some (.int z1), some (.int k6), some (.int z128), some (.long w12), none, some (.int k8), some (.int z125)], [.ref 1], (0, 0), hp9)) rfl rfl ?_
                            refine Ev.step (j := 137) (s' := ([some (.ref 1), some (.ref 3), some (.int z1), some (.int k6), some (.int z128), some (.long w12), none, some (.int k8), some (.int z125)], [.ref 1, .ref 1], (0, 0), hp9)) rfl rfl ?_
                            refine bs_getI 8 rfl rfl rfl Hhp9 (bs_R.uq Hhp9 (g := 8) rfl) (by decide) rfl fun z131 hz131 lz131 gz131 => ?_
                            have e132 : z131.toInt = y17 := Option.some.inj (hz131.symm.trans hy17)
                            refine bs_lit (k := 1) rfl rfl fun z133 hz133 => ?_
                            first | (refine bs_add rfl (by omega) (by omega) fun z134 hz134 => ?_) | (refine bs_any rfl fun z134 => ?_)
                            have rz134 := n_range z134
                            refine bs_putIv (W := [(8, 2, 2)]) (g := 8) rfl rfl Hhp9 (bs_R.uq Hhp9 (g := 8) rfl) (by decide) rfl rfl rfl rfl (Or.inl rfl) (by omega) (by omega) fun hp135 Hhp135 fhp135 rhp135 ehp135 qhp135 nhp135 => ?_
                            have Fhp135 := sf_fr_tr Fhp9 (sf_fr_wider (W := [(8, 2, 2), (9, 3, 3), (124, 0, 900), (125, 0, 900), (126, 0, 0)]) rfl fhp135)
                            have h136 : sf_rd hp135 1 1 = some n0 := (ehp135 _ _ (Or.inr (by omega))).trans i14
                            refine Ev.step (j := 16) (s' := ([some (.ref 1), some (.ref 3), some (.int z1), some (.int k6), some (.int z128), some (.long w12), none, some (.int k8), some (.int z125)], [], (0, 0), hp135)) rfl rfl ?_
                            have EM : (z134.toInt - p0).toNat = (y17 - p0).toNat + 1 := by omega
                            have VB : BB (p0.toNat + (y17 - p0).toNat) = z125.toInt := bz125
                            have DT : tk_d (BB (p0.toNat + (y17 - p0).toNat)) = true := by rw [VB]; exact tz126
                            have LT := tk_dl DT
                            have DI := tk_d_i DT
                            have INV : ∃ v : Int, sf_rd hp135 1 2 = some v ∧ p0 ≤ v ∧ v ≤ 940 ∧ (v = p0 ∨ v ≤ n0) ∧ tk_e tk_r BB n0.toNat v.toNat = tk_e tk_r BB n0.toNat p0.toNat ∧ k6.toInt + z128.toInt = v - p0 ∧ 0 ≤ k6.toInt ∧ 0 ≤ z128.toInt ∧ (z128.toInt = 0 ↔ allP tk_l BB p0.toNat (v - p0).toNat = true) ∧ (k6.toInt = 0 ↔ allP tk_d BB p0.toNat (v - p0).toNat = true) ∧ (z128.toInt = 0 → k6.toInt ≤ 7 → w12.toInt = w32 BB p0.toNat (v - p0).toNat) ∧ (k6.toInt = 0 → z128.toInt ≤ 3 → k8.toInt = nb BB p0.toNat (v - p0).toNat) ∧ 0 ≤ k8.toInt ∧ k8.toInt ≤ 999 ∧ (z128.toInt = 0 → k8.toInt = 0) ∧ (z128.toInt ≤ 1 → k8.toInt ≤ 9) ∧ (z128.toInt ≤ 2 → k8.toInt ≤ 99) := ⟨z134.toInt, rhp135, by omega, by omega, by omega, (by rw [show z134.toInt.toNat = y17.toNat + 1 by omega, ← tk_go (by omega) (show tk_r (BB y17.toNat) = true by rw [show y17.toNat = p0.toNat + (y17 - p0).toNat by omega]; exact tk_r_d DT)]; exact ky17), by omega, by omega, by omega, by rw [EM, allP_n LT]; exact ⟨fun e => absurd e (by omega), fun e => absurd e (by decide)⟩, by rw [EM, allP_s DT]; exact qy17, fun e => absurd e (by omega), fun e1 e2 => by rw [EM]; show _ = nb BB p0.toNat (y17 - p0).toNat * 10 + (BB (p0.toNat + (y17 - p0).toNat) - 48); rw [VB, ← my17 e1 (by omega)]; omega, by omega, by omega, by omega, by omega, by omega⟩
                            have TUN : TU hp hp135 := i16.tr (TU_fr Hhp9 fhp135 rfl rfl rfl rfl)
                            have MS : (940 - (sf_rd hp135 1 2).getD 0).toNat < (940 - (sf_rd hp9 1 2).getD 0).toNat := by
                              rw [rhp135, hy17]
                              show (940 - z134.toInt).toNat < (940 - y17).toNat
                              omega
                            refine ih13 (k6, z128, k8, w12, (some (.int z125)), hp135, t10) ⟨Hhp135, Fhp135, h136, (by exact INV), (by first | exact TUN | exact TU.rf)⟩ ?_
                            show (940 - (sf_rd hp135 1 2).getD 0).toNat < (940 - (sf_rd hp9 1 2).getD 0).toNat
                            exact MS
                         · skip
                           refine Ev.step (j := 84) (s' := ([some (.ref 1), some (.ref 3), some (.int z1), some (.int k6), some (.int z128), some (.long w12), none, some (.int k8), some (.int z125)], [.int k8], (0, 0), hp9)) rfl rfl ?_
                           exact by
                            refine bs_lit (k := 10) rfl rfl fun z137 hz137 => ?_
                            refine bs_mul (10) rfl (Or.inr hz137) (by rw [hz137]; omega) (by rw [hz137]; omega) fun z138 hz138 => ?_
                            rw [hz137] at hz138
                            refine Ev.step (j := 89) (s' := ([some (.ref 1), some (.ref 3), some (.int z1), some (.int k6), some (.int z128), some (.long w12), none, some (.int k8), some (.int z125)], [.int z125, .int z138], (0, 0), hp9)) rfl rfl ?_
                            first | (refine bs_add rfl (by omega) (by omega) fun z139 hz139 => ?_) | (refine bs_any rfl fun z139 => ?_)
                            have rz139 := n_range z139
                            refine bs_lit (k := 48) rfl rfl fun z140 hz140 => ?_
                            first | (refine bs_sub rfl (by omega) (by omega) fun z141 hz141 => ?_) | (refine bs_any rfl fun z141 => ?_)
                            have rz141 := n_range z141
                            refine Ev.step (j := 98) (s' := ([some (.ref 1), some (.ref 3), some (.int z1), some (.int k6), some (.int z128), some (.long w12), none, some (.int k8), some (.int z125)], [.int z141], (0, 0), hp9)) rfl rfl ?_
                            exact by
                             refine Ev.step (j := 100) (s' := ([some (.ref 1), some (.ref 3), some (.int z1), some (.int k6), some (.int z128), some (.long w12), none, some (.int z141), some (.int z125)], [], (0, 0), hp9)) rfl rfl ?_
                             refine Ev.step (j := 135) (s' := ([some (.ref 1), some (.ref 3), some (.int z1), some (.int k6), some (.int z128), some (.long w12), none, some (.int z141), some (.int z125)], [], (0, 0), hp9)) rfl rfl ?_
                             refine Ev.step (j := 136) (s' := ([some (.ref 1), some (.ref 3), some (.int z1), some (.int k6), some (.int z128), some (.long w12), none, some (.int z141), some (.int z125)], [.ref 1], (0, 0), hp9)) rfl rfl ?_
                             refine Ev.step (j := 137) (s' := ([some (.ref 1), some (.ref 3), some (.int z1), some (.int k6), some (.int z128), some (.long w12), none, some (.int z141), some (.int z125)], [.ref 1, .ref 1], (0, 0), hp9)) rfl rfl ?_
                             refine bs_getI 8 rfl rfl rfl Hhp9 (bs_R.uq Hhp9 (g := 8) rfl) (by decide) rfl fun z142 hz142 lz142 gz142 => ?_
                             have e143 : z142.toInt = y17 := Option.some.inj (hz142.symm.trans hy17)
                             refine bs_lit (k := 1) rfl rfl fun z144 hz144 => ?_
                             first | (refine bs_add rfl (by omega) (by omega) fun z145 hz145 => ?_) | (refine bs_any rfl fun z145 => ?_)
                             have rz145 := n_range z145
                             refine bs_putIv (W := [(8, 2, 2)]) (g := 8) rfl rfl Hhp9 (bs_R.uq Hhp9 (g := 8) rfl) (by decide) rfl rfl rfl rfl (Or.inl rfl) (by omega) (by omega) fun hp146 Hhp146 fhp146 rhp146 ehp146 qhp146 nhp146 => ?_
                             have Fhp146 := sf_fr_tr Fhp9 (sf_fr_wider (W := [(8, 2, 2), (9, 3, 3), (124, 0, 900), (125, 0, 900), (126, 0, 0)]) rfl fhp146)
                             have h147 : sf_rd hp146 1 1 = some n0 := (ehp146 _ _ (Or.inr (by omega))).trans i14
                             refine Ev.step (j := 16) (s' := ([some (.ref 1), some (.ref 3), some (.int z1), some (.int k6), some (.int z128), some (.long w12), none, some (.int z141), some (.int z125)], [], (0, 0), hp146)) rfl rfl ?_
                             have EM : (z145.toInt - p0).toNat = (y17 - p0).toNat + 1 := by omega
                             have VB : BB (p0.toNat + (y17 - p0).toNat) = z125.toInt := bz125
                             have DT : tk_d (BB (p0.toNat + (y17 - p0).toNat)) = true := by rw [VB]; exact tz126
                             have LT := tk_dl DT
                             have DI := tk_d_i DT
                             have INV : ∃ v : Int, sf_rd hp146 1 2 = some v ∧ p0 ≤ v ∧ v ≤ 940 ∧ (v = p0 ∨ v ≤ n0) ∧ tk_e tk_r BB n0.toNat v.toNat = tk_e tk_r BB n0.toNat p0.toNat ∧ k6.toInt + z128.toInt = v - p0 ∧ 0 ≤ k6.toInt ∧ 0 ≤ z128.toInt ∧ (z128.toInt = 0 ↔ allP tk_l BB p0.toNat (v - p0).toNat = true) ∧ (k6.toInt = 0 ↔ allP tk_d BB p0.toNat (v - p0).toNat = true) ∧ (z128.toInt = 0 → k6.toInt ≤ 7 → w12.toInt = w32 BB p0.toNat (v - p0).toNat) ∧ (k6.toInt = 0 → z128.toInt ≤ 3 → z141.toInt = nb BB p0.toNat (v - p0).toNat) ∧ 0 ≤ z141.toInt ∧ z141.toInt ≤ 999 ∧ (z128.toInt = 0 → z141.toInt = 0) ∧ (z128.toInt ≤ 1 → z141.toInt ≤ 9) ∧ (z128.toInt ≤ 2 → z141.toInt ≤ 99) := ⟨z145.toInt, rhp146, by omega, by omega, by omega, (by rw [show z145.toInt.toNat = y17.toNat + 1 by omega, ← tk_go (by omega) (show tk_r (BB y17.toNat) = true by rw [show y17.toNat = p0.toNat + (y17 - p0).toNat by omega]; exact tk_r_d DT)]; exact ky17), by omega, by omega, by omega, by rw [EM, allP_n LT]; exact ⟨fun e => absurd e (by omega), fun e => absurd e (by decide)⟩, by rw [EM, allP_s DT]; exact qy17, fun e => absurd e (by omega), fun e1 e2 => by rw [EM]; show _ = nb BB p0.toNat (y17 - p0).toNat * 10 + (BB (p0.toNat + (y17 - p0).toNat) - 48); rw [VB, ← my17 e1 (by omega)]; omega, by omega, by omega, by omega, by omega, by omega⟩
                             have TUN : TU hp hp146 := i16.tr (TU_fr Hhp9 fhp146 rfl rfl rfl rfl)
                             have MS : (940 - (sf_rd hp146 1 2).getD 0).toNat < (940 - (sf_rd hp9 1 2).getD 0).toNat := by
                               rw [rhp146, hy17]
                               show (940 - z145.toInt).toNat < (940 - y17).toNat
                               omega
                             refine ih13 (k6, z128, z141, w12, (some (.int z125)), hp146, t10) ⟨Hhp146, Fhp146, h147, (by exact INV), (by first | exact TUN | exact TU.rf)⟩ ?_
                             show (940 - (sf_rd hp146 1 2).getD 0).toNat < (940 - (sf_rd hp9 1 2).getD 0).toNat
                             exact MS
                     · exact absurd tz121 (by rw [show z120.toInt = z125.toInt by omega, tz126]; decide)
               · skip
                 refine bs_ifeq rfl (fun c148 => ?_) (fun c148 => ?_)
                 · skip
                   exact cut18 k6 k7 k8 w12 o11 hp9 t10 Hhp9 Fhp9 i14 (by exact ⟨⟨y17, hy17, ly17, gy17, xy17, ky17, sy17, ay17, dy17, py17, qy17, ny17, my17, iy17, jy17, fy17, cy17, oy17⟩, y17, hy17, ky17.symm.trans (tk_stop (Or.inr (by rw [show y17.toNat = p0.toNat + (y17 - p0).toNat by omega, bz94]; exact tk_r_f tz95 (by rw [show z94.toInt = z120.toInt by omega]; exact tz121))))⟩) (by first | omega | assumption)
                 · exfalso; omega
def kq_X8_cutToken_v : sf_Q := ([(1, 8, 0), (1, 9, 0)], [(1, 27008, 0, 0, 939, 0)], some (0, 0, 0), [], [(8, 2, 2), (9, 3, 3), (124, 0, 900), (125, 0, 900), (126, 0, 0)])
def ke_X8_cutToken_v : List Value → ab_H → Option Value → ab_H → Prop := fun _ hp r hp' => ∀ p n m : Int, sf_rd hp 1 2 = some p → sf_rd hp 1 1 = some n → sf_rd hp 3 3 = some m → p < n → m ≤ 900 → ∃ z : Int32, r = some (.int z) ∧ z.toInt = (tct (bv hp 2 n.toNat) n.toNat p.toNat).k ∧ sf_rd hp' 1 2 = some ((tct (bv hp 2 n.toNat) n.toNat p.toNat).nx : Int) ∧ ADT hp hp' m (tct (bv hp 2 n.toNat) n.toNat p.toNat)
set_option maxRecDepth 100000 in
set_option maxHeartbeats 4000000 in
theorem ce_X8_cutToken_v : sf_cE kq_X8_cutToken_v Z_X8_cutToken ke_X8_cutToken_v := by
  intro t hp as H hl hj hpre
  match as, hl with
  | [v0, v1], _ =>
    obtain ⟨a0, rfl, ra0⟩ := bs_aR (hj 0 _ rfl)
    obtain rfl := ra0.eq H (p := 1) rfl
    obtain ⟨a1, rfl, ra1⟩ := bs_aR (hj 1 _ rfl)
    obtain rfl := ra1.eq H (p := 3) rfl
    obtain ⟨pv0, pe0, pl0, ph0⟩ := (hpre _ (List.mem_of_getElem? (i := 0) rfl)).1 rfl
    replace pe0 : sf_rd hp 1 2 = some pv0 := pe0
    replace pl0 : (0 : Int) ≤ pv0 := pl0
    replace ph0 : pv0 ≤ (939 : Int) := ph0
    clear hpre hj
    have F0 : sf_fr [(8, 2, 2), (9, 3, 3), (124, 0, 900), (125, 0, 900), (126, 0, 0)] t hp t hp := sf_fr_rf
    refine bs_finx (E := ke_X8_cutToken_v) (K := kq_X8_cutToken_v) (L := (L_X8_cutToken Z_X8_valueAt Z_X8_isLetter Z_X8_isDigit Z_X8_cutRun Z_X8_isSign Z_X9_add)) (nL := 4) (Nat.le_of_ble_eq_true rfl) ?_
    obtain ⟨Q, hQ⟩ : ∃ Q : ab_O → Prop, Q = (fun o => ∃ t', sf_h t' o.2 ∧ sf_fr (kq_X8_cutToken_v).2.2.2.2 t hp t' o.2 ∧ sf_an t' o.2.1 (kq_X8_cutToken_v).2.2.1 o.1 ∧ sf_S (sf_v1 o.1 [.ref 1, .ref 3] o.2) (kq_X8_cutToken_v).2.2.2.1 ∧ ke_X8_cutToken_v [.ref 1, .ref 3] hp o.1 o.2) := ⟨_, rfl⟩
    rw [← hQ]
    refine (show Ev (ab_T (L_X8_cutToken Z_X8_valueAt Z_X8_isLetter Z_X8_isDigit Z_X8_cutRun Z_X8_isSign Z_X9_add)) 0 ([some (.ref 1), some (.ref 3), none, none], [], (0, 0), hp) Q from ?_)
    obtain ⟨n0, hn0, ln0, un0⟩ := bs_fld (k := 1) H (bs_R.uq H (g := 8) rfl) (by decide) rfl
    obtain ⟨BB, hBB⟩ : ∃ BB : Nat → Int, BB = bv hp 2 940 := ⟨_, rfl⟩
    have EB : ∀ hp' : ab_H, (∀ q, sf_rd hp' 2 q = sf_rd hp 2 q) → bv hp' 2 940 = BB := fun hp' h => (bv_same h).trans hBB.symm
    have RB : ∀ q, 0 ≤ BB q ∧ BB q ≤ 255 := fun q => by rw [hBB]; exact bv_rng _ _ _ _
    refine Ev.step (j := 1) (s' := ([some (.ref 1), some (.ref 3), none, none], [.ref 1], (0, 0), hp)) rfl rfl ?_
    exact by
     refine Ev.step (j := 2) (s' := ([some (.ref 1), some (.ref 3), none, none], [.ref 1, .ref 1], (0, 0), hp)) rfl rfl ?_
     refine bs_getI 8 rfl rfl rfl H (bs_R.uq H (g := 8) rfl) (by decide) rfl fun z1 hz1 lz1 gz1 => ?_
     have e2 : z1.toInt = pv0 := Option.some.inj (hz1.symm.trans pe0)
     refine va_ev rfl H (by omega) rfl fun z3 vz3 lz3 gz3 => ?_
     refine (show Ev _ 8 ([some (.ref 1), some (.ref 3), none, none], [.int z3], (0, 0), hp) _ from ?_)
     have bz3 : BB (pv0.toNat) = z3.toInt := (congrArg BB (show pv0.toNat = z1.toInt.toNat by omega)).trans ((vz3).trans (congrFun (EB _ (fun _ => rfl)) _)).symm
     refine Ev.step (j := 9) (s' := ([some (.ref 1), some (.ref 3), some (.int z3), none], [], (0, 0), hp)) rfl rfl ?_
     refine Ev.step (j := 10) (s' := ([some (.ref 1), some (.ref 3), some (.int z3), none], [.int z3], (0, 0), hp)) rfl rfl ?_
     exact by
      refine bs_pure [.int z3] [] rfl rfl rfl rfl px_X8_isLetter fun z4 hz4 => ?_
      refine (show Ev _ 13 ([some (.ref 1), some (.ref 3), some (.int z3), none], [.int z4], (0, 0), hp) _ from ?_)
      rcases hz4 with ⟨ez4, tz4⟩ | ⟨ez4, tz4⟩
      · skip
        refine bs_ifne rfl (fun c5 => ?_) (fun c5 => ?_)
        · skip
          refine Ev.step (j := 24) (s' := ([some (.ref 1), some (.ref 3), some (.int z3), none], [.ref 1], (0, 0), hp)) rfl rfl ?_
          refine Ev.step (j := 25) (s' := ([some (.ref 1), some (.ref 3), some (.int z3), none], [.ref 3, .ref 1], (0, 0), hp)) rfl rfl ?_
          refine bs_callx (K := kq_X8_cutRun_v) [.ref 1, .ref 3] [] rfl ce_X8_cutRun_v H rfl rfl rfl (bs_rcv (g := 8) H (bs_R.uq H (g := 8) rfl) (by decide) rfl) rfl ?_ (sf_S_nil) fun r6 hp7 thp7 Hhp7 fhp7 ahp7 php7 xhp7 => ?_
          · intro q k h
            match q, h with
            | 0, h => cases h; exact bs_jR (bs_R.uq H (g := 8) rfl)
            | 1, h => cases h; exact bs_jR (bs_R.uq H (g := 9) rfl)
            | q + 2, h => cases h
          obtain ⟨z8, rfl⟩ := bs_anI ahp7
          have rgz8 := n_range z8
          have Fhp7 := sf_fr_tr F0 (sf_fr_wider (W := [(8, 2, 2), (9, 3, 3), (124, 0, 900), (125, 0, 900), (126, 0, 0)]) rfl fhp7)
          have h9 : sf_rd hp7 1 1 = some n0 := (fhp7.2.2.1 _ (bs_R.uq H (g := 8) (p := 1) rfl).1 _ (by rw [(bs_R.uq H (g := 8) (p := 1) rfl).2]; rfl)).trans hn0
          obtain ⟨uz8, vz8⟩ := bs_s1 (x := z8.toInt) rfl (php7 _ (List.mem_of_getElem? (i := 0) rfl))
          refine (show Ev _ 28 ([some (.ref 1), some (.ref 3), some (.int z3), none], [.int z8], (0, 0), hp7) _ from ?_)
          exact Ev.ret rfl rfl (by rw [hQ]; exact ⟨thp7, Hhp7, Fhp7, bs_an0, sf_S_nil, (fun p n m hp_ hn_ hm_ hlt hle => by
                  have eqP : p = pv0 := Option.some.inj (hp_.symm.trans pe0); subst eqP; have eqN : n = n0 := Option.some.inj (hn_.symm.trans hn0); subst eqN; have EBB : BB p.toNat = bv hp 2 n.toNat p.toNat := by rw [hBB]; exact bv_mask (by omega) (by omega)
                  have X := xhp7 _ _ _ pe0 hn_ hm_ hle
                  rw [show tct (bv hp 2 n.toNat) n.toNat p.toNat = _ from if_pos (by rw [← EBB, bz3]; exact tk_r_l tz4)]
                  exact X)⟩)
        · exfalso; omega
      · skip
        refine bs_ifne rfl (fun c10 => ?_) (fun c10 => ?_)
        · exfalso; omega
        · skip
          refine Ev.step (j := 17) (s' := ([some (.ref 1), some (.ref 3), some (.int z3), none], [.int z3], (0, 0), hp)) rfl rfl ?_
          exact by
           refine bs_pure [.int z3] [] rfl rfl rfl rfl px_X8_isDigit fun z11 hz11 => ?_
           refine (show Ev _ 20 ([some (.ref 1), some (.ref 3), some (.int z3), none], [.int z11], (0, 0), hp) _ from ?_)
           rcases hz11 with ⟨ez11, tz11⟩ | ⟨ez11, tz11⟩
           · skip
             refine bs_ifeq rfl (fun c12 => ?_) (fun c12 => ?_)
             · exfalso; omega
             · skip
               refine Ev.step (j := 24) (s' := ([some (.ref 1), some (.ref 3), some (.int z3), none], [.ref 1], (0, 0), hp)) rfl rfl ?_
               refine Ev.step (j := 25) (s' := ([some (.ref 1), some (.ref 3), some (.int z3), none], [.ref 3, .ref 1], (0, 0), hp)) rfl rfl ?_
               refine bs_callx (K := kq_X8_cutRun_v) [.ref 1, .ref 3] [] rfl ce_X8_cutRun_v H rfl rfl rfl (bs_rcv (g := 8) H (bs_R.uq H (g := 8) rfl) (by decide) rfl) rfl ?_ (sf_S_nil) fun r13 hp14 thp14 Hhp14 fhp14 ahp14 php14 xhp14 => ?_
               · intro q k h
                 match q, h with
                 | 0, h => cases h; exact bs_jR (bs_R.uq H (g := 8) rfl)
                 | 1, h => cases h; exact bs_jR (bs_R.uq H (g := 9) rfl)
                 | q + 2, h => cases h
               obtain ⟨z15, rfl⟩ := bs_anI ahp14
               have rgz15 := n_range z15
               have Fhp14 := sf_fr_tr F0 (sf_fr_wider (W := [(8, 2, 2), (9, 3, 3), (124, 0, 900), (125, 0, 900), (126, 0, 0)]) rfl fhp14)
               have h16 : sf_rd hp14 1 1 = some n0 := (fhp14.2.2.1 _ (bs_R.uq H (g := 8) (p := 1) rfl).1 _ (by rw [(bs_R.uq H (g := 8) (p := 1) rfl).2]; rfl)).trans hn0
               obtain ⟨uz15, vz15⟩ := bs_s1 (x := z15.toInt) rfl (php14 _ (List.mem_of_getElem? (i := 0) rfl))
               refine (show Ev _ 28 ([some (.ref 1), some (.ref 3), some (.int z3), none], [.int z15], (0, 0), hp14) _ from ?_)
               exact Ev.ret rfl rfl (by rw [hQ]; exact ⟨thp14, Hhp14, Fhp14, bs_an0, sf_S_nil, (fun p n m hp_ hn_ hm_ hlt hle => by
                       have eqP : p = pv0 := Option.some.inj (hp_.symm.trans pe0); subst eqP; have eqN : n = n0 := Option.some.inj (hn_.symm.trans hn0); subst eqN; have EBB : BB p.toNat = bv hp 2 n.toNat p.toNat := by rw [hBB]; exact bv_mask (by omega) (by omega)
                       have X := xhp14 _ _ _ pe0 hn_ hm_ hle
                       rw [show tct (bv hp 2 n.toNat) n.toNat p.toNat = _ from if_pos (by rw [← EBB, bz3]; exact tk_r_d tz11)]
                       exact X)⟩)
           · skip
             refine bs_ifeq rfl (fun c17 => ?_) (fun c17 => ?_)
             · skip
               refine Ev.step (j := 30) (s' := ([some (.ref 1), some (.ref 3), some (.int z3), none], [.int z3], (0, 0), hp)) rfl rfl ?_
               exact by
                refine bs_pure [.int z3] [] rfl rfl rfl rfl px_X8_isSign fun z18 hz18 => ?_
                refine (show Ev _ 33 ([some (.ref 1), some (.ref 3), some (.int z3), none], [.int z18], (0, 0), hp) _ from ?_)
                rcases hz18 with ⟨ez18, tz18⟩ | ⟨ez18, tz18⟩
                · skip
                  refine bs_ifeq rfl (fun c19 => ?_) (fun c19 => ?_)
                  · exfalso; omega
                  · skip
                    refine Ev.step (j := 37) (s' := ([some (.ref 1), some (.ref 3), some (.int z3), none], [.int z3], (0, 0), hp)) rfl rfl ?_
                    refine Ev.step (j := 41) (s' := ([some (.ref 1), some (.ref 3), some (.int z3), none], [.int z3], (0, 0), hp)) rfl rfl ?_
                    refine Ev.step (j := 42) (s' := ([some (.ref 1), some (.ref 3), some (.int z3), some (.int z3)], [], (0, 0), hp)) rfl rfl ?_
                    refine Ev.step (j := 43) (s' := ([some (.ref 1), some (.ref 3), some (.int z3), some (.int z3)], [.ref 3], (0, 0), hp)) rfl rfl ?_
                    refine Ev.step (j := 44) (s' := ([some (.ref 1), some (.ref 3), some (.int z3), some (.int z3)], [.int z3, .ref 3], (0, 0), hp)) rfl rfl ?_
                    exact by
                     refine Ev.step (j := 45) (s' := ([some (.ref 1), some (.ref 3), some (.int z3), some (.int z3)], [.ref 1, .int z3, .ref 3], (0, 0), hp)) rfl rfl ?_
                     refine bs_getI 8 rfl rfl rfl H (bs_R.uq H (g := 8) rfl) (by decide) rfl fun z20 hz20 lz20 gz20 => ?_
                     have e21 : z20.toInt = pv0 := Option.some.inj (hz20.symm.trans pe0)
                     refine Ev.step (j := 49) (s' := ([some (.ref 1), some (.ref 3), some (.int z3), some (.int z3)], [.long (0 : Int64), .int z20, .int z3, .ref 3], (0, 0), hp)) rfl rfl ?_
                     refine bs_callx (K := kq_X9_add_v) [.ref 3, .int z3, .int z20, .long (0 : Int64)] [] rfl ce_X9_add_v H rfl rfl rfl (bs_rcv (g := 9) H (bs_R.uq H (g := 9) rfl) (by decide) rfl) rfl ?_ (sf_S_nil) fun r22 hp23 thp23 Hhp23 fhp23 ahp23 php23 xhp23 => ?_
                     · intro q k h
                       match q, h with
                       | 0, h => cases h; exact bs_jR (bs_R.uq H (g := 9) rfl)
                       | 1, h => cases h; exact sf_j0
                       | 2, h => cases h; exact sf_j0
                       | 3, h => cases h; exact sf_j2
                       | q + 4, h => cases h
                     obtain rfl := ahp23.1 rfl
                     have Fhp23 := sf_fr_tr F0 (sf_fr_wider (W := [(8, 2, 2), (9, 3, 3), (124, 0, 900), (125, 0, 900), (126, 0, 0)]) rfl fhp23)
                     have h24 : sf_rd hp23 1 2 = some pv0 := (fhp23.2.2.1 _ (bs_R.uq H (g := 8) (p := 1) rfl).1 _ (by rw [(bs_R.uq H (g := 8) (p := 1) rfl).2]; rfl)).trans pe0
                     have h25 : sf_rd hp23 1 1 = some n0 := (fhp23.2.2.1 _ (bs_R.uq H (g := 8) (p := 1) rfl).1 _ (by rw [(bs_R.uq H (g := 8) (p := 1) rfl).2]; rfl)).trans hn0
                     refine (show Ev _ 52 ([some (.ref 1), some (.ref 3), some (.int z3), some (.int z3)], [], (0, 0), hp23) _ from ?_)
                     exact by
                      refine Ev.step (j := 53) (s' := ([some (.ref 1), some (.ref 3), some (.int z3), some (.int z3)], [.ref 1], (0, 0), hp23)) rfl rfl ?_
                      refine Ev.step (j := 54) (s' := ([some (.ref 1), some (.ref 3), some (.int z3), some (.int z3)], [.ref 1, .ref 1], (0, 0), hp23)) rfl rfl ?_
                      refine bs_getI 8 rfl rfl rfl Hhp23 (bs_R.uq Hhp23 (g := 8) rfl) (by decide) rfl fun z26 hz26 lz26 gz26 => ?_
                      have e27 : z26.toInt = pv0 := Option.some.inj (hz26.symm.trans h24)
                      refine bs_lit (k := 1) rfl rfl fun z28 hz28 => ?_
                      first | (refine bs_add rfl (by omega) (by omega) fun z29 hz29 => ?_) | (refine bs_any rfl fun z29 => ?_)
                      have rz29 := n_range z29
                      refine bs_putIv (W := [(8, 2, 2)]) (g := 8) rfl rfl Hhp23 (bs_R.uq Hhp23 (g := 8) rfl) (by decide) rfl rfl rfl rfl (Or.inl rfl) (by omega) (by omega) fun hp30 Hhp30 fhp30 rhp30 ehp30 qhp30 nhp30 => ?_
                      have Fhp30 := sf_fr_tr Fhp23 (sf_fr_wider (W := [(8, 2, 2), (9, 3, 3), (124, 0, 900), (125, 0, 900), (126, 0, 0)]) rfl fhp30)
                      have h31 : sf_rd hp30 1 1 = some n0 := (ehp30 _ _ (Or.inr (by omega))).trans h25
                      refine Ev.step (j := 63) (s' := ([some (.ref 1), some (.ref 3), some (.int z3), some (.int z3)], [.int z3], (0, 0), hp30)) rfl rfl ?_
                      exact Ev.ret rfl rfl (by rw [hQ]; exact ⟨thp23, Hhp30, Fhp30, bs_an0, sf_S_nil, (fun p n m hp_ hn_ hm_ hlt hle => by
                              have eqP : p = pv0 := Option.some.inj (hp_.symm.trans pe0); subst eqP; have eqN : n = n0 := Option.some.inj (hn_.symm.trans hn0); subst eqN; have EBB : BB p.toNat = bv hp 2 n.toNat p.toNat := by rw [hBB]; exact bv_mask (by omega) (by omega)
                              rw [show tct (bv hp 2 n.toNat) n.toNat p.toNat = ⟨tsg ((bv hp 2 n.toNat) p.toNat), p.toNat, 0, p.toNat + 1⟩ from if_neg (by rw [← EBB, bz3, tk_r_f tz4 tz11]; decide)]
                              have KV : z3.toInt = TT.k ⟨tsg ((bv hp 2 n.toNat) p.toNat), p.toNat, 0, p.toNat + 1⟩ := by show _ = tsg ((bv hp 2 n.toNat) p.toNat); rw [← EBB, bz3]; exact (if_pos tz18).symm
                              have PL : z20.toInt = TT.pl ⟨tsg ((bv hp 2 n.toNat) p.toNat), p.toNat, 0, p.toNat + 1⟩ := by show _ = ((p.toNat : Nat) : Int); omega
                              have AA := xhp23 _ _ _ _ rfl hm_ hle
                              rw [KV, PL] at AA
                              exact ⟨z3, rfl, KV, rhp30.trans (congrArg some (by show _ = ((p.toNat + 1 : Nat) : Int); omega)), (0 : Int64), AD_back AA (fun q => (ehp30 _ _ (Or.inl (by decide)))) (fun q => (ehp30 _ _ (Or.inl (by decide)))) (fun q => (nhp30 _ _)) (ehp30 _ _ (Or.inl (by decide))), tsg_v⟩)⟩)
                · skip
                  refine bs_ifeq rfl (fun c32 => ?_) (fun c32 => ?_)
                  · skip
                    refine bs_lit (k := 1) rfl rfl fun z33 hz33 => ?_
                    exact by
                     refine Ev.step (j := 42) (s' := ([some (.ref 1), some (.ref 3), some (.int z3), some (.int z33)], [], (0, 0), hp)) rfl rfl ?_
                     refine Ev.step (j := 43) (s' := ([some (.ref 1), some (.ref 3), some (.int z3), some (.int z33)], [.ref 3], (0, 0), hp)) rfl rfl ?_
                     refine Ev.step (j := 44) (s' := ([some (.ref 1), some (.ref 3), some (.int z3), some (.int z33)], [.int z33, .ref 3], (0, 0), hp)) rfl rfl ?_
                     refine Ev.step (j := 45) (s' := ([some (.ref 1), some (.ref 3), some (.int z3), some (.int z33)], [.ref 1, .int z33, .ref 3], (0, 0), hp)) rfl rfl ?_
                     refine bs_getI 8 rfl rfl rfl H (bs_R.uq H (g := 8) rfl) (by decide) rfl fun z34 hz34 lz34 gz34 => ?_
                     have e35 : z34.toInt = pv0 := Option.some.inj (hz34.symm.trans pe0)
                     refine Ev.step (j := 49) (s' := ([some (.ref 1), some (.ref 3), some (.int z3), some (.int z33)], [.long (0 : Int64), .int z34, .int z33, .ref 3], (0, 0), hp)) rfl rfl ?_
                     refine bs_callx (K := kq_X9_add_v) [.ref 3, .int z33, .int z34, .long (0 : Int64)] [] rfl ce_X9_add_v H rfl rfl rfl (bs_rcv (g := 9) H (bs_R.uq H (g := 9) rfl) (by decide) rfl) rfl ?_ (sf_S_nil) fun r36 hp37 thp37 Hhp37 fhp37 ahp37 php37 xhp37 => ?_
                     · intro q k h
                       match q, h with
                       | 0, h => cases h; exact bs_jR (bs_R.uq H (g := 9) rfl)
                       | 1, h => cases h; exact sf_j0
                       | 2, h => cases h; exact sf_j0
                       | 3, h => cases h; exact sf_j2
                       | q + 4, h => cases h
                     obtain rfl := ahp37.1 rfl
                     have Fhp37 := sf_fr_tr F0 (sf_fr_wider (W := [(8, 2, 2), (9, 3, 3), (124, 0, 900), (125, 0, 900), (126, 0, 0)]) rfl fhp37)
                     have h38 : sf_rd hp37 1 2 = some pv0 := (fhp37.2.2.1 _ (bs_R.uq H (g := 8) (p := 1) rfl).1 _ (by rw [(bs_R.uq H (g := 8) (p := 1) rfl).2]; rfl)).trans pe0
                     have h39 : sf_rd hp37 1 1 = some n0 := (fhp37.2.2.1 _ (bs_R.uq H (g := 8) (p := 1) rfl).1 _ (by rw [(bs_R.uq H (g := 8) (p := 1) rfl).2]; rfl)).trans hn0
                     refine (show Ev _ 52 ([some (.ref 1), some (.ref 3), some (.int z3), some (.int z33)], [], (0, 0), hp37) _ from ?_)
                     exact by
                      refine Ev.step (j := 53) (s' := ([some (.ref 1), some (.ref 3), some (.int z3), some (.int z33)], [.ref 1], (0, 0), hp37)) rfl rfl ?_
                      refine Ev.step (j := 54) (s' := ([some (.ref 1), some (.ref 3), some (.int z3), some (.int z33)], [.ref 1, .ref 1], (0, 0), hp37)) rfl rfl ?_
                      refine bs_getI 8 rfl rfl rfl Hhp37 (bs_R.uq Hhp37 (g := 8) rfl) (by decide) rfl fun z40 hz40 lz40 gz40 => ?_
                      have e41 : z40.toInt = pv0 := Option.some.inj (hz40.symm.trans h38)
                      refine bs_lit (k := 1) rfl rfl fun z42 hz42 => ?_
                      first | (refine bs_add rfl (by omega) (by omega) fun z43 hz43 => ?_) | (refine bs_any rfl fun z43 => ?_)
                      have rz43 := n_range z43
                      refine bs_putIv (W := [(8, 2, 2)]) (g := 8) rfl rfl Hhp37 (bs_R.uq Hhp37 (g := 8) rfl) (by decide) rfl rfl rfl rfl (Or.inl rfl) (by omega) (by omega) fun hp44 Hhp44 fhp44 rhp44 ehp44 qhp44 nhp44 => ?_
                      have Fhp44 := sf_fr_tr Fhp37 (sf_fr_wider (W := [(8, 2, 2), (9, 3, 3), (124, 0, 900), (125, 0, 900), (126, 0, 0)]) rfl fhp44)
                      have h45 : sf_rd hp44 1 1 = some n0 := (ehp44 _ _ (Or.inr (by omega))).trans h39
                      refine Ev.step (j := 63) (s' := ([some (.ref 1), some (.ref 3), some (.int z3), some (.int z33)], [.int z33], (0, 0), hp44)) rfl rfl ?_
                      exact Ev.ret rfl rfl (by rw [hQ]; exact ⟨thp37, Hhp44, Fhp44, bs_an0, sf_S_nil, (fun p n m hp_ hn_ hm_ hlt hle => by
                              have eqP : p = pv0 := Option.some.inj (hp_.symm.trans pe0); subst eqP; have eqN : n = n0 := Option.some.inj (hn_.symm.trans hn0); subst eqN; have EBB : BB p.toNat = bv hp 2 n.toNat p.toNat := by rw [hBB]; exact bv_mask (by omega) (by omega)
                              rw [show tct (bv hp 2 n.toNat) n.toNat p.toNat = ⟨tsg ((bv hp 2 n.toNat) p.toNat), p.toNat, 0, p.toNat + 1⟩ from if_neg (by rw [← EBB, bz3, tk_r_f tz4 tz11]; decide)]
                              have KV : z33.toInt = TT.k ⟨tsg ((bv hp 2 n.toNat) p.toNat), p.toNat, 0, p.toNat + 1⟩ := by show _ = tsg ((bv hp 2 n.toNat) p.toNat); rw [← EBB, bz3]; exact (show z33.toInt = 1 by omega).trans (if_neg tz18).symm
                              have PL : z34.toInt = TT.pl ⟨tsg ((bv hp 2 n.toNat) p.toNat), p.toNat, 0, p.toNat + 1⟩ := by show _ = ((p.toNat : Nat) : Int); omega
                              have AA := xhp37 _ _ _ _ rfl hm_ hle
                              rw [KV, PL] at AA
                              exact ⟨z33, rfl, KV, rhp44.trans (congrArg some (by show _ = ((p.toNat + 1 : Nat) : Int); omega)), (0 : Int64), AD_back AA (fun q => (ehp44 _ _ (Or.inl (by decide)))) (fun q => (ehp44 _ _ (Or.inl (by decide)))) (fun q => (nhp44 _ _)) (ehp44 _ _ (Or.inl (by decide))), tsg_v⟩)⟩)
                  · exfalso; omega
             · exfalso; omega
def kq_X8_moveInto_v : sf_Q := ([(1, 8, 0), (1, 9, 0), (0, 0, 0)], [(1, 6, 0, 0, 900, 0)], none, [], [(8, 1, 2), (9, 3, 3), (9, 4, 4), (9, 9, 9), (124, 0, 900), (125, 0, 900), (126, 0, 0)])
def ke_X8_moveInto_v : List Value → ab_H → Option Value → ab_H → Prop := fun as hp _ hp' => ∀ n : Int, sf_rd hp 1 1 = some n → ∃ m : Nat, TKS hp' (bv hp 2 n.toNat) n.toNat (mv_l as) m ∧ sf_rd hp' 3 4 = some 0 ∧ sf_rd hp' 3 9 = some 0 ∧ sf_rd hp' 1 1 = some 0
set_option maxRecDepth 100000 in
set_option maxHeartbeats 4000000 in
theorem ce_X8_moveInto_v : sf_cE kq_X8_moveInto_v Z_X8_moveInto ke_X8_moveInto_v := by
  intro t hp as H hl hj hpre
  match as, hl with
  | [v0, v1, v2], _ =>
    obtain ⟨a0, rfl, ra0⟩ := bs_aR (hj 0 _ rfl)
    obtain rfl := ra0.eq H (p := 1) rfl
    obtain ⟨a1, rfl, ra1⟩ := bs_aR (hj 1 _ rfl)
    obtain rfl := ra1.eq H (p := 3) rfl
    obtain ⟨x2, rfl⟩ := bs_aI (hj 2 _ rfl)
    have rg2 := n_range x2
    obtain ⟨pl0, ph0⟩ := bs_s1 (x := x2.toInt) rfl (hpre _ (List.mem_of_getElem? (i := 0) rfl))
    clear hpre hj
    have F0 : sf_fr [(8, 1, 2), (9, 3, 3), (9, 4, 4), (9, 9, 9), (124, 0, 900), (125, 0, 900), (126, 0, 0)] t hp t hp := sf_fr_rf
    refine bs_finx (E := ke_X8_moveInto_v) (K := kq_X8_moveInto_v) (L := (L_X8_moveInto Z_X9_clear Z_X8_skipBlanks Z_X8_cutToken Z_X9_add)) (nL := 5) (Nat.le_of_ble_eq_true rfl) ?_
    obtain ⟨Q, hQ⟩ : ∃ Q : ab_O → Prop, Q = (fun o => ∃ t', sf_h t' o.2 ∧ sf_fr (kq_X8_moveInto_v).2.2.2.2 t hp t' o.2 ∧ sf_an t' o.2.1 (kq_X8_moveInto_v).2.2.1 o.1 ∧ sf_S (sf_v1 o.1 [.ref 1, .ref 3, .int x2] o.2) (kq_X8_moveInto_v).2.2.2.1 ∧ ke_X8_moveInto_v [.ref 1, .ref 3, .int x2] hp o.1 o.2) := ⟨_, rfl⟩
    rw [← hQ]
    refine (show Ev (ab_T (L_X8_moveInto Z_X9_clear Z_X8_skipBlanks Z_X8_cutToken Z_X9_add)) 0 ([some (.ref 1), some (.ref 3), some (.int x2), none, none], [], (0, 0), hp) Q from ?_)
    obtain ⟨n0, hn0, ln0, un0⟩ := bs_fld (k := 1) H (bs_R.uq H (g := 8) rfl) (by decide) rfl
    obtain ⟨BB, hBB⟩ : ∃ BB : Nat → Int, BB = bv hp 2 n0.toNat := ⟨_, rfl⟩
    have EB : ∀ hp' : ab_H, (∀ q, sf_rd hp' 2 q = sf_rd hp 2 q) → bv hp' 2 n0.toNat = BB := fun hp' h => (bv_same h).trans hBB.symm
    have RB : ∀ q, 0 ≤ BB q ∧ BB q ≤ 255 := fun q => by rw [hBB]; exact bv_rng _ _ _ _
    refine Ev.step (j := 1) (s' := ([some (.ref 1), some (.ref 3), some (.int x2), none, none], [.ref 3], (0, 0), hp)) rfl rfl ?_
    exact by
     refine Ev.inl (L := L_X9_clear) (nL := 1) rfl (bs_rcv (g := 9) H (bs_R.uq H (g := 9) rfl) (by decide) rfl) rfl (Nat.le_of_ble_eq_true rfl) ?_
     generalize hQ1 : (fun (o : ab_O) => Ev _ _ _ _) = Q1
     refine (show Ev (ab_T L_X9_clear) 0 ([some (.ref 3)], [], (0, 0), hp) Q1 from ?_)
     refine Ev.step (j := 1) (s' := ([some (.ref 3)], [.ref 3], (0, 0), hp)) rfl rfl ?_
     refine bs_lit (k := 0) rfl rfl fun z2 hz2 => ?_
     refine bs_putIv (W := [(9, 3, 3)]) (g := 9) rfl rfl H (bs_R.uq H (g := 9) rfl) (by decide) rfl rfl rfl rfl (Or.inl rfl) (by omega) (by omega) fun hp3 Hhp3 fhp3 rhp3 ehp3 qhp3 nhp3 => ?_
     have Fhp3 := sf_fr_tr F0 (sf_fr_wider (W := [(8, 1, 2), (9, 3, 3), (9, 4, 4), (9, 9, 9), (124, 0, 900), (125, 0, 900), (126, 0, 0)]) rfl fhp3)
     have h4 : sf_rd hp3 1 1 = some n0 := (ehp3 _ _ (Or.inl (by decide))).trans hn0
     refine Ev.step (j := 6) (s' := ([some (.ref 3)], [.ref 3], (0, 0), hp3)) rfl rfl ?_
     exact by
      refine bs_lit (k := 0) rfl rfl fun z5 hz5 => ?_
      refine bs_putIv (W := [(9, 4, 4)]) (g := 9) rfl rfl Hhp3 (bs_R.uq Hhp3 (g := 9) rfl) (by decide) rfl rfl rfl rfl (Or.inl rfl) (by omega) (by omega) fun hp6 Hhp6 fhp6 rhp6 ehp6 qhp6 nhp6 => ?_
      have Fhp6 := sf_fr_tr Fhp3 (sf_fr_wider (W := [(8, 1, 2), (9, 3, 3), (9, 4, 4), (9, 9, 9), (124, 0, 900), (125, 0, 900), (126, 0, 0)]) rfl fhp6)
      have h7 : sf_rd hp6 1 1 = some n0 := (ehp6 _ _ (Or.inl (by decide))).trans h4
      have h8 : sf_rd hp6 3 3 = some z2.toInt := (ehp6 _ _ (Or.inr (by omega))).trans rhp3
      refine Ev.step (j := 11) (s' := ([some (.ref 3)], [.ref 3], (0, 0), hp6)) rfl rfl ?_
      refine bs_lit (k := 0) rfl rfl fun z9 hz9 => ?_
      refine bs_putIv (W := [(9, 9, 9)]) (g := 9) rfl rfl Hhp6 (bs_R.uq Hhp6 (g := 9) rfl) (by decide) rfl rfl rfl rfl (Or.inl rfl) (by omega) (by omega) fun hp10 Hhp10 fhp10 rhp10 ehp10 qhp10 nhp10 => ?_
      have Fhp10 := sf_fr_tr Fhp6 (sf_fr_wider (W := [(8, 1, 2), (9, 3, 3), (9, 4, 4), (9, 9, 9), (124, 0, 900), (125, 0, 900), (126, 0, 0)]) rfl fhp10)
      have h11 : sf_rd hp10 1 1 = some n0 := (ehp10 _ _ (Or.inl (by decide))).trans h7
      have h12 : sf_rd hp10 3 3 = some z2.toInt := (ehp10 _ _ (Or.inr (by omega))).trans h8
      have h13 : sf_rd hp10 3 4 = some z5.toInt := (ehp10 _ _ (Or.inr (by omega))).trans rhp6
      refine Ev.ret rfl rfl ?_
      rw [← hQ1]
      refine (show Ev _ 4 ([some (.ref 1), some (.ref 3), some (.int x2), none, none], [], (0, 0), hp10) _ from ?_)
      exact by
       refine Ev.step (j := 5) (s' := ([some (.ref 1), some (.ref 3), some (.int x2), none, none], [.ref 1], (0, 0), hp10)) rfl rfl ?_
       refine bs_lit (k := 0) rfl rfl fun z14 hz14 => ?_
       refine bs_putIv (W := [(8, 2, 2)]) (g := 8) rfl rfl Hhp10 (bs_R.uq Hhp10 (g := 8) rfl) (by decide) rfl rfl rfl rfl (Or.inl rfl) (by omega) (by omega) fun hp15 Hhp15 fhp15 rhp15 ehp15 qhp15 nhp15 => ?_
       have Fhp15 := sf_fr_tr Fhp10 (sf_fr_wider (W := [(8, 1, 2), (9, 3, 3), (9, 4, 4), (9, 9, 9), (124, 0, 900), (125, 0, 900), (126, 0, 0)]) rfl fhp15)
       have h16 : sf_rd hp15 1 1 = some n0 := (ehp15 _ _ (Or.inr (by omega))).trans h11
       have h17 : sf_rd hp15 3 3 = some z2.toInt := (ehp15 _ _ (Or.inl (by decide))).trans h12
       have h18 : sf_rd hp15 3 4 = some z5.toInt := (ehp15 _ _ (Or.inl (by decide))).trans h13
       have h19 : sf_rd hp15 3 9 = some z9.toInt := (ehp15 _ _ (Or.inl (by decide))).trans rhp10
       refine bs_lit (k := 1) rfl rfl fun z20 hz20 => ?_
       exact by
        refine Ev.step (j := 11) (s' := ([some (.ref 1), some (.ref 3), some (.int x2), some (.int z20), none], [], (0, 0), hp15)) rfl rfl ?_
        refine bs_lit (k := 0) rfl rfl fun z21 hz21 => ?_
        refine Ev.step (j := 14) (s' := ([some (.ref 1), some (.ref 3), some (.int x2), some (.int z20), some (.int z21)], [], (0, 0), hp15)) rfl rfl ?_
        have EK : z21.toInt.toNat = 0 := by omega
        have INV : ∃ v : Int, sf_rd hp15 1 2 = some v ∧ 0 ≤ v ∧ v ≤ 940 ∧ sf_rd hp15 3 3 = some z21.toInt ∧ (z20.toInt = 1 → v.toNat = tps BB n0.toNat x2.toInt.toNat z21.toInt.toNat) ∧ (∀ j, j < z21.toInt.toNat → TKJ hp15 BB n0.toNat x2.toInt.toNat j) ∧ (∀ j, j + 1 < z21.toInt.toNat → NE BB n0.toNat x2.toInt.toNat j) ∧ (z20.toInt = 1 → ∀ j, j < z21.toInt.toNat → NE BB n0.toNat x2.toInt.toNat j) ∧ (z20.toInt = 0 → 1 ≤ z21.toInt ∧ ((tok BB n0.toNat x2.toInt.toNat (z21.toInt.toNat - 1)).k = 0 ∨ (tok BB n0.toNat x2.toInt.toNat (z21.toInt.toNat - 1)).k = 1)) := ⟨_, rhp15, by omega, by omega, h17.trans (congrArg some (by omega)), fun _ => by rw [EK]; show _ = 0; omega, fun j hj => absurd hj (by omega), fun j hj => absurd hj (by omega), fun _ j hj => absurd hj (by omega), fun e => absurd e (by omega)⟩
        refine bs_loop (ι := Int32 × Int32 × ab_H × (Nat → Nat)) (fun ⟨k22, k23, hp24, t25⟩ => ([some (.ref 1), some (.ref 3), some (.int x2), some (.int k22), some (.int k23)], [], (0, 0), hp24)) (fun ⟨k22, k23, hp24, t25⟩ => (sf_h t25 hp24) ∧ (sf_fr [(8, 1, 2), (9, 3, 3), (9, 4, 4), (9, 9, 9), (124, 0, 900), (125, 0, 900), (126, 0, 0)] t hp t25 hp24) ∧ (sf_rd hp24 1 1 = some n0) ∧ (sf_rd hp24 3 4 = some z5.toInt) ∧ (sf_rd hp24 3 9 = some z9.toInt) ∧ (∃ v : Int, sf_rd hp24 1 2 = some v ∧ 0 ≤ v ∧ v ≤ 940 ∧ sf_rd hp24 3 3 = some k23.toInt ∧ (k22.toInt = 1 → v.toNat = tps BB n0.toNat x2.toInt.toNat k23.toInt.toNat) ∧ (∀ j, j < k23.toInt.toNat → TKJ hp24 BB n0.toNat x2.toInt.toNat j) ∧ (∀ j, j + 1 < k23.toInt.toNat → NE BB n0.toNat x2.toInt.toNat j) ∧ (k22.toInt = 1 → ∀ j, j < k23.toInt.toNat → NE BB n0.toNat x2.toInt.toNat j) ∧ (k22.toInt = 0 → 1 ≤ k23.toInt ∧ ((tok BB n0.toNat x2.toInt.toNat (k23.toInt.toNat - 1)).k = 0 ∨ (tok BB n0.toNat x2.toInt.toNat (k23.toInt.toNat - 1)).k = 1))) ∧ (0 ≤ k22.toInt ∧ k22.toInt ≤ 1 ∧ 0 ≤ k23.toInt ∧ k23.toInt ≤ x2.toInt + 1)) (fun ⟨k22, k23, hp24, t25⟩ => (x2.toInt + 1 - k23.toInt).toNat) ?_ (z20, z21, hp15, t) ⟨Hhp15, Fhp15, h16, h18, h19, (by exact INV), (by first | omega | assumption)⟩
        rintro ⟨k22, k23, hp24, t25⟩ ⟨Hhp24, Fhp24, i27, i28, i29, i30, i31⟩ ih26
        refine (show Ev _ 14 ([some (.ref 1), some (.ref 3), some (.int x2), some (.int k22), some (.int k23)], [], (0, 0), hp24) _ from ?_)
        obtain ⟨y32, hy32, ly32, gy32, my32, ty32, ky32, ny32, ay32, dy32⟩ := i30
        refine Ev.step (j := 16) (s' := ([some (.ref 1), some (.ref 3), some (.int x2), some (.int k22), some (.int k23)], [.int k23], (0, 0), hp24)) rfl rfl ?_
        exact by
         refine Ev.step (j := 17) (s' := ([some (.ref 1), some (.ref 3), some (.int x2), some (.int k22), some (.int k23)], [.int x2, .int k23], (0, 0), hp24)) rfl rfl ?_
         refine bs_gt rfl (fun c33 => ?_) (fun c33 => ?_)
         · skip
           have G0 : k22.toInt = 0 := by
             rcases (show k22.toInt = 0 ∨ k22.toInt = 1 by omega) with h | h
             · exact h
             · have := tok_bound (ay32 h)
               omega
           refine Ev.step (j := 100) (s' := ([some (.ref 1), some (.ref 3), some (.int x2), some (.int k22), some (.int k23)], [.ref 1], (0, 0), hp24)) rfl rfl ?_
           refine bs_lit (k := 0) rfl rfl fun z34 hz34 => ?_
           refine bs_putIv (W := [(8, 1, 1)]) (g := 8) rfl rfl Hhp24 (bs_R.uq Hhp24 (g := 8) rfl) (by decide) rfl rfl rfl rfl (Or.inl rfl) (by omega) (by omega) fun hp35 Hhp35 fhp35 rhp35 ehp35 qhp35 nhp35 => ?_
           have Fhp35 := sf_fr_tr Fhp24 (sf_fr_wider (W := [(8, 1, 2), (9, 3, 3), (9, 4, 4), (9, 9, 9), (124, 0, 900), (125, 0, 900), (126, 0, 0)]) rfl fhp35)
           have h36 : sf_rd hp35 3 4 = some z5.toInt := (ehp35 _ _ (Or.inl (by decide))).trans i28
           have h37 : sf_rd hp35 3 9 = some z9.toInt := (ehp35 _ _ (Or.inl (by decide))).trans i29
           have h38 : sf_rd hp35 1 2 = some y32 := (ehp35 _ _ (Or.inr (by omega))).trans hy32
           have h39 : sf_rd hp35 3 3 = some k23.toInt := (ehp35 _ _ (Or.inl (by decide))).trans my32
           exact Ev.ret rfl rfl (by rw [hQ]; exact ⟨t25, Hhp35, Fhp35, bs_anU, sf_S_nil, (fun n hn_ => by have eqN : n = n0 := Option.some.inj (hn_.symm.trans hn0); subst eqN; rw [← hBB]; have EL := dy32 G0; exact ⟨k23.toInt.toNat, ⟨by omega, by omega, h39.trans (congrArg some (by omega)), fun j hj => TKJ_TU (ky32 j hj) (TU_fr Hhp24 fhp35 rfl rfl rfl rfl), ny32, EL.2⟩, h36.trans (congrArg some (by omega)), h37.trans (congrArg some (by omega)), rhp35.trans (congrArg some (by omega))⟩)⟩)
         · skip
           refine Ev.step (j := 21) (s' := ([some (.ref 1), some (.ref 3), some (.int x2), some (.int k22), some (.int k23)], [.int k22], (0, 0), hp24)) rfl rfl ?_
           exact by
            refine bs_ifeq rfl (fun c40 => ?_) (fun c40 => ?_)
            · skip
              have c41 : k22.toInt = 0 := by omega
              have G0 : k22.toInt = 0 := by
                rcases (show k22.toInt = 0 ∨ k22.toInt = 1 by omega) with h | h
                · exact h
                · have := tok_bound (ay32 h)
                  omega
              refine Ev.step (j := 100) (s' := ([some (.ref 1), some (.ref 3), some (.int x2), some (.int k22), some (.int k23)], [.ref 1], (0, 0), hp24)) rfl rfl ?_
              refine bs_lit (k := 0) rfl rfl fun z42 hz42 => ?_
              refine bs_putIv (W := [(8, 1, 1)]) (g := 8) rfl rfl Hhp24 (bs_R.uq Hhp24 (g := 8) rfl) (by decide) rfl rfl rfl rfl (Or.inl rfl) (by omega) (by omega) fun hp43 Hhp43 fhp43 rhp43 ehp43 qhp43 nhp43 => ?_
              have Fhp43 := sf_fr_tr Fhp24 (sf_fr_wider (W := [(8, 1, 2), (9, 3, 3), (9, 4, 4), (9, 9, 9), (124, 0, 900), (125, 0, 900), (126, 0, 0)]) rfl fhp43)
              have h44 : sf_rd hp43 3 4 = some z5.toInt := (ehp43 _ _ (Or.inl (by decide))).trans i28
              have h45 : sf_rd hp43 3 9 = some z9.toInt := (ehp43 _ _ (Or.inl (by decide))).trans i29
              have h46 : sf_rd hp43 1 2 = some y32 := (ehp43 _ _ (Or.inr (by omega))).trans hy32
              have h47 : sf_rd hp43 3 3 = some k23.toInt := (ehp43 _ _ (Or.inl (by decide))).trans my32
              exact Ev.ret rfl rfl (by rw [hQ]; exact ⟨t25, Hhp43, Fhp43, bs_anU, sf_S_nil, (fun n hn_ => by have eqN : n = n0 := Option.some.inj (hn_.symm.trans hn0); subst eqN; rw [← hBB]; have EL := dy32 G0; exact ⟨k23.toInt.toNat, ⟨by omega, by omega, h47.trans (congrArg some (by omega)), fun j hj => TKJ_TU (ky32 j hj) (TU_fr Hhp24 fhp43 rfl rfl rfl rfl), ny32, EL.2⟩, h44.trans (congrArg some (by omega)), h45.trans (congrArg some (by omega)), rhp43.trans (congrArg some (by omega))⟩)⟩)
            · skip
              refine Ev.step (j := 25) (s' := ([some (.ref 1), some (.ref 3), some (.int x2), some (.int k22), some (.int k23)], [.ref 1], (0, 0), hp24)) rfl rfl ?_
              exact by
               refine bs_callx (K := kq_X8_skipBlanks_v) [.ref 1] [] rfl ce_X8_skipBlanks_v Hhp24 rfl rfl rfl (bs_rcv (g := 8) Hhp24 (bs_R.uq Hhp24 (g := 8) rfl) (by decide) rfl) rfl ?_ (sf_S_nil) fun r48 hp49 thp49 Hhp49 fhp49 ahp49 php49 xhp49 => ?_
               · intro q k h
                 match q, h with
                 | 0, h => cases h; exact bs_jR (bs_R.uq Hhp24 (g := 8) rfl)
                 | q + 1, h => cases h
               obtain rfl := ahp49.1 rfl
               have Fhp49 := sf_fr_tr Fhp24 (sf_fr_wider (W := [(8, 1, 2), (9, 3, 3), (9, 4, 4), (9, 9, 9), (124, 0, 900), (125, 0, 900), (126, 0, 0)]) rfl fhp49)
               have h50 : sf_rd hp49 1 1 = some n0 := (fhp49.2.2.1 _ (bs_R.uq Hhp24 (g := 8) (p := 1) rfl).1 _ (by rw [(bs_R.uq Hhp24 (g := 8) (p := 1) rfl).2]; rfl)).trans i27
               have h51 : sf_rd hp49 3 4 = some z5.toInt := (fhp49.2.2.1 _ (bs_R.uq Hhp24 (g := 9) (p := 3) rfl).1 _ (by rw [(bs_R.uq Hhp24 (g := 9) (p := 3) rfl).2]; rfl)).trans i28
               have h52 : sf_rd hp49 3 9 = some z9.toInt := (fhp49.2.2.1 _ (bs_R.uq Hhp24 (g := 9) (p := 3) rfl).1 _ (by rw [(bs_R.uq Hhp24 (g := 9) (p := 3) rfl).2]; rfl)).trans i29
               have h53 : sf_rd hp49 3 3 = some k23.toInt := (fhp49.2.2.1 _ (bs_R.uq Hhp24 (g := 9) (p := 3) rfl).1 _ (by rw [(bs_R.uq Hhp24 (g := 9) (p := 3) rfl).2]; rfl)).trans my32
               refine (show Ev _ 28 ([some (.ref 1), some (.ref 3), some (.int x2), some (.int k22), some (.int k23)], [], (0, 0), hp49) _ from ?_)
               obtain ⟨Q0, hQ0⟩ : ∃ Q0 : Nat, Q0 = tk_e tk_b BB n0.toNat y32.toNat := ⟨_, rfl⟩
               have AT := xhp49 _ _ hy32 i27
               rw [EB _ (fun q => Fhp24.2.2.1 _ (bs_R.uq H (g := 123) (p := 2) rfl).1 _ (by rw [(bs_R.uq H (g := 123) (p := 2) rfl).2]; rfl)), ← hQ0] at AT
               have TP : Q0 = tk_e tk_b BB n0.toNat (tps BB n0.toNat x2.toInt.toNat k23.toInt.toNat) := by rw [hQ0, ty32 (by omega)]
               refine Ev.step (j := 29) (s' := ([some (.ref 1), some (.ref 3), some (.int x2), some (.int k22), some (.int k23)], [.ref 1], (0, 0), hp49)) rfl rfl ?_
               exact by
                refine bs_getI 8 rfl rfl rfl Hhp49 (bs_R.uq Hhp49 (g := 8) rfl) (by decide) rfl fun z54 hz54 lz54 gz54 => ?_
                have e55 : z54.toInt = (Q0 : Int) := Option.some.inj (hz54.symm.trans AT)
                refine Ev.step (j := 33) (s' := ([some (.ref 1), some (.ref 3), some (.int x2), some (.int k22), some (.int k23)], [.ref 1, .int z54], (0, 0), hp49)) rfl rfl ?_
                refine bs_getI 8 rfl rfl rfl Hhp49 (bs_R.uq Hhp49 (g := 8) rfl) (by decide) rfl fun z56 hz56 lz56 gz56 => ?_
                have e57 : z56.toInt = n0 := Option.some.inj (hz56.symm.trans h50)
                refine bs_ge rfl (fun c58 => ?_) (fun c58 => ?_)
                · skip
                  refine Ev.step (j := 66) (s' := ([some (.ref 1), some (.ref 3), some (.int x2), some (.int k22), some (.int k23)], [.ref 3], (0, 0), hp49)) rfl rfl ?_
                  refine Ev.step (j := 67) (s' := ([some (.ref 1), some (.ref 3), some (.int x2), some (.int k22), some (.int k23)], [.ref 1, .ref 3], (0, 0), hp49)) rfl rfl ?_
                  exact by
                   refine bs_getI 8 rfl rfl rfl Hhp49 (bs_R.uq Hhp49 (g := 8) rfl) (by decide) rfl fun z59 hz59 lz59 gz59 => ?_
                   have e60 : z59.toInt = n0 := Option.some.inj (hz59.symm.trans h50)
                   refine Ev.step (j := 71) (s' := ([some (.ref 1), some (.ref 3), some (.int x2), some (.int k22), some (.int k23)], [.int x2, .int z59, .ref 3], (0, 0), hp49)) rfl rfl ?_
                   refine bs_le rfl (fun c61 => ?_) (fun c61 => ?_)
                   · skip
                     refine bs_lit (k := 0) rfl rfl fun z62 hz62 => ?_
                     refine Ev.step (j := 80) (s' := ([some (.ref 1), some (.ref 3), some (.int x2), some (.int k22), some (.int k23)], [.ref 1, .int z62, .ref 3], (0, 0), hp49)) rfl rfl ?_
                     refine bs_getI 8 rfl rfl rfl Hhp49 (bs_R.uq Hhp49 (g := 8) rfl) (by decide) rfl fun z63 hz63 lz63 gz63 => ?_
                     have e64 : z63.toInt = n0 := Option.some.inj (hz63.symm.trans h50)
                     refine Ev.step (j := 84) (s' := ([some (.ref 1), some (.ref 3), some (.int x2), some (.int k22), some (.int k23)], [.int x2, .int z63, .int z62, .ref 3], (0, 0), hp49)) rfl rfl ?_
                     exact by
                      refine bs_min rfl rfl fun z65 hz65 => ?_
                      refine Ev.step (j := 88) (s' := ([some (.ref 1), some (.ref 3), some (.int x2), some (.int k22), some (.int k23)], [.long (0 : Int64), .int z65, .int z62, .ref 3], (0, 0), hp49)) rfl rfl ?_
                      refine bs_callx (K := kq_X9_add_v) [.ref 3, .int z62, .int z65, .long (0 : Int64)] [] rfl ce_X9_add_v Hhp49 rfl rfl rfl (bs_rcv (g := 9) Hhp49 (bs_R.uq Hhp49 (g := 9) rfl) (by decide) rfl) rfl ?_ (sf_S_nil) fun r66 hp67 thp67 Hhp67 fhp67 ahp67 php67 xhp67 => ?_
                      · intro q k h
                        match q, h with
                        | 0, h => cases h; exact bs_jR (bs_R.uq Hhp49 (g := 9) rfl)
                        | 1, h => cases h; exact sf_j0
                        | 2, h => cases h; exact sf_j0
                        | 3, h => cases h; exact sf_j2
                        | q + 4, h => cases h
                      obtain rfl := ahp67.1 rfl
                      have Fhp67 := sf_fr_tr Fhp49 (sf_fr_wider (W := [(8, 1, 2), (9, 3, 3), (9, 4, 4), (9, 9, 9), (124, 0, 900), (125, 0, 900), (126, 0, 0)]) rfl fhp67)
                      have h68 : sf_rd hp67 1 1 = some n0 := (fhp67.2.2.1 _ (bs_R.uq Hhp49 (g := 8) (p := 1) rfl).1 _ (by rw [(bs_R.uq Hhp49 (g := 8) (p := 1) rfl).2]; rfl)).trans h50
                      have h69 : sf_rd hp67 3 4 = some z5.toInt := (fhp67.2.2.1 _ (bs_R.uq Hhp49 (g := 9) (p := 3) rfl).1 _ (by rw [(bs_R.uq Hhp49 (g := 9) (p := 3) rfl).2]; rfl)).trans h51
                      have h70 : sf_rd hp67 3 9 = some z9.toInt := (fhp67.2.2.1 _ (bs_R.uq Hhp49 (g := 9) (p := 3) rfl).1 _ (by rw [(bs_R.uq Hhp49 (g := 9) (p := 3) rfl).2]; rfl)).trans h52
                      have h71 : sf_rd hp67 1 2 = some (Q0 : Int) := (fhp67.2.2.1 _ (bs_R.uq Hhp49 (g := 8) (p := 1) rfl).1 _ (by rw [(bs_R.uq Hhp49 (g := 8) (p := 1) rfl).2]; rfl)).trans AT
                      refine (show Ev _ 91 ([some (.ref 1), some (.ref 3), some (.int x2), some (.int k22), some (.int k23)], [], (0, 0), hp67) _ from ?_)
                      have AA := xhp67 _ _ _ _ rfl h53 (by omega)
                      have TK : tok BB n0.toNat x2.toInt.toNat k23.toInt.toNat = ⟨0, n0.toNat, 0, Q0⟩ := tok_end TP (by omega) (by omega)
                      have KC : z62.toInt = (tok BB n0.toNat x2.toInt.toNat k23.toInt.toNat).k := by rw [TK]; show _ = (0 : Int); omega
                      have PL : z65.toInt = (tok BB n0.toNat x2.toInt.toNat k23.toInt.toNat).pl := by rw [TK]; show _ = ((n0.toNat : Nat) : Int); omega
                      rw [KC, PL] at AA
                      have TV : tvr (tok BB n0.toNat x2.toInt.toNat k23.toInt.toNat) (0 : Int64) := by rw [TK]; exact ⟨fun e => absurd e (by show (0 : Int) ≠ 3; decide), fun e => absurd e (by show (0 : Int) ≠ 2; decide)⟩
                      have EN : (tok BB n0.toNat x2.toInt.toNat k23.toInt.toNat).k = 0 ∨ (tok BB n0.toNat x2.toInt.toNat k23.toInt.toNat).k = 1 := by rw [TK]; exact Or.inl rfl
                      refine bs_lit (k := 0) rfl rfl fun z72 hz72 => ?_
                      exact by
                       refine Ev.step (j := 93) (s' := ([some (.ref 1), some (.ref 3), some (.int x2), some (.int z72), some (.int k23)], [], (0, 0), hp67)) rfl rfl ?_
                       refine bs_iinc (1) rfl rfl rfl rfl (by omega) (by omega) fun z73 hz73 => ?_
                       refine (show Ev _ 96 ([some (.ref 1), some (.ref 3), some (.int x2), some (.int z72), some (.int z73)], [], (0, 0), hp67) _ from ?_)
                       refine Ev.step (j := 14) (s' := ([some (.ref 1), some (.ref 3), some (.int x2), some (.int z72), some (.int z73)], [], (0, 0), hp67)) rfl rfl ?_
                       have EK : z73.toInt.toNat = k23.toInt.toNat + 1 := by omega
                       have OL : ∀ j, j < k23.toInt.toNat → NE BB n0.toNat x2.toInt.toNat j := ay32 (by omega)
                       have TJ : ∀ j, j < k23.toInt.toNat + 1 → TKJ hp67 BB n0.toNat x2.toInt.toNat j := by
                         intro j hj
                         by_cases e : j = k23.toInt.toNat
                         · rw [e]; exact ⟨AA.2.1, AA.2.2.1, _, AA.2.2.2.1, TV⟩
                         · exact TKJ_AD (TKJ_TU (ky32 j (by omega)) (TU_fr Hhp24 fhp49 rfl rfl rfl rfl)) AA (by omega)
                       obtain ⟨L9, hL9, lL9, uL9⟩ := bs_fld (k := 2) Hhp67 (bs_R.uq Hhp67 (g := 8) rfl) (by decide) rfl
                       have EL : L9 = (Q0 : Int) := Option.some.inj (hL9.symm.trans h71)
                       have INV : ∃ v : Int, sf_rd hp67 1 2 = some v ∧ 0 ≤ v ∧ v ≤ 940 ∧ sf_rd hp67 3 3 = some z73.toInt ∧ (z72.toInt = 1 → v.toNat = tps BB n0.toNat x2.toInt.toNat z73.toInt.toNat) ∧ (∀ j, j < z73.toInt.toNat → TKJ hp67 BB n0.toNat x2.toInt.toNat j) ∧ (∀ j, j + 1 < z73.toInt.toNat → NE BB n0.toNat x2.toInt.toNat j) ∧ (z72.toInt = 1 → ∀ j, j < z73.toInt.toNat → NE BB n0.toNat x2.toInt.toNat j) ∧ (z72.toInt = 0 → 1 ≤ z73.toInt ∧ ((tok BB n0.toNat x2.toInt.toNat (z73.toInt.toNat - 1)).k = 0 ∨ (tok BB n0.toNat x2.toInt.toNat (z73.toInt.toNat - 1)).k = 1)) := ⟨_, h71, by omega, by omega, AA.1.trans (congrArg some (by omega)), fun e => absurd e (by omega), by rw [EK]; exact TJ, by rw [EK]; exact fun j hj => OL j (by omega), fun e => absurd e (by omega), fun _ => ⟨by omega, by rw [EK, Nat.add_sub_cancel]; exact EN⟩⟩
                       refine ih26 (z72, z73, hp67, thp67) ⟨Hhp67, Fhp67, h68, h69, h70, (by exact INV), (by first | omega | assumption)⟩ ?_
                       show (x2.toInt + 1 - z73.toInt).toNat < (x2.toInt + 1 - k23.toInt).toNat
                       omega
                   · skip
                     refine bs_lit (k := 1) rfl rfl fun z74 hz74 => ?_
                     exact by
                      refine Ev.step (j := 79) (s' := ([some (.ref 1), some (.ref 3), some (.int x2), some (.int k22), some (.int k23)], [.int z74, .ref 3], (0, 0), hp49)) rfl rfl ?_
                      refine Ev.step (j := 80) (s' := ([some (.ref 1), some (.ref 3), some (.int x2), some (.int k22), some (.int k23)], [.ref 1, .int z74, .ref 3], (0, 0), hp49)) rfl rfl ?_
                      refine bs_getI 8 rfl rfl rfl Hhp49 (bs_R.uq Hhp49 (g := 8) rfl) (by decide) rfl fun z75 hz75 lz75 gz75 => ?_
                      have e76 : z75.toInt = n0 := Option.some.inj (hz75.symm.trans h50)
                      refine Ev.step (j := 84) (s' := ([some (.ref 1), some (.ref 3), some (.int x2), some (.int k22), some (.int k23)], [.int x2, .int z75, .int z74, .ref 3], (0, 0), hp49)) rfl rfl ?_
                      refine bs_min rfl rfl fun z77 hz77 => ?_
                      refine Ev.step (j := 88) (s' := ([some (.ref 1), some (.ref 3), some (.int x2), some (.int k22), some (.int k23)], [.long (0 : Int64), .int z77, .int z74, .ref 3], (0, 0), hp49)) rfl rfl ?_
                      refine bs_callx (K := kq_X9_add_v) [.ref 3, .int z74, .int z77, .long (0 : Int64)] [] rfl ce_X9_add_v Hhp49 rfl rfl rfl (bs_rcv (g := 9) Hhp49 (bs_R.uq Hhp49 (g := 9) rfl) (by decide) rfl) rfl ?_ (sf_S_nil) fun r78 hp79 thp79 Hhp79 fhp79 ahp79 php79 xhp79 => ?_
                      · intro q k h
                        match q, h with
                        | 0, h => cases h; exact bs_jR (bs_R.uq Hhp49 (g := 9) rfl)
                        | 1, h => cases h; exact sf_j0
                        | 2, h => cases h; exact sf_j0
                        | 3, h => cases h; exact sf_j2
                        | q + 4, h => cases h
                      obtain rfl := ahp79.1 rfl
                      have Fhp79 := sf_fr_tr Fhp49 (sf_fr_wider (W := [(8, 1, 2), (9, 3, 3), (9, 4, 4), (9, 9, 9), (124, 0, 900), (125, 0, 900), (126, 0, 0)]) rfl fhp79)
                      have h80 : sf_rd hp79 1 1 = some n0 := (fhp79.2.2.1 _ (bs_R.uq Hhp49 (g := 8) (p := 1) rfl).1 _ (by rw [(bs_R.uq Hhp49 (g := 8) (p := 1) rfl).2]; rfl)).trans h50
                      have h81 : sf_rd hp79 3 4 = some z5.toInt := (fhp79.2.2.1 _ (bs_R.uq Hhp49 (g := 9) (p := 3) rfl).1 _ (by rw [(bs_R.uq Hhp49 (g := 9) (p := 3) rfl).2]; rfl)).trans h51
                      have h82 : sf_rd hp79 3 9 = some z9.toInt := (fhp79.2.2.1 _ (bs_R.uq Hhp49 (g := 9) (p := 3) rfl).1 _ (by rw [(bs_R.uq Hhp49 (g := 9) (p := 3) rfl).2]; rfl)).trans h52
                      have h83 : sf_rd hp79 1 2 = some (Q0 : Int) := (fhp79.2.2.1 _ (bs_R.uq Hhp49 (g := 8) (p := 1) rfl).1 _ (by rw [(bs_R.uq Hhp49 (g := 8) (p := 1) rfl).2]; rfl)).trans AT
                      refine (show Ev _ 91 ([some (.ref 1), some (.ref 3), some (.int x2), some (.int k22), some (.int k23)], [], (0, 0), hp79) _ from ?_)
                      have AA := xhp79 _ _ _ _ rfl h53 (by omega)
                      have TK : tok BB n0.toNat x2.toInt.toNat k23.toInt.toNat = ⟨1, x2.toInt.toNat, 0, Q0⟩ := tok_none TP (by omega) (by omega)
                      have KC : z74.toInt = (tok BB n0.toNat x2.toInt.toNat k23.toInt.toNat).k := by rw [TK]; show _ = (1 : Int); omega
                      have PL : z77.toInt = (tok BB n0.toNat x2.toInt.toNat k23.toInt.toNat).pl := by rw [TK]; show _ = ((x2.toInt.toNat : Nat) : Int); omega
                      rw [KC, PL] at AA
                      have TV : tvr (tok BB n0.toNat x2.toInt.toNat k23.toInt.toNat) (0 : Int64) := by rw [TK]; exact ⟨fun e => absurd e (by show (1 : Int) ≠ 3; decide), fun e => absurd e (by show (1 : Int) ≠ 2; decide)⟩
                      have EN : (tok BB n0.toNat x2.toInt.toNat k23.toInt.toNat).k = 0 ∨ (tok BB n0.toNat x2.toInt.toNat k23.toInt.toNat).k = 1 := by rw [TK]; exact Or.inr rfl
                      refine bs_lit (k := 0) rfl rfl fun z84 hz84 => ?_
                      exact by
                       refine Ev.step (j := 93) (s' := ([some (.ref 1), some (.ref 3), some (.int x2), some (.int z84), some (.int k23)], [], (0, 0), hp79)) rfl rfl ?_
                       refine bs_iinc (1) rfl rfl rfl rfl (by omega) (by omega) fun z85 hz85 => ?_
                       refine (show Ev _ 96 ([some (.ref 1), some (.ref 3), some (.int x2), some (.int z84), some (.int z85)], [], (0, 0), hp79) _ from ?_)
                       refine Ev.step (j := 14) (s' := ([some (.ref 1), some (.ref 3), some (.int x2), some (.int z84), some (.int z85)], [], (0, 0), hp79)) rfl rfl ?_
                       have EK : z85.toInt.toNat = k23.toInt.toNat + 1 := by omega
                       have OL : ∀ j, j < k23.toInt.toNat → NE BB n0.toNat x2.toInt.toNat j := ay32 (by omega)
                       have TJ : ∀ j, j < k23.toInt.toNat + 1 → TKJ hp79 BB n0.toNat x2.toInt.toNat j := by
                         intro j hj
                         by_cases e : j = k23.toInt.toNat
                         · rw [e]; exact ⟨AA.2.1, AA.2.2.1, _, AA.2.2.2.1, TV⟩
                         · exact TKJ_AD (TKJ_TU (ky32 j (by omega)) (TU_fr Hhp24 fhp49 rfl rfl rfl rfl)) AA (by omega)
                       obtain ⟨L9, hL9, lL9, uL9⟩ := bs_fld (k := 2) Hhp79 (bs_R.uq Hhp79 (g := 8) rfl) (by decide) rfl
                       have EL : L9 = (Q0 : Int) := Option.some.inj (hL9.symm.trans h83)
                       have INV : ∃ v : Int, sf_rd hp79 1 2 = some v ∧ 0 ≤ v ∧ v ≤ 940 ∧ sf_rd hp79 3 3 = some z85.toInt ∧ (z84.toInt = 1 → v.toNat = tps BB n0.toNat x2.toInt.toNat z85.toInt.toNat) ∧ (∀ j, j < z85.toInt.toNat → TKJ hp79 BB n0.toNat x2.toInt.toNat j) ∧ (∀ j, j + 1 < z85.toInt.toNat → NE BB n0.toNat x2.toInt.toNat j) ∧ (z84.toInt = 1 → ∀ j, j < z85.toInt.toNat → NE BB n0.toNat x2.toInt.toNat j) ∧ (z84.toInt = 0 → 1 ≤ z85.toInt ∧ ((tok BB n0.toNat x2.toInt.toNat (z85.toInt.toNat - 1)).k = 0 ∨ (tok BB n0.toNat x2.toInt.toNat (z85.toInt.toNat - 1)).k = 1)) := ⟨_, h83, by omega, by omega, AA.1.trans (congrArg some (by omega)), fun e => absurd e (by omega), by rw [EK]; exact TJ, by rw [EK]; exact fun j hj => OL j (by omega), fun e => absurd e (by omega), fun _ => ⟨by omega, by rw [EK, Nat.add_sub_cancel]; exact EN⟩⟩
                       refine ih26 (z84, z85, hp79, thp79) ⟨Hhp79, Fhp79, h80, h81, h82, (by exact INV), (by first | omega | assumption)⟩ ?_
                       show (x2.toInt + 1 - z85.toInt).toNat < (x2.toInt + 1 - k23.toInt).toNat
                       omega
                · skip
                  refine Ev.step (j := 40) (s' := ([some (.ref 1), some (.ref 3), some (.int x2), some (.int k22), some (.int k23)], [.ref 1], (0, 0), hp49)) rfl rfl ?_
                  exact by
                   refine bs_getI 8 rfl rfl rfl Hhp49 (bs_R.uq Hhp49 (g := 8) rfl) (by decide) rfl fun z86 hz86 lz86 gz86 => ?_
                   have e87 : z86.toInt = (Q0 : Int) := Option.some.inj (hz86.symm.trans AT)
                   refine Ev.step (j := 44) (s' := ([some (.ref 1), some (.ref 3), some (.int x2), some (.int k22), some (.int k23)], [.int x2, .int z86], (0, 0), hp49)) rfl rfl ?_
                   refine bs_ge rfl (fun c88 => ?_) (fun c88 => ?_)
                   · skip
                     refine Ev.step (j := 66) (s' := ([some (.ref 1), some (.ref 3), some (.int x2), some (.int k22), some (.int k23)], [.ref 3], (0, 0), hp49)) rfl rfl ?_
                     refine Ev.step (j := 67) (s' := ([some (.ref 1), some (.ref 3), some (.int x2), some (.int k22), some (.int k23)], [.ref 1, .ref 3], (0, 0), hp49)) rfl rfl ?_
                     refine bs_getI 8 rfl rfl rfl Hhp49 (bs_R.uq Hhp49 (g := 8) rfl) (by decide) rfl fun z89 hz89 lz89 gz89 => ?_
                     have e90 : z89.toInt = n0 := Option.some.inj (hz89.symm.trans h50)
                     refine Ev.step (j := 71) (s' := ([some (.ref 1), some (.ref 3), some (.int x2), some (.int k22), some (.int k23)], [.int x2, .int z89, .ref 3], (0, 0), hp49)) rfl rfl ?_
                     exact by
                      refine bs_le rfl (fun c91 => ?_) (fun c91 => ?_)
                      · skip
                        refine bs_lit (k := 0) rfl rfl fun z92 hz92 => ?_
                        refine Ev.step (j := 80) (s' := ([some (.ref 1), some (.ref 3), some (.int x2), some (.int k22), some (.int k23)], [.ref 1, .int z92, .ref 3], (0, 0), hp49)) rfl rfl ?_
                        refine bs_getI 8 rfl rfl rfl Hhp49 (bs_R.uq Hhp49 (g := 8) rfl) (by decide) rfl fun z93 hz93 lz93 gz93 => ?_
                        have e94 : z93.toInt = n0 := Option.some.inj (hz93.symm.trans h50)
                        refine Ev.step (j := 84) (s' := ([some (.ref 1), some (.ref 3), some (.int x2), some (.int k22), some (.int k23)], [.int x2, .int z93, .int z92, .ref 3], (0, 0), hp49)) rfl rfl ?_
                        refine bs_min rfl rfl fun z95 hz95 => ?_
                        refine Ev.step (j := 88) (s' := ([some (.ref 1), some (.ref 3), some (.int x2), some (.int k22), some (.int k23)], [.long (0 : Int64), .int z95, .int z92, .ref 3], (0, 0), hp49)) rfl rfl ?_
                        exact by
                         refine bs_callx (K := kq_X9_add_v) [.ref 3, .int z92, .int z95, .long (0 : Int64)] [] rfl ce_X9_add_v Hhp49 rfl rfl rfl (bs_rcv (g := 9) Hhp49 (bs_R.uq Hhp49 (g := 9) rfl) (by decide) rfl) rfl ?_ (sf_S_nil) fun r96 hp97 thp97 Hhp97 fhp97 ahp97 php97 xhp97 => ?_
                         · intro q k h
                           match q, h with
                           | 0, h => cases h; exact bs_jR (bs_R.uq Hhp49 (g := 9) rfl)
                           | 1, h => cases h; exact sf_j0
                           | 2, h => cases h; exact sf_j0
                           | 3, h => cases h; exact sf_j2
                           | q + 4, h => cases h
                         obtain rfl := ahp97.1 rfl
                         have Fhp97 := sf_fr_tr Fhp49 (sf_fr_wider (W := [(8, 1, 2), (9, 3, 3), (9, 4, 4), (9, 9, 9), (124, 0, 900), (125, 0, 900), (126, 0, 0)]) rfl fhp97)
                         have h98 : sf_rd hp97 1 1 = some n0 := (fhp97.2.2.1 _ (bs_R.uq Hhp49 (g := 8) (p := 1) rfl).1 _ (by rw [(bs_R.uq Hhp49 (g := 8) (p := 1) rfl).2]; rfl)).trans h50
                         have h99 : sf_rd hp97 3 4 = some z5.toInt := (fhp97.2.2.1 _ (bs_R.uq Hhp49 (g := 9) (p := 3) rfl).1 _ (by rw [(bs_R.uq Hhp49 (g := 9) (p := 3) rfl).2]; rfl)).trans h51
                         have h100 : sf_rd hp97 3 9 = some z9.toInt := (fhp97.2.2.1 _ (bs_R.uq Hhp49 (g := 9) (p := 3) rfl).1 _ (by rw [(bs_R.uq Hhp49 (g := 9) (p := 3) rfl).2]; rfl)).trans h52
                         have h101 : sf_rd hp97 1 2 = some (Q0 : Int) := (fhp97.2.2.1 _ (bs_R.uq Hhp49 (g := 8) (p := 1) rfl).1 _ (by rw [(bs_R.uq Hhp49 (g := 8) (p := 1) rfl).2]; rfl)).trans AT
                         refine (show Ev _ 91 ([some (.ref 1), some (.ref 3), some (.int x2), some (.int k22), some (.int k23)], [], (0, 0), hp97) _ from ?_)
                         have AA := xhp97 _ _ _ _ rfl h53 (by omega)
                         have TK : tok BB n0.toNat x2.toInt.toNat k23.toInt.toNat = ⟨0, n0.toNat, 0, Q0⟩ := tok_end TP (by omega) (by omega)
                         have KC : z92.toInt = (tok BB n0.toNat x2.toInt.toNat k23.toInt.toNat).k := by rw [TK]; show _ = (0 : Int); omega
                         have PL : z95.toInt = (tok BB n0.toNat x2.toInt.toNat k23.toInt.toNat).pl := by rw [TK]; show _ = ((n0.toNat : Nat) : Int); omega
                         rw [KC, PL] at AA
                         have TV : tvr (tok BB n0.toNat x2.toInt.toNat k23.toInt.toNat) (0 : Int64) := by rw [TK]; exact ⟨fun e => absurd e (by show (0 : Int) ≠ 3; decide), fun e => absurd e (by show (0 : Int) ≠ 2; decide)⟩
                         have EN : (tok BB n0.toNat x2.toInt.toNat k23.toInt.toNat).k = 0 ∨ (tok BB n0.toNat x2.toInt.toNat k23.toInt.toNat).k = 1 := by rw [TK]; exact Or.inl rfl
                         refine bs_lit (k := 0) rfl rfl fun z102 hz102 => ?_
                         exact by
                          refine Ev.step (j := 93) (s' := ([some (.ref 1), some (.ref 3), some (.int x2), some (.int z102), some (.int k23)], [], (0, 0), hp97)) rfl rfl ?_
                          refine bs_iinc (1) rfl rfl rfl rfl (by omega) (by omega) fun z103 hz103 => ?_
                          refine (show Ev _ 96 ([some (.ref 1), some (.ref 3), some (.int x2), some (.int z102), some (.int z103)], [], (0, 0), hp97) _ from ?_)
                          refine Ev.step (j := 14) (s' := ([some (.ref 1), some (.ref 3), some (.int x2), some (.int z102), some (.int z103)], [], (0, 0), hp97)) rfl rfl ?_
                          have EK : z103.toInt.toNat = k23.toInt.toNat + 1 := by omega
                          have OL : ∀ j, j < k23.toInt.toNat → NE BB n0.toNat x2.toInt.toNat j := ay32 (by omega)
                          have TJ : ∀ j, j < k23.toInt.toNat + 1 → TKJ hp97 BB n0.toNat x2.toInt.toNat j := by
                            intro j hj
                            by_cases e : j = k23.toInt.toNat
                            · rw [e]; exact ⟨AA.2.1, AA.2.2.1, _, AA.2.2.2.1, TV⟩
                            · exact TKJ_AD (TKJ_TU (ky32 j (by omega)) (TU_fr Hhp24 fhp49 rfl rfl rfl rfl)) AA (by omega)
                          obtain ⟨L9, hL9, lL9, uL9⟩ := bs_fld (k := 2) Hhp97 (bs_R.uq Hhp97 (g := 8) rfl) (by decide) rfl
                          have EL : L9 = (Q0 : Int) := Option.some.inj (hL9.symm.trans h101)
                          have INV : ∃ v : Int, sf_rd hp97 1 2 = some v ∧ 0 ≤ v ∧ v ≤ 940 ∧ sf_rd hp97 3 3 = some z103.toInt ∧ (z102.toInt = 1 → v.toNat = tps BB n0.toNat x2.toInt.toNat z103.toInt.toNat) ∧ (∀ j, j < z103.toInt.toNat → TKJ hp97 BB n0.toNat x2.toInt.toNat j) ∧ (∀ j, j + 1 < z103.toInt.toNat → NE BB n0.toNat x2.toInt.toNat j) ∧ (z102.toInt = 1 → ∀ j, j < z103.toInt.toNat → NE BB n0.toNat x2.toInt.toNat j) ∧ (z102.toInt = 0 → 1 ≤ z103.toInt ∧ ((tok BB n0.toNat x2.toInt.toNat (z103.toInt.toNat - 1)).k = 0 ∨ (tok BB n0.toNat x2.toInt.toNat (z103.toInt.toNat - 1)).k = 1)) := ⟨_, h101, by omega, by omega, AA.1.trans (congrArg some (by omega)), fun e => absurd e (by omega), by rw [EK]; exact TJ, by rw [EK]; exact fun j hj => OL j (by omega), fun e => absurd e (by omega), fun _ => ⟨by omega, by rw [EK, Nat.add_sub_cancel]; exact EN⟩⟩
                          refine ih26 (z102, z103, hp97, thp97) ⟨Hhp97, Fhp97, h98, h99, h100, (by exact INV), (by first | omega | assumption)⟩ ?_
                          show (x2.toInt + 1 - z103.toInt).toNat < (x2.toInt + 1 - k23.toInt).toNat
                          omega
                      · skip
                        refine bs_lit (k := 1) rfl rfl fun z104 hz104 => ?_
                        exact by
                         refine Ev.step (j := 79) (s' := ([some (.ref 1), some (.ref 3), some (.int x2), some (.int k22), some (.int k23)], [.int z104, .ref 3], (0, 0), hp49)) rfl rfl ?_
                         refine Ev.step (j := 80) (s' := ([some (.ref 1), some (.ref 3), some (.int x2), some (.int k22), some (.int k23)], [.ref 1, .int z104, .ref 3], (0, 0), hp49)) rfl rfl ?_
                         refine bs_getI 8 rfl rfl rfl Hhp49 (bs_R.uq Hhp49 (g := 8) rfl) (by decide) rfl fun z105 hz105 lz105 gz105 => ?_
                         have e106 : z105.toInt = n0 := Option.some.inj (hz105.symm.trans h50)
                         refine Ev.step (j := 84) (s' := ([some (.ref 1), some (.ref 3), some (.int x2), some (.int k22), some (.int k23)], [.int x2, .int z105, .int z104, .ref 3], (0, 0), hp49)) rfl rfl ?_
                         refine bs_min rfl rfl fun z107 hz107 => ?_
                         refine Ev.step (j := 88) (s' := ([some (.ref 1), some (.ref 3), some (.int x2), some (.int k22), some (.int k23)], [.long (0 : Int64), .int z107, .int z104, .ref 3], (0, 0), hp49)) rfl rfl ?_
                         refine bs_callx (K := kq_X9_add_v) [.ref 3, .int z104, .int z107, .long (0 : Int64)] [] rfl ce_X9_add_v Hhp49 rfl rfl rfl (bs_rcv (g := 9) Hhp49 (bs_R.uq Hhp49 (g := 9) rfl) (by decide) rfl) rfl ?_ (sf_S_nil) fun r108 hp109 thp109 Hhp109 fhp109 ahp109 php109 xhp109 => ?_
                         · intro q k h
                           match q, h with
                           | 0, h => cases h; exact bs_jR (bs_R.uq Hhp49 (g := 9) rfl)
                           | 1, h => cases h; exact sf_j0
                           | 2, h => cases h; exact sf_j0
                           | 3, h => cases h; exact sf_j2
                           | q + 4, h => cases h
                         obtain rfl := ahp109.1 rfl
                         have Fhp109 := sf_fr_tr Fhp49 (sf_fr_wider (W := [(8, 1, 2), (9, 3, 3), (9, 4, 4), (9, 9, 9), (124, 0, 900), (125, 0, 900), (126, 0, 0)]) rfl fhp109)
                         have h110 : sf_rd hp109 1 1 = some n0 := (fhp109.2.2.1 _ (bs_R.uq Hhp49 (g := 8) (p := 1) rfl).1 _ (by rw [(bs_R.uq Hhp49 (g := 8) (p := 1) rfl).2]; rfl)).trans h50
                         have h111 : sf_rd hp109 3 4 = some z5.toInt := (fhp109.2.2.1 _ (bs_R.uq Hhp49 (g := 9) (p := 3) rfl).1 _ (by rw [(bs_R.uq Hhp49 (g := 9) (p := 3) rfl).2]; rfl)).trans h51
                         have h112 : sf_rd hp109 3 9 = some z9.toInt := (fhp109.2.2.1 _ (bs_R.uq Hhp49 (g := 9) (p := 3) rfl).1 _ (by rw [(bs_R.uq Hhp49 (g := 9) (p := 3) rfl).2]; rfl)).trans h52
                         have h113 : sf_rd hp109 1 2 = some (Q0 : Int) := (fhp109.2.2.1 _ (bs_R.uq Hhp49 (g := 8) (p := 1) rfl).1 _ (by rw [(bs_R.uq Hhp49 (g := 8) (p := 1) rfl).2]; rfl)).trans AT
                         refine (show Ev _ 91 ([some (.ref 1), some (.ref 3), some (.int x2), some (.int k22), some (.int k23)], [], (0, 0), hp109) _ from ?_)
                         have AA := xhp109 _ _ _ _ rfl h53 (by omega)
                         have TK : tok BB n0.toNat x2.toInt.toNat k23.toInt.toNat = ⟨1, x2.toInt.toNat, 0, Q0⟩ := tok_none TP (by omega) (by omega)
                         have KC : z104.toInt = (tok BB n0.toNat x2.toInt.toNat k23.toInt.toNat).k := by rw [TK]; show _ = (1 : Int); omega
                         have PL : z107.toInt = (tok BB n0.toNat x2.toInt.toNat k23.toInt.toNat).pl := by rw [TK]; show _ = ((x2.toInt.toNat : Nat) : Int); omega
                         rw [KC, PL] at AA
                         have TV : tvr (tok BB n0.toNat x2.toInt.toNat k23.toInt.toNat) (0 : Int64) := by rw [TK]; exact ⟨fun e => absurd e (by show (1 : Int) ≠ 3; decide), fun e => absurd e (by show (1 : Int) ≠ 2; decide)⟩
                         have EN : (tok BB n0.toNat x2.toInt.toNat k23.toInt.toNat).k = 0 ∨ (tok BB n0.toNat x2.toInt.toNat k23.toInt.toNat).k = 1 := by rw [TK]; exact Or.inr rfl
                         refine bs_lit (k := 0) rfl rfl fun z114 hz114 => ?_
                         exact by
                          refine Ev.step (j := 93) (s' := ([some (.ref 1), some (.ref 3), some (.int x2), some (.int z114), some (.int k23)], [], (0, 0), hp109)) rfl rfl ?_
                          refine bs_iinc (1) rfl rfl rfl rfl (by omega) (by omega) fun z115 hz115 => ?_
                          refine (show Ev _ 96 ([some (.ref 1), some (.ref 3), some (.int x2), some (.int z114), some (.int z115)], [], (0, 0), hp109) _ from ?_)
                          refine Ev.step (j := 14) (s' := ([some (.ref 1), some (.ref 3), some (.int x2), some (.int z114), some (.int z115)], [], (0, 0), hp109)) rfl rfl ?_
                          have EK : z115.toInt.toNat = k23.toInt.toNat + 1 := by omega
                          have OL : ∀ j, j < k23.toInt.toNat → NE BB n0.toNat x2.toInt.toNat j := ay32 (by omega)
                          have TJ : ∀ j, j < k23.toInt.toNat + 1 → TKJ hp109 BB n0.toNat x2.toInt.toNat j := by
                            intro j hj
                            by_cases e : j = k23.toInt.toNat
                            · rw [e]; exact ⟨AA.2.1, AA.2.2.1, _, AA.2.2.2.1, TV⟩
                            · exact TKJ_AD (TKJ_TU (ky32 j (by omega)) (TU_fr Hhp24 fhp49 rfl rfl rfl rfl)) AA (by omega)
                          obtain ⟨L9, hL9, lL9, uL9⟩ := bs_fld (k := 2) Hhp109 (bs_R.uq Hhp109 (g := 8) rfl) (by decide) rfl
                          have EL : L9 = (Q0 : Int) := Option.some.inj (hL9.symm.trans h113)
                          have INV : ∃ v : Int, sf_rd hp109 1 2 = some v ∧ 0 ≤ v ∧ v ≤ 940 ∧ sf_rd hp109 3 3 = some z115.toInt ∧ (z114.toInt = 1 → v.toNat = tps BB n0.toNat x2.toInt.toNat z115.toInt.toNat) ∧ (∀ j, j < z115.toInt.toNat → TKJ hp109 BB n0.toNat x2.toInt.toNat j) ∧ (∀ j, j + 1 < z115.toInt.toNat → NE BB n0.toNat x2.toInt.toNat j) ∧ (z114.toInt = 1 → ∀ j, j < z115.toInt.toNat → NE BB n0.toNat x2.toInt.toNat j) ∧ (z114.toInt = 0 → 1 ≤ z115.toInt ∧ ((tok BB n0.toNat x2.toInt.toNat (z115.toInt.toNat - 1)).k = 0 ∨ (tok BB n0.toNat x2.toInt.toNat (z115.toInt.toNat - 1)).k = 1)) := ⟨_, h113, by omega, by omega, AA.1.trans (congrArg some (by omega)), fun e => absurd e (by omega), by rw [EK]; exact TJ, by rw [EK]; exact fun j hj => OL j (by omega), fun e => absurd e (by omega), fun _ => ⟨by omega, by rw [EK, Nat.add_sub_cancel]; exact EN⟩⟩
                          refine ih26 (z114, z115, hp109, thp109) ⟨Hhp109, Fhp109, h110, h111, h112, (by exact INV), (by first | omega | assumption)⟩ ?_
                          show (x2.toInt + 1 - z115.toInt).toNat < (x2.toInt + 1 - k23.toInt).toNat
                          omega
                   · skip
                     refine Ev.step (j := 48) (s' := ([some (.ref 1), some (.ref 3), some (.int x2), some (.int k22), some (.int k23)], [.ref 1], (0, 0), hp49)) rfl rfl ?_
                     exact by
                      refine Ev.step (j := 49) (s' := ([some (.ref 1), some (.ref 3), some (.int x2), some (.int k22), some (.int k23)], [.ref 3, .ref 1], (0, 0), hp49)) rfl rfl ?_
                      refine bs_callx (K := kq_X8_cutToken_v) [.ref 1, .ref 3] [] rfl ce_X8_cutToken_v Hhp49 rfl rfl rfl (bs_rcv (g := 8) Hhp49 (bs_R.uq Hhp49 (g := 8) rfl) (by decide) rfl) rfl ?_ (sf_S_cons (sf_s1 (x := (Q0 : Int)) (show sf_v0 _ _ 27008 = _ from AT) (by omega) (by omega)) (sf_S_nil)) fun r116 hp117 thp117 Hhp117 fhp117 ahp117 php117 xhp117 => ?_
                      · intro q k h
                        match q, h with
                        | 0, h => cases h; exact bs_jR (bs_R.uq Hhp49 (g := 8) rfl)
                        | 1, h => cases h; exact bs_jR (bs_R.uq Hhp49 (g := 9) rfl)
                        | q + 2, h => cases h
                      obtain ⟨z118, rfl⟩ := bs_anI ahp117
                      have rgz118 := n_range z118
                      have Fhp117 := sf_fr_tr Fhp49 (sf_fr_wider (W := [(8, 1, 2), (9, 3, 3), (9, 4, 4), (9, 9, 9), (124, 0, 900), (125, 0, 900), (126, 0, 0)]) rfl fhp117)
                      have h119 : sf_rd hp117 1 1 = some n0 := (fhp117.2.2.1 _ (bs_R.uq Hhp49 (g := 8) (p := 1) rfl).1 _ (by rw [(bs_R.uq Hhp49 (g := 8) (p := 1) rfl).2]; rfl)).trans h50
                      have h120 : sf_rd hp117 3 4 = some z5.toInt := (fhp117.2.2.1 _ (bs_R.uq Hhp49 (g := 9) (p := 3) rfl).1 _ (by rw [(bs_R.uq Hhp49 (g := 9) (p := 3) rfl).2]; rfl)).trans h51
                      have h121 : sf_rd hp117 3 9 = some z9.toInt := (fhp117.2.2.1 _ (bs_R.uq Hhp49 (g := 9) (p := 3) rfl).1 _ (by rw [(bs_R.uq Hhp49 (g := 9) (p := 3) rfl).2]; rfl)).trans h52
                      refine (show Ev _ 52 ([some (.ref 1), some (.ref 3), some (.int x2), some (.int k22), some (.int k23)], [.int z118], (0, 0), hp117) _ from ?_)
                      obtain ⟨z9, rz9, KC, A2, w9, AA, TV⟩ := xhp117 _ _ _ AT h50 h53 (by omega) (by omega)
                      obtain rfl := Value.int.inj (Option.some.inj rz9)
                      rw [EB _ (fun q => Fhp49.2.2.1 _ (bs_R.uq H (g := 123) (p := 2) rfl).1 _ (by rw [(bs_R.uq H (g := 123) (p := 2) rfl).2]; rfl)), show ((Q0 : Int)).toNat = Q0 by omega] at KC A2 AA TV
                      have TK : tok BB n0.toNat x2.toInt.toNat k23.toInt.toNat = tct BB n0.toNat Q0 := tok_cut TP (by omega) (by omega)
                      rw [← TK] at KC A2 AA TV
                      have N0 : (tok BB n0.toNat x2.toInt.toNat k23.toInt.toNat).k ≠ 0 := by rw [TK]; exact tct_ne0 _ _ _
                      refine bs_lit (k := 1) rfl rfl fun z122 hz122 => ?_
                      exact by
                       refine bs_eq rfl (fun c123 => ?_) (fun c123 => ?_)
                       · skip
                         have c124 : z118.toInt = 1 := by omega
                         refine bs_lit (k := 0) rfl rfl fun z125 hz125 => ?_
                         refine Ev.step (j := 62) (s' := ([some (.ref 1), some (.ref 3), some (.int x2), some (.int z125), some (.int k23)], [], (0, 0), hp117)) rfl rfl ?_
                         refine Ev.step (j := 93) (s' := ([some (.ref 1), some (.ref 3), some (.int x2), some (.int z125), some (.int k23)], [], (0, 0), hp117)) rfl rfl ?_
                         refine bs_iinc (1) rfl rfl rfl rfl (by omega) (by omega) fun z126 hz126 => ?_
                         refine (show Ev _ 96 ([some (.ref 1), some (.ref 3), some (.int x2), some (.int z125), some (.int z126)], [], (0, 0), hp117) _ from ?_)
                         refine Ev.step (j := 14) (s' := ([some (.ref 1), some (.ref 3), some (.int x2), some (.int z125), some (.int z126)], [], (0, 0), hp117)) rfl rfl ?_
                         have EK : z126.toInt.toNat = k23.toInt.toNat + 1 := by omega
                         have OL : ∀ j, j < k23.toInt.toNat → NE BB n0.toNat x2.toInt.toNat j := ay32 (by omega)
                         have TJ : ∀ j, j < k23.toInt.toNat + 1 → TKJ hp117 BB n0.toNat x2.toInt.toNat j := by
                           intro j hj
                           by_cases e : j = k23.toInt.toNat
                           · rw [e]; exact ⟨AA.2.1, AA.2.2.1, _, AA.2.2.2.1, TV⟩
                           · exact TKJ_AD (TKJ_TU (ky32 j (by omega)) (TU_fr Hhp24 fhp49 rfl rfl rfl rfl)) AA (by omega)
                         obtain ⟨L9, hL9, lL9, uL9⟩ := bs_fld (k := 2) Hhp117 (bs_R.uq Hhp117 (g := 8) rfl) (by decide) rfl
                         have EL : L9 = ((tok BB n0.toNat x2.toInt.toNat k23.toInt.toNat).nx : Int) := Option.some.inj (hL9.symm.trans A2)
                         have INV : ∃ v : Int, sf_rd hp117 1 2 = some v ∧ 0 ≤ v ∧ v ≤ 940 ∧ sf_rd hp117 3 3 = some z126.toInt ∧ (z125.toInt = 1 → v.toNat = tps BB n0.toNat x2.toInt.toNat z126.toInt.toNat) ∧ (∀ j, j < z126.toInt.toNat → TKJ hp117 BB n0.toNat x2.toInt.toNat j) ∧ (∀ j, j + 1 < z126.toInt.toNat → NE BB n0.toNat x2.toInt.toNat j) ∧ (z125.toInt = 1 → ∀ j, j < z126.toInt.toNat → NE BB n0.toNat x2.toInt.toNat j) ∧ (z125.toInt = 0 → 1 ≤ z126.toInt ∧ ((tok BB n0.toNat x2.toInt.toNat (z126.toInt.toNat - 1)).k = 0 ∨ (tok BB n0.toNat x2.toInt.toNat (z126.toInt.toNat - 1)).k = 1)) := ⟨_, A2, by omega, by omega, AA.1.trans (congrArg some (by omega)), fun e => absurd e (by omega), by rw [EK]; exact TJ, by rw [EK]; exact fun j hj => OL j (by omega), fun e => absurd e (by omega), fun _ => ⟨by omega, by rw [EK, Nat.add_sub_cancel]; exact (Or.inr (by omega))⟩⟩
                         refine ih26 (z125, z126, hp117, thp117) ⟨Hhp117, Fhp117, h119, h120, h121, (by exact INV), (by first | omega | assumption)⟩ ?_
                         show (x2.toInt + 1 - z126.toInt).toNat < (x2.toInt + 1 - k23.toInt).toNat
                         omega
                       · skip
                         refine bs_lit (k := 1) rfl rfl fun z127 hz127 => ?_
                         exact by
                          refine Ev.step (j := 61) (s' := ([some (.ref 1), some (.ref 3), some (.int x2), some (.int k22), some (.int k23)], [.int z127], (0, 0), hp117)) rfl rfl ?_
                          refine Ev.step (j := 62) (s' := ([some (.ref 1), some (.ref 3), some (.int x2), some (.int z127), some (.int k23)], [], (0, 0), hp117)) rfl rfl ?_
                          refine Ev.step (j := 93) (s' := ([some (.ref 1), some (.ref 3), some (.int x2), some (.int z127), some (.int k23)], [], (0, 0), hp117)) rfl rfl ?_
                          refine bs_iinc (1) rfl rfl rfl rfl (by omega) (by omega) fun z128 hz128 => ?_
                          refine (show Ev _ 96 ([some (.ref 1), some (.ref 3), some (.int x2), some (.int z127), some (.int z128)], [], (0, 0), hp117) _ from ?_)
                          refine Ev.step (j := 14) (s' := ([some (.ref 1), some (.ref 3), some (.int x2), some (.int z127), some (.int z128)], [], (0, 0), hp117)) rfl rfl ?_
                          have EK : z128.toInt.toNat = k23.toInt.toNat + 1 := by omega
                          have OL : ∀ j, j < k23.toInt.toNat → NE BB n0.toNat x2.toInt.toNat j := ay32 (by omega)
                          have TJ : ∀ j, j < k23.toInt.toNat + 1 → TKJ hp117 BB n0.toNat x2.toInt.toNat j := by
                            intro j hj
                            by_cases e : j = k23.toInt.toNat
                            · rw [e]; exact ⟨AA.2.1, AA.2.2.1, _, AA.2.2.2.1, TV⟩
                            · exact TKJ_AD (TKJ_TU (ky32 j (by omega)) (TU_fr Hhp24 fhp49 rfl rfl rfl rfl)) AA (by omega)
                          have NW : ∀ j, j < k23.toInt.toNat + 1 → NE BB n0.toNat x2.toInt.toNat j := by
                            intro j hj
                            by_cases e : j = k23.toInt.toNat
                            · rw [e]; exact ⟨N0, fun e1 => by rw [e1] at KC; omega⟩
                            · exact OL j (by omega)
                          obtain ⟨L9, hL9, lL9, uL9⟩ := bs_fld (k := 2) Hhp117 (bs_R.uq Hhp117 (g := 8) rfl) (by decide) rfl
                          have EL : L9 = ((tok BB n0.toNat x2.toInt.toNat k23.toInt.toNat).nx : Int) := Option.some.inj (hL9.symm.trans A2)
                          have INV : ∃ v : Int, sf_rd hp117 1 2 = some v ∧ 0 ≤ v ∧ v ≤ 940 ∧ sf_rd hp117 3 3 = some z128.toInt ∧ (z127.toInt = 1 → v.toNat = tps BB n0.toNat x2.toInt.toNat z128.toInt.toNat) ∧ (∀ j, j < z128.toInt.toNat → TKJ hp117 BB n0.toNat x2.toInt.toNat j) ∧ (∀ j, j + 1 < z128.toInt.toNat → NE BB n0.toNat x2.toInt.toNat j) ∧ (z127.toInt = 1 → ∀ j, j < z128.toInt.toNat → NE BB n0.toNat x2.toInt.toNat j) ∧ (z127.toInt = 0 → 1 ≤ z128.toInt ∧ ((tok BB n0.toNat x2.toInt.toNat (z128.toInt.toNat - 1)).k = 0 ∨ (tok BB n0.toNat x2.toInt.toNat (z128.toInt.toNat - 1)).k = 1)) := ⟨_, A2, by omega, by omega, AA.1.trans (congrArg some (by omega)), fun _ => by rw [EK, tps_s]; omega, by rw [EK]; exact TJ, by rw [EK]; exact fun j hj => OL j (by omega), fun _ => by rw [EK]; exact NW, fun e => absurd e (by omega)⟩
                          refine ih26 (z127, z128, hp117, thp117) ⟨Hhp117, Fhp117, h119, h120, h121, (by exact INV), (by first | omega | assumption)⟩ ?_
                          show (x2.toInt + 1 - z128.toInt).toNat < (x2.toInt + 1 - k23.toInt).toNat
                          omega
end
