-- 63.b06.lean.txt
section
def kq_X11_next_h : sf_Q := ([(1, 11, 0)], [], none, [], [(11, 4, 4), (11, 11, 14), (11, 17, 17)])
set_option maxRecDepth 100000 in
set_option maxHeartbeats 4000000 in
theorem ct_X11_next_h : sf_ct kq_X11_next_h Z_X11_next := by
  intro t hp as H hl hj hpre
  match as, hl with
  | [v0], _ =>
    obtain ⟨a0, rfl, ra0⟩ := bs_aR (hj 0 _ rfl)
    obtain rfl := ra0.eq H (p := 69) rfl
    clear hpre hj
    have F0 : sf_fr [(999, 0, 0), (11, 4, 4), (11, 11, 14), (11, 17, 17)] t hp t hp := sf_fr_rf
    obtain ⟨P0, Q4, LP0, GP0⟩ := bs_fld (k := 4) H (bs_R.uq H (g := 11) rfl) (by decide) rfl
    obtain ⟨K0, Q11, -, -⟩ := bs_fld (k := 11) H (bs_R.uq H (g := 11) rfl) (by decide) rfl
    refine bs_fin (K := kq_X11_next_h) (L := (L_X11_next Z_X11_peek Z_X11_isSmall Z_X11_isDigit)) (nL := 4) (Nat.le_of_ble_eq_true rfl) ?_
    obtain ⟨Q, hQ⟩ : ∃ Q : ab_O → Prop, Q = (fun o => ∃ t', sf_h t' o.2 ∧ sf_fr (kq_X11_next_h).2.2.2.2 t hp t' o.2 ∧ sf_an t' o.2.1 (kq_X11_next_h).2.2.1 o.1 ∧ sf_S (sf_v1 o.1 [.ref 69] o.2) (kq_X11_next_h).2.2.2.1) := ⟨_, rfl⟩
    rw [← hQ]
    refine (show Ev (ab_T (L_X11_next Z_X11_peek Z_X11_isSmall Z_X11_isDigit)) 0 ([some (.ref 69), none, none, none], [], (0, 0), hp) Q from ?_)
    have INV : ∃ v : Int, sf_rd hp 69 4 = some v ∧ P0 ≤ v ∧ v ≤ 940 := ⟨_, Q4, by omega, by omega⟩
    refine bs_loop (ι := ab_H × (Nat → Nat)) (fun ⟨hp1, t2⟩ => ([some (.ref 69), none, none, none], [], (0, 0), hp1)) (fun ⟨hp1, t2⟩ => (sf_h t2 hp1) ∧ (sf_fr [(999, 0, 0), (11, 4, 4), (11, 11, 14), (11, 17, 17)] t hp t2 hp1) ∧ (∃ v : Int, sf_rd hp1 69 4 = some v ∧ P0 ≤ v ∧ v ≤ 940)) (fun ⟨hp1, t2⟩ => (940 - (sf_rd hp1 69 4).getD 0).toNat) ?_ (hp, t) ⟨H, F0, (by exact INV)⟩
    rintro ⟨hp1, t2⟩ ⟨Hhp1, Fhp1, i4⟩ ih3
    refine (show Ev _ 0 ([some (.ref 69), none, none, none], [], (0, 0), hp1) _ from ?_)
    obtain ⟨y5, hy5, ly5, gy5⟩ := i4
    refine Ev.step (j := 1) (s' := ([some (.ref 69), none, none, none], [.ref 69], (0, 0), hp1)) rfl rfl ?_
    exact by
     refine pk_ev rfl Hhp1 rfl fun z6 pz6 oz6 mz6 => ?_
     replace mz6 := mz6 _ hy5
     refine (show Ev _ 4 ([some (.ref 69), none, none, none], [.int z6], (0, 0), hp1) _ from ?_)
     refine bs_lit (k := 32) rfl rfl fun z7 hz7 => ?_
     refine bs_eq rfl (fun c8 => ?_) (fun c8 => ?_)
     · skip
       have c9 : z6.toInt = 32 := by omega
       refine Ev.step (j := 19) (s' := ([some (.ref 69), none, none, none], [.ref 69], (0, 0), hp1)) rfl rfl ?_
       refine Ev.step (j := 20) (s' := ([some (.ref 69), none, none, none], [.ref 69, .ref 69], (0, 0), hp1)) rfl rfl ?_
       exact by
        refine bs_getI 11 rfl rfl rfl Hhp1 (bs_R.uq Hhp1 (g := 11) rfl) (by decide) rfl fun z10 hz10 lz10 gz10 => ?_
        have e11 : z10.toInt = y5 := Option.some.inj (hz10.symm.trans hy5)
        refine bs_lit (k := 1) rfl rfl fun z12 hz12 => ?_
        first | (refine bs_add rfl (by omega) (by omega) fun z13 hz13 => ?_) | (refine bs_any rfl fun z13 => ?_)
        have rz13 := n_range z13
        refine bs_putI (W := [(11, 4, 4), (999, 0, 0)]) (g := 11) rfl rfl Hhp1 (bs_R.uq Hhp1 (g := 11) rfl) (by decide) rfl rfl rfl rfl (Or.inl rfl) (by omega) (by omega) fun hp14 Hhp14 fhp14 rhp14 ehp14 qhp14 nhp14 => ?_
        have Fhp14 := sf_fr_tr Fhp1 (sf_fr_wider (W := [(999, 0, 0), (11, 4, 4), (11, 11, 14), (11, 17, 17)]) rfl fhp14)
        refine Ev.step (j := 0) (s' := ([some (.ref 69), none, none, none], [], (0, 0), hp14)) rfl rfl ?_
        have INV : ∃ v : Int, sf_rd hp14 69 4 = some v ∧ P0 ≤ v ∧ v ≤ 940 := ⟨_, rhp14, by omega, by omega⟩
        have MS : (940 - (sf_rd hp14 69 4).getD 0).toNat < (940 - (sf_rd hp1 69 4).getD 0).toNat := by
          rw [rhp14, hy5]
          show (940 - z13.toInt).toNat < (940 - y5).toNat
          omega
        refine ih3 (hp14, t2) ⟨Hhp14, Fhp14, (by exact INV)⟩ ?_
        show (940 - (sf_rd hp14 69 4).getD 0).toNat < (940 - (sf_rd hp1 69 4).getD 0).toNat
        exact MS
     · skip
       refine Ev.step (j := 10) (s' := ([some (.ref 69), none, none, none], [.ref 69], (0, 0), hp1)) rfl rfl ?_
       exact by
        refine pk_ev rfl Hhp1 rfl fun z15 pz15 oz15 mz15 => ?_
        replace mz15 := mz15 _ hy5
        have e16 : z15.toInt = z6.toInt := pz15.same pz6
        refine (show Ev _ 13 ([some (.ref 69), none, none, none], [.int z15], (0, 0), hp1) _ from ?_)
        refine bs_lit (k := 10) rfl rfl fun z17 hz17 => ?_
        refine bs_ne rfl (fun c18 => ?_) (fun c18 => ?_)
        · skip
          refine Ev.step (j := 32) (s' := ([some (.ref 69), none, none, none], [.ref 69], (0, 0), hp1)) rfl rfl ?_
          refine Ev.step (j := 33) (s' := ([some (.ref 69), none, none, none], [.ref 69, .ref 69], (0, 0), hp1)) rfl rfl ?_
          exact by
           refine bs_getI 11 rfl rfl rfl Hhp1 (bs_R.uq Hhp1 (g := 11) rfl) (by decide) rfl fun z19 hz19 lz19 gz19 => ?_
           have e20 : z19.toInt = y5 := Option.some.inj (hz19.symm.trans hy5)
           refine bs_putI (W := [(11, 12, 12)]) (g := 11) rfl rfl Hhp1 (bs_R.uq Hhp1 (g := 11) rfl) (by decide) rfl rfl rfl rfl (Or.inl rfl) (by omega) (by omega) fun hp21 Hhp21 fhp21 rhp21 ehp21 qhp21 nhp21 => ?_
           have Fhp21 := sf_fr_tr Fhp1 (sf_fr_wider (W := [(999, 0, 0), (11, 4, 4), (11, 11, 14), (11, 17, 17)]) rfl fhp21)
           have h22 : sf_rd hp21 69 4 = some y5 := (ehp21 _ _ (Or.inr (by omega))).trans hy5
           refine Ev.step (j := 40) (s' := ([some (.ref 69), none, none, none], [.ref 69], (0, 0), hp21)) rfl rfl ?_
           refine bs_lit (k := 0) rfl rfl fun z23 hz23 => ?_
           refine bs_putI (W := [(11, 13, 13)]) (g := 11) rfl rfl Hhp21 (bs_R.uq Hhp21 (g := 11) rfl) (by decide) rfl rfl rfl rfl (Or.inl rfl) (by omega) (by omega) fun hp24 Hhp24 fhp24 rhp24 ehp24 qhp24 nhp24 => ?_
           have Fhp24 := sf_fr_tr Fhp21 (sf_fr_wider (W := [(999, 0, 0), (11, 4, 4), (11, 11, 14), (11, 17, 17)]) rfl fhp24)
           have h25 : sf_rd hp24 69 4 = some y5 := (ehp24 _ _ (Or.inr (by omega))).trans h22
           have h26 : sf_rd hp24 69 12 = some z19.toInt := (ehp24 _ _ (Or.inr (by omega))).trans rhp21
           have cut27 : ∀ (hp28 : ab_H) (t29 : Nat → Nat), sf_h t29 hp28 → sf_fr [(999, 0, 0), (11, 4, 4), (11, 11, 14), (11, 17, 17)] t hp t29 hp28 → (∃ v : Int, sf_rd hp28 69 4 = some v ∧ sf_rd hp28 69 13 = some 0 ∧ P0 ≤ v ∧ v ≤ 940) → Ev (ab_T (L_X11_next Z_X11_peek Z_X11_isSmall Z_X11_isDigit)) 80 ([some (.ref 69), none, none, none], [], (0, 0), hp28) Q := by
             intro hp28 t29 Hhp28 Fhp28 i30
             obtain ⟨y31, hy31, cy31, ly31, gy31⟩ := i30
             refine Ev.step (j := 81) (s' := ([some (.ref 69), none, none, none], [.ref 69], (0, 0), hp28)) rfl rfl ?_
             exact by
              refine pk_ev rfl Hhp28 rfl fun z32 pz32 oz32 mz32 => ?_
              replace mz32 := mz32 _ hy31
              refine (show Ev _ 84 ([some (.ref 69), none, none, none], [.int z32], (0, 0), hp28) _ from ?_)
              refine Ev.step (j := 85) (s' := ([some (.ref 69), some (.int z32), none, none], [], (0, 0), hp28)) rfl rfl ?_
              refine Ev.step (j := 86) (s' := ([some (.ref 69), some (.int z32), none, none], [.int z32], (0, 0), hp28)) rfl rfl ?_
              refine bs_ifge rfl (fun c33 => ?_) (fun c33 => ?_)
              · skip
                have cut34 : ∀ (k35 : Int32) (k36 : Int32) (hp37 : ab_H) (t38 : Nat → Nat), sf_h t38 hp37 → sf_fr [(999, 0, 0), (11, 4, 4), (11, 11, 14), (11, 17, 17)] t hp t38 hp37 → (∃ v : Int, sf_rd hp37 69 4 = some v ∧ sf_rd hp37 69 13 = some 0 ∧ P0 ≤ v ∧ v ≤ 940 ∧ ((48 ≤ z32.toInt ∧ z32.toInt ≤ 57) ∨ (97 ≤ z32.toInt ∧ z32.toInt ≤ 122)) ∧ pkR hp37 z32) → (0 ≤ k35.toInt ∧ k35.toInt ≤ 1) → Ev (ab_T (L_X11_next Z_X11_peek Z_X11_isSmall Z_X11_isDigit)) 171 ([some (.ref 69), some (.int z32), some (.int k35), some (.int k36)], [], (0, 0), hp37) Q := by
                  intro k35 k36 hp37 t38 Hhp37 Fhp37 i39 i40
                  obtain ⟨y41, hy41, cy41, ly41, gy41, dy41, ky41⟩ := i39
                  refine Ev.step (j := 172) (s' := ([some (.ref 69), some (.int z32), some (.int k35), some (.int k36)], [.ref 69], (0, 0), hp37)) rfl rfl ?_
                  exact by
                   refine Ev.step (j := 173) (s' := ([some (.ref 69), some (.int z32), some (.int k35), some (.int k36)], [.long (0), .ref 69], (0, 0), hp37)) rfl rfl ?_
                   refine bs_putL (W := [(11, 17, 17)]) (g := 11) rfl rfl Hhp37 (bs_R.uq Hhp37 (g := 11) rfl) (by decide) rfl rfl rfl rfl fun hp42 Hhp42 fhp42 ehp42 qhp42 => ?_
                   have Fhp42 := sf_fr_tr Fhp37 (sf_fr_wider (W := [(999, 0, 0), (11, 4, 4), (11, 11, 14), (11, 17, 17)]) rfl fhp42)
                   have h43 : sf_rd hp42 69 4 = some y41 := (ehp42 _ _).trans hy41
                   have h44 : sf_rd hp42 69 13 = some (0 : Int) := (ehp42 _ _).trans cy41
                   refine Ev.step (j := 177) (s' := ([some (.ref 69), some (.int z32), some (.int k35), some (.int k36)], [.ref 69], (0, 0), hp42)) rfl rfl ?_
                   refine bs_lit (k := 0) rfl rfl fun z45 hz45 => ?_
                   refine bs_putI (W := [(11, 14, 14)]) (g := 11) rfl rfl Hhp42 (bs_R.uq Hhp42 (g := 11) rfl) (by decide) rfl rfl rfl rfl (Or.inl rfl) (by omega) (by omega) fun hp46 Hhp46 fhp46 rhp46 ehp46 qhp46 nhp46 => ?_
                   have Fhp46 := sf_fr_tr Fhp42 (sf_fr_wider (W := [(999, 0, 0), (11, 4, 4), (11, 11, 14), (11, 17, 17)]) rfl fhp46)
                   have h47 : sf_rd hp46 69 4 = some y41 := (ehp46 _ _ (Or.inr (by omega))).trans h43
                   have h48 : sf_rd hp46 69 13 = some (0 : Int) := (ehp46 _ _ (Or.inr (by omega))).trans h44
                   have P49 := pkR.mv ky41 (ehp42 _ _) (ehp42 _ _) (fun q => ehp42 _ _)
                   have P50 := pkR.mv P49 (ehp46 _ _ (Or.inr (by decide))) (ehp46 _ _ (Or.inr (by decide))) (fun q => ehp46 _ _ (Or.inl (by decide)))
                   have INV : ∃ v c n : Int, sf_rd hp46 69 4 = some v ∧ sf_rd hp46 69 13 = some c ∧ sf_rd hp46 69 14 = some n ∧ P0 ≤ v ∧ v ≤ 940 ∧ 0 ≤ c ∧ c ≤ v ∧ 0 ≤ n ∧ n ≤ 8214 ∧ (c = 0 → n ≤ 0) ∧ (c = 1 → n ≤ 74) ∧ (c = 2 → n ≤ 814) ∧ (P0 + 1 ≤ v ∨ pkR hp46 z32) := ⟨_, _, _, h47, h48, rhp46, by omega, by omega, by omega, by omega, by omega, by omega, by omega, by omega, by omega, Or.inr P50⟩
                   refine bs_loop (ι := Int32 × ab_H × (Nat → Nat)) (fun ⟨k51, hp52, t53⟩ => ([some (.ref 69), some (.int z32), some (.int k35), some (.int k51)], [], (0, 0), hp52)) (fun ⟨k51, hp52, t53⟩ => (sf_h t53 hp52) ∧ (sf_fr [(999, 0, 0), (11, 4, 4), (11, 11, 14), (11, 17, 17)] t hp t53 hp52) ∧ (∃ v c n : Int, sf_rd hp52 69 4 = some v ∧ sf_rd hp52 69 13 = some c ∧ sf_rd hp52 69 14 = some n ∧ P0 ≤ v ∧ v ≤ 940 ∧ 0 ≤ c ∧ c ≤ v ∧ 0 ≤ n ∧ n ≤ 8214 ∧ (c = 0 → n ≤ 0) ∧ (c = 1 → n ≤ 74) ∧ (c = 2 → n ≤ 814) ∧ (P0 + 1 ≤ v ∨ pkR hp52 z32))) (fun ⟨k51, hp52, t53⟩ => (940 - (sf_rd hp52 69 4).getD 0).toNat) ?_ (k36, hp46, t38) ⟨Hhp46, Fhp46, (by exact INV)⟩
                   rintro ⟨k51, hp52, t53⟩ ⟨Hhp52, Fhp52, i55⟩ ih54
                   refine (show Ev _ 181 ([some (.ref 69), some (.int z32), some (.int k35), some (.int k51)], [], (0, 0), hp52) _ from ?_)
                   obtain ⟨y56, y57, y58, hy56, hy57, hy58, ly56, gy56, ly57, gy57, ly58, gy58, dy58, fy58, ky58, jy56⟩ := i55
                   refine Ev.step (j := 182) (s' := ([some (.ref 69), some (.int z32), some (.int k35), some (.int k51)], [.ref 69], (0, 0), hp52)) rfl rfl ?_
                   exact by
                    refine pk_ev rfl Hhp52 rfl fun z59 pz59 oz59 mz59 => ?_
                    replace mz59 := mz59 _ hy56
                    refine (show Ev _ 185 ([some (.ref 69), some (.int z32), some (.int k35), some (.int k51)], [.int z59], (0, 0), hp52) _ from ?_)
                    have cut60 : ∀ (hp61 : ab_H) (t62 : Nat → Nat), sf_h t62 hp61 → sf_fr [(999, 0, 0), (11, 4, 4), (11, 11, 14), (11, 17, 17)] t hp t62 hp61 → (sf_rd hp61 69 4 = some y56) → (sf_rd hp61 69 13 = some y57) → (sf_rd hp61 69 14 = some y58) → ((48 ≤ z59.toInt ∧ z59.toInt ≤ 57) ∨ (97 ≤ z59.toInt ∧ z59.toInt ≤ 122)) → (pkR hp61 z59) → Ev (ab_T (L_X11_next Z_X11_peek Z_X11_isSmall Z_X11_isDigit)) 201 ([some (.ref 69), some (.int z32), some (.int k35), some (.int k51)], [], (0, 0), hp61) Q := by
                      intro hp61 t62 Hhp61 Fhp61 i63 i64 i65 i66 i67
                      have cut68 : ∀ (k69 : Int32) (hp70 : ab_H) (t71 : Nat → Nat), sf_h t71 hp70 → sf_fr [(999, 0, 0), (11, 4, 4), (11, 11, 14), (11, 17, 17)] t hp t71 hp70 → (sf_rd hp70 69 4 = some y56) → (sf_rd hp70 69 13 = some y57) → (sf_rd hp70 69 14 = some y58) → (pkR hp70 z59) → Ev (ab_T (L_X11_next Z_X11_peek Z_X11_isSmall Z_X11_isDigit)) 222 ([some (.ref 69), some (.int z32), some (.int k35), some (.int k69)], [], (0, 0), hp70) Q := by
                        intro k69 hp70 t71 Hhp70 Fhp70 i72 i73 i74 i75
                        refine Ev.step (j := 223) (s' := ([some (.ref 69), some (.int z32), some (.int k35), some (.int k69)], [.ref 69], (0, 0), hp70)) rfl rfl ?_
                        refine bs_getI 11 rfl rfl rfl Hhp70 (bs_R.uq Hhp70 (g := 11) rfl) (by decide) rfl fun z76 hz76 lz76 gz76 => ?_
                        have e77 : z76.toInt = y57 := Option.some.inj (hz76.symm.trans i73)
                        refine bs_lit (k := 7) rfl rfl fun z78 hz78 => ?_
                        exact by
                         refine bs_ge rfl (fun c79 => ?_) (fun c79 => ?_)
                         · skip
                           refine Ev.step (j := 249) (s' := ([some (.ref 69), some (.int z32), some (.int k35), some (.int k69)], [.ref 69], (0, 0), hp70)) rfl rfl ?_
                           refine bs_getI 11 rfl rfl rfl Hhp70 (bs_R.uq Hhp70 (g := 11) rfl) (by decide) rfl fun z80 hz80 lz80 gz80 => ?_
                           have e81 : z80.toInt = y57 := Option.some.inj (hz80.symm.trans i73)
                           refine bs_lit (k := 3) rfl rfl fun z82 hz82 => ?_
                           refine bs_ge rfl (fun c83 => ?_) (fun c83 => ?_)
                           · skip
                             refine Ev.step (j := 276) (s' := ([some (.ref 69), some (.int z32), some (.int k35), some (.int k69)], [.ref 69], (0, 0), hp70)) rfl rfl ?_
                             refine Ev.step (j := 277) (s' := ([some (.ref 69), some (.int z32), some (.int k35), some (.int k69)], [.ref 69, .ref 69], (0, 0), hp70)) rfl rfl ?_
                             exact by
                              refine bs_getI 11 rfl rfl rfl Hhp70 (bs_R.uq Hhp70 (g := 11) rfl) (by decide) rfl fun z84 hz84 lz84 gz84 => ?_
                              have e85 : z84.toInt = y57 := Option.some.inj (hz84.symm.trans i73)
                              refine bs_lit (k := 1) rfl rfl fun z86 hz86 => ?_
                              first | (refine bs_add rfl (by omega) (by omega) fun z87 hz87 => ?_) | (refine bs_any rfl fun z87 => ?_)
                              have rz87 := n_range z87
                              refine bs_putI (W := [(11, 13, 13)]) (g := 11) rfl rfl Hhp70 (bs_R.uq Hhp70 (g := 11) rfl) (by decide) rfl rfl rfl rfl (Or.inl rfl) (by omega) (by omega) fun hp88 Hhp88 fhp88 rhp88 ehp88 qhp88 nhp88 => ?_
                              have Fhp88 := sf_fr_tr Fhp70 (sf_fr_wider (W := [(999, 0, 0), (11, 4, 4), (11, 11, 14), (11, 17, 17)]) rfl fhp88)
                              have h89 : sf_rd hp88 69 4 = some y56 := (ehp88 _ _ (Or.inr (by omega))).trans i72
                              have h90 : sf_rd hp88 69 14 = some y58 := (ehp88 _ _ (Or.inr (by omega))).trans i74
                              refine Ev.step (j := 286) (s' := ([some (.ref 69), some (.int z32), some (.int k35), some (.int k69)], [.ref 69], (0, 0), hp88)) rfl rfl ?_
                              exact by
                               refine Ev.step (j := 287) (s' := ([some (.ref 69), some (.int z32), some (.int k35), some (.int k69)], [.ref 69, .ref 69], (0, 0), hp88)) rfl rfl ?_
                               refine bs_getI 11 rfl rfl rfl Hhp88 (bs_R.uq Hhp88 (g := 11) rfl) (by decide) rfl fun z91 hz91 lz91 gz91 => ?_
                               have e92 : z91.toInt = y56 := Option.some.inj (hz91.symm.trans h89)
                               refine bs_lit (k := 1) rfl rfl fun z93 hz93 => ?_
                               first | (refine bs_add rfl (by omega) (by omega) fun z94 hz94 => ?_) | (refine bs_any rfl fun z94 => ?_)
                               have rz94 := n_range z94
                               refine bs_putI (W := [(11, 4, 4), (999, 0, 0)]) (g := 11) rfl rfl Hhp88 (bs_R.uq Hhp88 (g := 11) rfl) (by decide) rfl rfl rfl rfl (Or.inl rfl) (by omega) (by omega) fun hp95 Hhp95 fhp95 rhp95 ehp95 qhp95 nhp95 => ?_
                               have Fhp95 := sf_fr_tr Fhp88 (sf_fr_wider (W := [(999, 0, 0), (11, 4, 4), (11, 11, 14), (11, 17, 17)]) rfl fhp95)
                               have h96 : sf_rd hp95 69 14 = some y58 := (ehp95 _ _ (Or.inr (by omega))).trans h90
                               have h97 : sf_rd hp95 69 13 = some z87.toInt := (ehp95 _ _ (Or.inr (by omega))).trans rhp88
                               refine Ev.step (j := 181) (s' := ([some (.ref 69), some (.int z32), some (.int k35), some (.int k69)], [], (0, 0), hp95)) rfl rfl ?_
                               have INV : ∃ v c n : Int, sf_rd hp95 69 4 = some v ∧ sf_rd hp95 69 13 = some c ∧ sf_rd hp95 69 14 = some n ∧ P0 ≤ v ∧ v ≤ 940 ∧ 0 ≤ c ∧ c ≤ v ∧ 0 ≤ n ∧ n ≤ 8214 ∧ (c = 0 → n ≤ 0) ∧ (c = 1 → n ≤ 74) ∧ (c = 2 → n ≤ 814) ∧ (P0 + 1 ≤ v ∨ pkR hp95 z32) := ⟨_, _, _, rhp95, h97, h96, by omega, by omega, by omega, by omega, by omega, by omega, by omega, by omega, by omega, Or.inl (by omega)⟩
                               have MS : (940 - (sf_rd hp95 69 4).getD 0).toNat < (940 - (sf_rd hp52 69 4).getD 0).toNat := by
                                 rw [rhp95, hy56]
                                 show (940 - z94.toInt).toNat < (940 - y56).toNat
                                 omega
                               refine ih54 (k69, hp95, t71) ⟨Hhp95, Fhp95, (by exact INV)⟩ ?_
                               show (940 - (sf_rd hp95 69 4).getD 0).toNat < (940 - (sf_rd hp52 69 4).getD 0).toNat
                               exact MS
                           · skip
                             refine Ev.step (j := 257) (s' := ([some (.ref 69), some (.int z32), some (.int k35), some (.int k69)], [.ref 69], (0, 0), hp70)) rfl rfl ?_
                             exact by
                              refine bs_lit (k := 10) rfl rfl fun z98 hz98 => ?_
                              refine Ev.step (j := 260) (s' := ([some (.ref 69), some (.int z32), some (.int k35), some (.int k69)], [.ref 69, .int z98, .ref 69], (0, 0), hp70)) rfl rfl ?_
                              refine bs_getI 11 rfl rfl rfl Hhp70 (bs_R.uq Hhp70 (g := 11) rfl) (by decide) rfl fun z99 hz99 lz99 gz99 => ?_
                              have e100 : z99.toInt = y58 := Option.some.inj (hz99.symm.trans i74)
                              refine bs_mul (10) rfl (Or.inl hz98) (by rw [hz98]; omega) (by rw [hz98]; omega) fun z101 hz101 => ?_
                              rw [hz98] at hz101
                              refine Ev.step (j := 265) (s' := ([some (.ref 69), some (.int z32), some (.int k35), some (.int k69)], [.ref 69, .int z101, .ref 69], (0, 0), hp70)) rfl rfl ?_
                              refine pk_ev rfl Hhp70 rfl fun z102 pz102 oz102 mz102 => ?_
                              replace mz102 := mz102 _ i72
                              have e103 : z102.toInt = z59.toInt := pz102.same i75
                              refine (show Ev _ 268 ([some (.ref 69), some (.int z32), some (.int k35), some (.int k69)], [.int z102, .int z101, .ref 69], (0, 0), hp70) _ from ?_)
                              first | (refine bs_add rfl (by omega) (by omega) fun z104 hz104 => ?_) | (refine bs_any rfl fun z104 => ?_)
                              have rz104 := n_range z104
                              refine bs_lit (k := 48) rfl rfl fun z105 hz105 => ?_
                              first | (refine bs_sub rfl (by omega) (by omega) fun z106 hz106 => ?_) | (refine bs_any rfl fun z106 => ?_)
                              have rz106 := n_range z106
                              refine bs_putI (W := [(11, 14, 14)]) (g := 11) rfl rfl Hhp70 (bs_R.uq Hhp70 (g := 11) rfl) (by decide) rfl rfl rfl rfl (Or.inl rfl) (by omega) (by omega) fun hp107 Hhp107 fhp107 rhp107 ehp107 qhp107 nhp107 => ?_
                              have Fhp107 := sf_fr_tr Fhp70 (sf_fr_wider (W := [(999, 0, 0), (11, 4, 4), (11, 11, 14), (11, 17, 17)]) rfl fhp107)
                              have h108 : sf_rd hp107 69 4 = some y56 := (ehp107 _ _ (Or.inr (by omega))).trans i72
                              have h109 : sf_rd hp107 69 13 = some y57 := (ehp107 _ _ (Or.inr (by omega))).trans i73
                              refine Ev.step (j := 276) (s' := ([some (.ref 69), some (.int z32), some (.int k35), some (.int k69)], [.ref 69], (0, 0), hp107)) rfl rfl ?_
                              exact by
                               refine Ev.step (j := 277) (s' := ([some (.ref 69), some (.int z32), some (.int k35), some (.int k69)], [.ref 69, .ref 69], (0, 0), hp107)) rfl rfl ?_
                               refine bs_getI 11 rfl rfl rfl Hhp107 (bs_R.uq Hhp107 (g := 11) rfl) (by decide) rfl fun z110 hz110 lz110 gz110 => ?_
                               have e111 : z110.toInt = y57 := Option.some.inj (hz110.symm.trans h109)
                               refine bs_lit (k := 1) rfl rfl fun z112 hz112 => ?_
                               first | (refine bs_add rfl (by omega) (by omega) fun z113 hz113 => ?_) | (refine bs_any rfl fun z113 => ?_)
                               have rz113 := n_range z113
                               refine bs_putI (W := [(11, 13, 13)]) (g := 11) rfl rfl Hhp107 (bs_R.uq Hhp107 (g := 11) rfl) (by decide) rfl rfl rfl rfl (Or.inl rfl) (by omega) (by omega) fun hp114 Hhp114 fhp114 rhp114 ehp114 qhp114 nhp114 => ?_
                               have Fhp114 := sf_fr_tr Fhp107 (sf_fr_wider (W := [(999, 0, 0), (11, 4, 4), (11, 11, 14), (11, 17, 17)]) rfl fhp114)
                               have h115 : sf_rd hp114 69 4 = some y56 := (ehp114 _ _ (Or.inr (by omega))).trans h108
                               have h116 : sf_rd hp114 69 14 = some z106.toInt := (ehp114 _ _ (Or.inr (by omega))).trans rhp107
                               refine Ev.step (j := 286) (s' := ([some (.ref 69), some (.int z32), some (.int k35), some (.int k69)], [.ref 69], (0, 0), hp114)) rfl rfl ?_
                               exact by
                                refine Ev.step (j := 287) (s' := ([some (.ref 69), some (.int z32), some (.int k35), some (.int k69)], [.ref 69, .ref 69], (0, 0), hp114)) rfl rfl ?_
                                refine bs_getI 11 rfl rfl rfl Hhp114 (bs_R.uq Hhp114 (g := 11) rfl) (by decide) rfl fun z117 hz117 lz117 gz117 => ?_
                                have e118 : z117.toInt = y56 := Option.some.inj (hz117.symm.trans h115)
                                refine bs_lit (k := 1) rfl rfl fun z119 hz119 => ?_
                                first | (refine bs_add rfl (by omega) (by omega) fun z120 hz120 => ?_) | (refine bs_any rfl fun z120 => ?_)
                                have rz120 := n_range z120
                                refine bs_putI (W := [(11, 4, 4), (999, 0, 0)]) (g := 11) rfl rfl Hhp114 (bs_R.uq Hhp114 (g := 11) rfl) (by decide) rfl rfl rfl rfl (Or.inl rfl) (by omega) (by omega) fun hp121 Hhp121 fhp121 rhp121 ehp121 qhp121 nhp121 => ?_
                                have Fhp121 := sf_fr_tr Fhp114 (sf_fr_wider (W := [(999, 0, 0), (11, 4, 4), (11, 11, 14), (11, 17, 17)]) rfl fhp121)
                                have h122 : sf_rd hp121 69 14 = some z106.toInt := (ehp121 _ _ (Or.inr (by omega))).trans h116
                                have h123 : sf_rd hp121 69 13 = some z113.toInt := (ehp121 _ _ (Or.inr (by omega))).trans rhp114
                                refine Ev.step (j := 181) (s' := ([some (.ref 69), some (.int z32), some (.int k35), some (.int k69)], [], (0, 0), hp121)) rfl rfl ?_
                                have INV : ∃ v c n : Int, sf_rd hp121 69 4 = some v ∧ sf_rd hp121 69 13 = some c ∧ sf_rd hp121 69 14 = some n ∧ P0 ≤ v ∧ v ≤ 940 ∧ 0 ≤ c ∧ c ≤ v ∧ 0 ≤ n ∧ n ≤ 8214 ∧ (c = 0 → n ≤ 0) ∧ (c = 1 → n ≤ 74) ∧ (c = 2 → n ≤ 814) ∧ (P0 + 1 ≤ v ∨ pkR hp121 z32) := ⟨_, _, _, rhp121, h123, h122, by omega, by omega, by omega, by omega, by omega, by omega, by omega, by omega, by omega, Or.inl (by omega)⟩
                                have MS : (940 - (sf_rd hp121 69 4).getD 0).toNat < (940 - (sf_rd hp52 69 4).getD 0).toNat := by
                                  rw [rhp121, hy56]
                                  show (940 - z120.toInt).toNat < (940 - y56).toNat
                                  omega
                                refine ih54 (k69, hp121, t71) ⟨Hhp121, Fhp121, (by exact INV)⟩ ?_
                                show (940 - (sf_rd hp121 69 4).getD 0).toNat < (940 - (sf_rd hp52 69 4).getD 0).toNat
                                exact MS
                         · skip
                           refine Ev.step (j := 232) (s' := ([some (.ref 69), some (.int z32), some (.int k35), some (.int k69)], [.ref 69], (0, 0), hp70)) rfl rfl ?_
                           exact by
                            refine Ev.step (j := 233) (s' := ([some (.ref 69), some (.int z32), some (.int k35), some (.int k69)], [.ref 69, .ref 69], (0, 0), hp70)) rfl rfl ?_
                            refine bs_getL (g := 11) rfl rfl Hhp70 (bs_R.uq Hhp70 (g := 11) rfl) (by decide) rfl fun w124 => ?_
                            refine bs_lit (k := 8) rfl rfl fun z125 hz125 => ?_
                            refine bs_L rfl rfl fun w126 => ?_
                            refine Ev.step (j := 240) (s' := ([some (.ref 69), some (.int z32), some (.int k35), some (.int k69)], [.ref 69, .long w126, .ref 69], (0, 0), hp70)) rfl rfl ?_
                            refine pk_ev rfl Hhp70 rfl fun z127 pz127 oz127 mz127 => ?_
                            replace mz127 := mz127 _ i72
                            have e128 : z127.toInt = z59.toInt := pz127.same i75
                            refine (show Ev _ 243 ([some (.ref 69), some (.int z32), some (.int k35), some (.int k69)], [.int z127, .long w126, .ref 69], (0, 0), hp70) _ from ?_)
                            exact by
                             refine bs_L rfl rfl fun w129 => ?_
                             refine bs_L rfl rfl fun w130 => ?_
                             refine bs_putL (W := [(11, 17, 17)]) (g := 11) rfl rfl Hhp70 (bs_R.uq Hhp70 (g := 11) rfl) (by decide) rfl rfl rfl rfl fun hp131 Hhp131 fhp131 ehp131 qhp131 => ?_
                             have Fhp131 := sf_fr_tr Fhp70 (sf_fr_wider (W := [(999, 0, 0), (11, 4, 4), (11, 11, 14), (11, 17, 17)]) rfl fhp131)
                             have h132 : sf_rd hp131 69 4 = some y56 := (ehp131 _ _).trans i72
                             have h133 : sf_rd hp131 69 13 = some y57 := (ehp131 _ _).trans i73
                             have h134 : sf_rd hp131 69 14 = some y58 := (ehp131 _ _).trans i74
                             refine Ev.step (j := 249) (s' := ([some (.ref 69), some (.int z32), some (.int k35), some (.int k69)], [.ref 69], (0, 0), hp131)) rfl rfl ?_
                             exact by
                              refine bs_getI 11 rfl rfl rfl Hhp131 (bs_R.uq Hhp131 (g := 11) rfl) (by decide) rfl fun z135 hz135 lz135 gz135 => ?_
                              have e136 : z135.toInt = y57 := Option.some.inj (hz135.symm.trans h133)
                              refine bs_lit (k := 3) rfl rfl fun z137 hz137 => ?_
                              refine bs_ge rfl (fun c138 => ?_) (fun c138 => ?_)
                              · skip
                                refine Ev.step (j := 276) (s' := ([some (.ref 69), some (.int z32), some (.int k35), some (.int k69)], [.ref 69], (0, 0), hp131)) rfl rfl ?_
                                refine Ev.step (j := 277) (s' := ([some (.ref 69), some (.int z32), some (.int k35), some (.int k69)], [.ref 69, .ref 69], (0, 0), hp131)) rfl rfl ?_
                                refine bs_getI 11 rfl rfl rfl Hhp131 (bs_R.uq Hhp131 (g := 11) rfl) (by decide) rfl fun z139 hz139 lz139 gz139 => ?_
                                have e140 : z139.toInt = y57 := Option.some.inj (hz139.symm.trans h133)
                                refine bs_lit (k := 1) rfl rfl fun z141 hz141 => ?_
                                first | (refine bs_add rfl (by omega) (by omega) fun z142 hz142 => ?_) | (refine bs_any rfl fun z142 => ?_)
                                have rz142 := n_range z142
                                refine bs_putI (W := [(11, 13, 13)]) (g := 11) rfl rfl Hhp131 (bs_R.uq Hhp131 (g := 11) rfl) (by decide) rfl rfl rfl rfl (Or.inl rfl) (by omega) (by omega) fun hp143 Hhp143 fhp143 rhp143 ehp143 qhp143 nhp143 => ?_
                                have Fhp143 := sf_fr_tr Fhp131 (sf_fr_wider (W := [(999, 0, 0), (11, 4, 4), (11, 11, 14), (11, 17, 17)]) rfl fhp143)
                                have h144 : sf_rd hp143 69 4 = some y56 := (ehp143 _ _ (Or.inr (by omega))).trans h132
                                have h145 : sf_rd hp143 69 14 = some y58 := (ehp143 _ _ (Or.inr (by omega))).trans h134
                                refine Ev.step (j := 286) (s' := ([some (.ref 69), some (.int z32), some (.int k35), some (.int k69)], [.ref 69], (0, 0), hp143)) rfl rfl ?_
                                exact by
                                 refine Ev.step (j := 287) (s' := ([some (.ref 69), some (.int z32), some (.int k35), some (.int k69)], [.ref 69, .ref 69], (0, 0), hp143)) rfl rfl ?_
                                 refine bs_getI 11 rfl rfl rfl Hhp143 (bs_R.uq Hhp143 (g := 11) rfl) (by decide) rfl fun z146 hz146 lz146 gz146 => ?_
                                 have e147 : z146.toInt = y56 := Option.some.inj (hz146.symm.trans h144)
                                 refine bs_lit (k := 1) rfl rfl fun z148 hz148 => ?_
                                 first | (refine bs_add rfl (by omega) (by omega) fun z149 hz149 => ?_) | (refine bs_any rfl fun z149 => ?_)
                                 have rz149 := n_range z149
                                 refine bs_putI (W := [(11, 4, 4), (999, 0, 0)]) (g := 11) rfl rfl Hhp143 (bs_R.uq Hhp143 (g := 11) rfl) (by decide) rfl rfl rfl rfl (Or.inl rfl) (by omega) (by omega) fun hp150 Hhp150 fhp150 rhp150 ehp150 qhp150 nhp150 => ?_
                                 have Fhp150 := sf_fr_tr Fhp143 (sf_fr_wider (W := [(999, 0, 0), (11, 4, 4), (11, 11, 14), (11, 17, 17)]) rfl fhp150)
                                 have h151 : sf_rd hp150 69 14 = some y58 := (ehp150 _ _ (Or.inr (by omega))).trans h145
                                 have h152 : sf_rd hp150 69 13 = some z142.toInt := (ehp150 _ _ (Or.inr (by omega))).trans rhp143
                                 refine Ev.step (j := 181) (s' := ([some (.ref 69), some (.int z32), some (.int k35), some (.int k69)], [], (0, 0), hp150)) rfl rfl ?_
                                 have INV : ∃ v c n : Int, sf_rd hp150 69 4 = some v ∧ sf_rd hp150 69 13 = some c ∧ sf_rd hp150 69 14 = some n ∧ P0 ≤ v ∧ v ≤ 940 ∧ 0 ≤ c ∧ c ≤ v ∧ 0 ≤ n ∧ n ≤ 8214 ∧ (c = 0 → n ≤ 0) ∧ (c = 1 → n ≤ 74) ∧ (c = 2 → n ≤ 814) ∧ (P0 + 1 ≤ v ∨ pkR hp150 z32) := ⟨_, _, _, rhp150, h152, h151, by omega, by omega, by omega, by omega, by omega, by omega, by omega, by omega, by omega, Or.inl (by omega)⟩
                                 have MS : (940 - (sf_rd hp150 69 4).getD 0).toNat < (940 - (sf_rd hp52 69 4).getD 0).toNat := by
                                   rw [rhp150, hy56]
                                   show (940 - z149.toInt).toNat < (940 - y56).toNat
                                   omega
                                 refine ih54 (k69, hp150, t71) ⟨Hhp150, Fhp150, (by exact INV)⟩ ?_
                                 show (940 - (sf_rd hp150 69 4).getD 0).toNat < (940 - (sf_rd hp52 69 4).getD 0).toNat
                                 exact MS
                              · skip
                                refine Ev.step (j := 257) (s' := ([some (.ref 69), some (.int z32), some (.int k35), some (.int k69)], [.ref 69], (0, 0), hp131)) rfl rfl ?_
                                exact by
                                 refine bs_lit (k := 10) rfl rfl fun z153 hz153 => ?_
                                 refine Ev.step (j := 260) (s' := ([some (.ref 69), some (.int z32), some (.int k35), some (.int k69)], [.ref 69, .int z153, .ref 69], (0, 0), hp131)) rfl rfl ?_
                                 refine bs_getI 11 rfl rfl rfl Hhp131 (bs_R.uq Hhp131 (g := 11) rfl) (by decide) rfl fun z154 hz154 lz154 gz154 => ?_
                                 have e155 : z154.toInt = y58 := Option.some.inj (hz154.symm.trans h134)
                                 refine bs_mul (10) rfl (Or.inl hz153) (by rw [hz153]; omega) (by rw [hz153]; omega) fun z156 hz156 => ?_
                                 rw [hz153] at hz156
                                 refine Ev.step (j := 265) (s' := ([some (.ref 69), some (.int z32), some (.int k35), some (.int k69)], [.ref 69, .int z156, .ref 69], (0, 0), hp131)) rfl rfl ?_
                                 refine pk_ev rfl Hhp131 rfl fun z157 pz157 oz157 mz157 => ?_
                                 replace mz157 := mz157 _ h132
                                 have P158 := pkR.mv pz127 (ehp131 _ _) (ehp131 _ _) (fun q => ehp131 _ _)
                                 have e159 : z157.toInt = z127.toInt := pz157.same P158
                                 refine (show Ev _ 268 ([some (.ref 69), some (.int z32), some (.int k35), some (.int k69)], [.int z157, .int z156, .ref 69], (0, 0), hp131) _ from ?_)
                                 first | (refine bs_add rfl (by omega) (by omega) fun z160 hz160 => ?_) | (refine bs_any rfl fun z160 => ?_)
                                 have rz160 := n_range z160
                                 refine bs_lit (k := 48) rfl rfl fun z161 hz161 => ?_
                                 first | (refine bs_sub rfl (by omega) (by omega) fun z162 hz162 => ?_) | (refine bs_any rfl fun z162 => ?_)
                                 have rz162 := n_range z162
                                 refine bs_putI (W := [(11, 14, 14)]) (g := 11) rfl rfl Hhp131 (bs_R.uq Hhp131 (g := 11) rfl) (by decide) rfl rfl rfl rfl (Or.inl rfl) (by omega) (by omega) fun hp163 Hhp163 fhp163 rhp163 ehp163 qhp163 nhp163 => ?_
                                 have Fhp163 := sf_fr_tr Fhp131 (sf_fr_wider (W := [(999, 0, 0), (11, 4, 4), (11, 11, 14), (11, 17, 17)]) rfl fhp163)
                                 have h164 : sf_rd hp163 69 4 = some y56 := (ehp163 _ _ (Or.inr (by omega))).trans h132
                                 have h165 : sf_rd hp163 69 13 = some y57 := (ehp163 _ _ (Or.inr (by omega))).trans h133
                                 refine Ev.step (j := 276) (s' := ([some (.ref 69), some (.int z32), some (.int k35), some (.int k69)], [.ref 69], (0, 0), hp163)) rfl rfl ?_
                                 exact by
                                  refine Ev.step (j := 277) (s' := ([some (.ref 69), some (.int z32), some (.int k35), some (.int k69)], [.ref 69, .ref 69], (0, 0), hp163)) rfl rfl ?_
                                  refine bs_getI 11 rfl rfl rfl Hhp163 (bs_R.uq Hhp163 (g := 11) rfl) (by decide) rfl fun z166 hz166 lz166 gz166 => ?_
                                  have e167 : z166.toInt = y57 := Option.some.inj (hz166.symm.trans h165)
                                  refine bs_lit (k := 1) rfl rfl fun z168 hz168 => ?_
                                  first | (refine bs_add rfl (by omega) (by omega) fun z169 hz169 => ?_) | (refine bs_any rfl fun z169 => ?_)
                                  have rz169 := n_range z169
                                  refine bs_putI (W := [(11, 13, 13)]) (g := 11) rfl rfl Hhp163 (bs_R.uq Hhp163 (g := 11) rfl) (by decide) rfl rfl rfl rfl (Or.inl rfl) (by omega) (by omega) fun hp170 Hhp170 fhp170 rhp170 ehp170 qhp170 nhp170 => ?_
                                  have Fhp170 := sf_fr_tr Fhp163 (sf_fr_wider (W := [(999, 0, 0), (11, 4, 4), (11, 11, 14), (11, 17, 17)]) rfl fhp170)
                                  have h171 : sf_rd hp170 69 4 = some y56 := (ehp170 _ _ (Or.inr (by omega))).trans h164
                                  have h172 : sf_rd hp170 69 14 = some z162.toInt := (ehp170 _ _ (Or.inr (by omega))).trans rhp163
                                  refine Ev.step (j := 286) (s' := ([some (.ref 69), some (.int z32), some (.int k35), some (.int k69)], [.ref 69], (0, 0), hp170)) rfl rfl ?_
                                  exact by
                                   refine Ev.step (j := 287) (s' := ([some (.ref 69), some (.int z32), some (.int k35), some (.int k69)], [.ref 69, .ref 69], (0, 0), hp170)) rfl rfl ?_
                                   refine bs_getI 11 rfl rfl rfl Hhp170 (bs_R.uq Hhp170 (g := 11) rfl) (by decide) rfl fun z173 hz173 lz173 gz173 => ?_
                                   have e174 : z173.toInt = y56 := Option.some.inj (hz173.symm.trans h171)
                                   refine bs_lit (k := 1) rfl rfl fun z175 hz175 => ?_
                                   first | (refine bs_add rfl (by omega) (by omega) fun z176 hz176 => ?_) | (refine bs_any rfl fun z176 => ?_)
                                   have rz176 := n_range z176
                                   refine bs_putI (W := [(11, 4, 4), (999, 0, 0)]) (g := 11) rfl rfl Hhp170 (bs_R.uq Hhp170 (g := 11) rfl) (by decide) rfl rfl rfl rfl (Or.inl rfl) (by omega) (by omega) fun hp177 Hhp177 fhp177 rhp177 ehp177 qhp177 nhp177 => ?_
                                   have Fhp177 := sf_fr_tr Fhp170 (sf_fr_wider (W := [(999, 0, 0), (11, 4, 4), (11, 11, 14), (11, 17, 17)]) rfl fhp177)
                                   have h178 : sf_rd hp177 69 14 = some z162.toInt := (ehp177 _ _ (Or.inr (by omega))).trans h172
                                   have h179 : sf_rd hp177 69 13 = some z169.toInt := (ehp177 _ _ (Or.inr (by omega))).trans rhp170
                                   refine Ev.step (j := 181) (s' := ([some (.ref 69), some (.int z32), some (.int k35), some (.int k69)], [], (0, 0), hp177)) rfl rfl ?_
                                   have INV : ∃ v c n : Int, sf_rd hp177 69 4 = some v ∧ sf_rd hp177 69 13 = some c ∧ sf_rd hp177 69 14 = some n ∧ P0 ≤ v ∧ v ≤ 940 ∧ 0 ≤ c ∧ c ≤ v ∧ 0 ≤ n ∧ n ≤ 8214 ∧ (c = 0 → n ≤ 0) ∧ (c = 1 → n ≤ 74) ∧ (c = 2 → n ≤ 814) ∧ (P0 + 1 ≤ v ∨ pkR hp177 z32) := ⟨_, _, _, rhp177, h179, h178, by omega, by omega, by omega, by omega, by omega, by omega, by omega, by omega, by omega, Or.inl (by omega)⟩
                                   have MS : (940 - (sf_rd hp177 69 4).getD 0).toNat < (940 - (sf_rd hp52 69 4).getD 0).toNat := by
                                     rw [rhp177, hy56]
                                     show (940 - z176.toInt).toNat < (940 - y56).toNat
                                     omega
                                   refine ih54 (k69, hp177, t71) ⟨Hhp177, Fhp177, (by exact INV)⟩ ?_
                                   show (940 - (sf_rd hp177 69 4).getD 0).toNat < (940 - (sf_rd hp52 69 4).getD 0).toNat
                                   exact MS
                      refine Ev.step (j := 202) (s' := ([some (.ref 69), some (.int z32), some (.int k35), some (.int k51)], [.int k51], (0, 0), hp61)) rfl rfl ?_
                      exact by
                       refine bs_ifeq rfl (fun c180 => ?_) (fun c180 => ?_)
                       · skip
                         have c181 : k51.toInt = 0 := by omega
                         refine bs_lit (k := 0) rfl rfl fun z182 hz182 => ?_
                         refine Ev.step (j := 222) (s' := ([some (.ref 69), some (.int z32), some (.int k35), some (.int z182)], [], (0, 0), hp61)) rfl rfl ?_
                         exact cut68 z182 hp61 t62 Hhp61 Fhp61 i63 i64 i65 (by first | omega | assumption)
                       · skip
                         refine Ev.step (j := 206) (s' := ([some (.ref 69), some (.int z32), some (.int k35), some (.int k51)], [.ref 69], (0, 0), hp61)) rfl rfl ?_
                         refine pk_ev rfl Hhp61 rfl fun z183 pz183 oz183 mz183 => ?_
                         replace mz183 := mz183 _ i63
                         have e184 : z183.toInt = z59.toInt := pz183.same i67
                         refine (show Ev _ 209 ([some (.ref 69), some (.int z32), some (.int k35), some (.int k51)], [.int z183], (0, 0), hp61) _ from ?_)
                         exact by
                          refine Ev.inlS (L := L_X11_isSmall) (nL := 1) rfl rfl (Nat.le_of_ble_eq_true rfl) ?_
                          generalize hQ185 : (fun (o : ab_O) => Ev _ _ _ _) = Q185
                          refine (show Ev (ab_T L_X11_isSmall) 0 ([some (.int z183)], [], (0, 0), hp61) Q185 from ?_)
                          refine Ev.step (j := 1) (s' := ([some (.int z183)], [.int z183], (0, 0), hp61)) rfl rfl ?_
                          refine bs_lit (k := 97) rfl rfl fun z186 hz186 => ?_
                          refine bs_lt rfl (fun c187 => ?_) (fun c187 => ?_)
                          · skip
                            refine bs_lit (k := 0) rfl rfl fun z188 hz188 => ?_
                            refine bs_zret rfl rfl (by omega) (by omega) ?_
                            rw [← hQ185]
                            refine (show Ev _ 212 ([some (.ref 69), some (.int z32), some (.int k35), some (.int k51)], [.int z188], (0, 0), hp61) _ from ?_)
                            exact by
                             refine Ev.step (j := 213) (s' := ([some (.ref 69), some (.int z32), some (.int k35), some (.int k51)], [.int k35, .int z188], (0, 0), hp61)) rfl rfl ?_
                             refine bs_ne rfl (fun c189 => ?_) (fun c189 => ?_)
                             · skip
                               refine bs_lit (k := 0) rfl rfl fun z190 hz190 => ?_
                               refine Ev.step (j := 222) (s' := ([some (.ref 69), some (.int z32), some (.int k35), some (.int z190)], [], (0, 0), hp61)) rfl rfl ?_
                               exact cut68 z190 hp61 t62 Hhp61 Fhp61 i63 i64 i65 (by first | omega | assumption)
                             · skip
                               refine bs_lit (k := 1) rfl rfl fun z191 hz191 => ?_
                               refine Ev.step (j := 221) (s' := ([some (.ref 69), some (.int z32), some (.int k35), some (.int k51)], [.int z191], (0, 0), hp61)) rfl rfl ?_
                               refine Ev.step (j := 222) (s' := ([some (.ref 69), some (.int z32), some (.int k35), some (.int z191)], [], (0, 0), hp61)) rfl rfl ?_
                               exact cut68 z191 hp61 t62 Hhp61 Fhp61 i63 i64 i65 (by first | omega | assumption)
                          · skip
                            refine Ev.step (j := 7) (s' := ([some (.int z183)], [.int z183], (0, 0), hp61)) rfl rfl ?_
                            exact by
                             refine bs_lit (k := 122) rfl rfl fun z192 hz192 => ?_
                             refine bs_gt rfl (fun c193 => ?_) (fun c193 => ?_)
                             · skip
                               refine bs_lit (k := 0) rfl rfl fun z194 hz194 => ?_
                               refine bs_zret rfl rfl (by omega) (by omega) ?_
                               rw [← hQ185]
                               refine (show Ev _ 212 ([some (.ref 69), some (.int z32), some (.int k35), some (.int k51)], [.int z194], (0, 0), hp61) _ from ?_)
                               refine Ev.step (j := 213) (s' := ([some (.ref 69), some (.int z32), some (.int k35), some (.int k51)], [.int k35, .int z194], (0, 0), hp61)) rfl rfl ?_
                               refine bs_ne rfl (fun c195 => ?_) (fun c195 => ?_)
                               · skip
                                 refine bs_lit (k := 0) rfl rfl fun z196 hz196 => ?_
                                 exact by
                                  refine Ev.step (j := 222) (s' := ([some (.ref 69), some (.int z32), some (.int k35), some (.int z196)], [], (0, 0), hp61)) rfl rfl ?_
                                  exact cut68 z196 hp61 t62 Hhp61 Fhp61 i63 i64 i65 (by first | omega | assumption)
                               · skip
                                 refine bs_lit (k := 1) rfl rfl fun z197 hz197 => ?_
                                 exact by
                                  refine Ev.step (j := 221) (s' := ([some (.ref 69), some (.int z32), some (.int k35), some (.int k51)], [.int z197], (0, 0), hp61)) rfl rfl ?_
                                  refine Ev.step (j := 222) (s' := ([some (.ref 69), some (.int z32), some (.int k35), some (.int z197)], [], (0, 0), hp61)) rfl rfl ?_
                                  exact cut68 z197 hp61 t62 Hhp61 Fhp61 i63 i64 i65 (by first | omega | assumption)
                             · skip
                               refine bs_lit (k := 1) rfl rfl fun z198 hz198 => ?_
                               exact by
                                refine Ev.step (j := 17) (s' := ([some (.int z183)], [.int z198], (0, 0), hp61)) rfl rfl ?_
                                refine bs_zret rfl rfl (by omega) (by omega) ?_
                                rw [← hQ185]
                                refine (show Ev _ 212 ([some (.ref 69), some (.int z32), some (.int k35), some (.int k51)], [.int z198], (0, 0), hp61) _ from ?_)
                                refine Ev.step (j := 213) (s' := ([some (.ref 69), some (.int z32), some (.int k35), some (.int k51)], [.int k35, .int z198], (0, 0), hp61)) rfl rfl ?_
                                refine bs_ne rfl (fun c199 => ?_) (fun c199 => ?_)
                                · skip
                                  refine bs_lit (k := 0) rfl rfl fun z200 hz200 => ?_
                                  refine Ev.step (j := 222) (s' := ([some (.ref 69), some (.int z32), some (.int k35), some (.int z200)], [], (0, 0), hp61)) rfl rfl ?_
                                  exact cut68 z200 hp61 t62 Hhp61 Fhp61 i63 i64 i65 (by first | omega | assumption)
                                · skip
                                  refine bs_lit (k := 1) rfl rfl fun z201 hz201 => ?_
                                  exact by
                                   refine Ev.step (j := 221) (s' := ([some (.ref 69), some (.int z32), some (.int k35), some (.int k51)], [.int z201], (0, 0), hp61)) rfl rfl ?_
                                   refine Ev.step (j := 222) (s' := ([some (.ref 69), some (.int z32), some (.int k35), some (.int z201)], [], (0, 0), hp61)) rfl rfl ?_
                                   exact cut68 z201 hp61 t62 Hhp61 Fhp61 i63 i64 i65 (by first | omega | assumption)
                    refine Ev.inlS (L := L_X11_isSmall) (nL := 1) rfl rfl (Nat.le_of_ble_eq_true rfl) ?_
                    generalize hQ202 : (fun (o : ab_O) => Ev _ _ _ _) = Q202
                    refine (show Ev (ab_T L_X11_isSmall) 0 ([some (.int z59)], [], (0, 0), hp52) Q202 from ?_)
                    exact by
                     refine Ev.step (j := 1) (s' := ([some (.int z59)], [.int z59], (0, 0), hp52)) rfl rfl ?_
                     refine bs_lit (k := 97) rfl rfl fun z203 hz203 => ?_
                     refine bs_lt rfl (fun c204 => ?_) (fun c204 => ?_)
                     · skip
                       refine bs_lit (k := 0) rfl rfl fun z205 hz205 => ?_
                       refine bs_zret rfl rfl (by omega) (by omega) ?_
                       rw [← hQ202]
                       refine (show Ev _ 188 ([some (.ref 69), some (.int z32), some (.int k35), some (.int k51)], [.int z205], (0, 0), hp52) _ from ?_)
                       refine bs_ifne rfl (fun c206 => ?_) (fun c206 => ?_)
                       · exfalso; omega
                       · skip
                         refine Ev.step (j := 192) (s' := ([some (.ref 69), some (.int z32), some (.int k35), some (.int k51)], [.ref 69], (0, 0), hp52)) rfl rfl ?_
                         exact by
                          refine pk_ev rfl Hhp52 rfl fun z207 pz207 oz207 mz207 => ?_
                          replace mz207 := mz207 _ hy56
                          have e208 : z207.toInt = z59.toInt := pz207.same pz59
                          refine (show Ev _ 195 ([some (.ref 69), some (.int z32), some (.int k35), some (.int k51)], [.int z207], (0, 0), hp52) _ from ?_)
                          refine Ev.inlS (L := L_X11_isDigit) (nL := 1) rfl rfl (Nat.le_of_ble_eq_true rfl) ?_
                          generalize hQ209 : (fun (o : ab_O) => Ev _ _ _ _) = Q209
                          refine (show Ev (ab_T L_X11_isDigit) 0 ([some (.int z207)], [], (0, 0), hp52) Q209 from ?_)
                          refine Ev.step (j := 1) (s' := ([some (.int z207)], [.int z207], (0, 0), hp52)) rfl rfl ?_
                          refine bs_lit (k := 48) rfl rfl fun z210 hz210 => ?_
                          exact by
                           refine bs_lt rfl (fun c211 => ?_) (fun c211 => ?_)
                           · skip
                             refine bs_lit (k := 0) rfl rfl fun z212 hz212 => ?_
                             refine bs_zret rfl rfl (by omega) (by omega) ?_
                             rw [← hQ209]
                             refine (show Ev _ 198 ([some (.ref 69), some (.int z32), some (.int k35), some (.int k51)], [.int z212], (0, 0), hp52) _ from ?_)
                             refine bs_ifeq rfl (fun c213 => ?_) (fun c213 => ?_)
                             · skip
                               have G : P0 + 1 ≤ y56 := by
                                 rcases jy56 with g | g
                                 · exact g
                                 · have e := pz207.same g
                                   omega
                               refine Ev.step (j := 299) (s' := ([some (.ref 69), some (.int z32), some (.int k35), some (.int k51)], [.ref 69], (0, 0), hp52)) rfl rfl ?_
                               refine Ev.step (j := 300) (s' := ([some (.ref 69), some (.int z32), some (.int k35), some (.int k51)], [.int k51, .ref 69], (0, 0), hp52)) rfl rfl ?_
                               exact by
                                refine bs_ifeq rfl (fun c214 => ?_) (fun c214 => ?_)
                                · skip
                                  have c215 : k51.toInt = 0 := by omega
                                  refine bs_lit (k := 4) rfl rfl fun z216 hz216 => ?_
                                  refine Ev.step (j := 333) (s' := ([some (.ref 69), some (.int z32), some (.int k35), some (.int k51)], [.int z216, .ref 69], (0, 0), hp52)) rfl rfl ?_
                                  refine bs_putI (W := [(11, 11, 11), (999, 0, 0)]) (g := 11) rfl rfl Hhp52 (bs_R.uq Hhp52 (g := 11) rfl) (by decide) rfl rfl rfl rfl (Or.inl rfl) (by omega) (by omega) fun hp217 Hhp217 fhp217 rhp217 ehp217 qhp217 nhp217 => ?_
                                  have Fhp217 := sf_fr_tr Fhp52 (sf_fr_wider (W := [(999, 0, 0), (11, 4, 4), (11, 11, 14), (11, 17, 17)]) rfl fhp217)
                                  have h218 : sf_rd hp217 69 4 = some y56 := (ehp217 _ _ (Or.inr (by omega))).trans hy56
                                  have h219 : sf_rd hp217 69 13 = some y57 := (ehp217 _ _ (Or.inr (by omega))).trans hy57
                                  have h220 : sf_rd hp217 69 14 = some y58 := (ehp217 _ _ (Or.inr (by omega))).trans hy58
                                  have A1 := psi_ge h218 rhp217
                                  have A2 := psi_ge Q4 Q11
                                  have PS : sf_psi hp217 ≤ sf_psi hp := by omega
                                  exact Ev.ret rfl rfl (by rw [hQ]; exact ⟨t53, Hhp217, (fr_unmark H Fhp217 PS), bs_anU, sf_S_nil⟩)
                                · skip
                                  refine Ev.step (j := 304) (s' := ([some (.ref 69), some (.int z32), some (.int k35), some (.int k51)], [.ref 69, .ref 69], (0, 0), hp52)) rfl rfl ?_
                                  exact by
                                   refine bs_getI 11 rfl rfl rfl Hhp52 (bs_R.uq Hhp52 (g := 11) rfl) (by decide) rfl fun z221 hz221 lz221 gz221 => ?_
                                   have e222 : z221.toInt = y57 := Option.some.inj (hz221.symm.trans hy57)
                                   refine Ev.step (j := 308) (s' := ([some (.ref 69), some (.int z32), some (.int k35), some (.int k51)], [.int k35, .int z221, .ref 69], (0, 0), hp52)) rfl rfl ?_
                                   refine bs_ifeq rfl (fun c223 => ?_) (fun c223 => ?_)
                                   · skip
                                     have c224 : k35.toInt = 0 := by omega
                                     refine bs_lit (k := 3) rfl rfl fun z225 hz225 => ?_
                                     refine bs_le rfl (fun c226 => ?_) (fun c226 => ?_)
                                     · skip
                                       refine Ev.step (j := 325) (s' := ([some (.ref 69), some (.int z32), some (.int k35), some (.int k51)], [.int k35, .ref 69], (0, 0), hp52)) rfl rfl ?_
                                       exact by
                                        refine bs_ifeq rfl (fun c227 => ?_) (fun c227 => ?_)
                                        · skip
                                          refine bs_lit (k := 2) rfl rfl fun z228 hz228 => ?_
                                          refine bs_putI (W := [(11, 11, 11), (999, 0, 0)]) (g := 11) rfl rfl Hhp52 (bs_R.uq Hhp52 (g := 11) rfl) (by decide) rfl rfl rfl rfl (Or.inl rfl) (by omega) (by omega) fun hp229 Hhp229 fhp229 rhp229 ehp229 qhp229 nhp229 => ?_
                                          have Fhp229 := sf_fr_tr Fhp52 (sf_fr_wider (W := [(999, 0, 0), (11, 4, 4), (11, 11, 14), (11, 17, 17)]) rfl fhp229)
                                          have h230 : sf_rd hp229 69 4 = some y56 := (ehp229 _ _ (Or.inr (by omega))).trans hy56
                                          have h231 : sf_rd hp229 69 13 = some y57 := (ehp229 _ _ (Or.inr (by omega))).trans hy57
                                          have h232 : sf_rd hp229 69 14 = some y58 := (ehp229 _ _ (Or.inr (by omega))).trans hy58
                                          have A1 := psi_ge h230 rhp229
                                          have A2 := psi_ge Q4 Q11
                                          have PS : sf_psi hp229 ≤ sf_psi hp := by omega
                                          exact Ev.ret rfl rfl (by rw [hQ]; exact ⟨t53, Hhp229, (fr_unmark H Fhp229 PS), bs_anU, sf_S_nil⟩)
                                        · exfalso; omega
                                     · skip
                                       refine bs_lit (k := 4) rfl rfl fun z233 hz233 => ?_
                                       exact by
                                        refine Ev.step (j := 333) (s' := ([some (.ref 69), some (.int z32), some (.int k35), some (.int k51)], [.int z233, .ref 69], (0, 0), hp52)) rfl rfl ?_
                                        refine bs_putI (W := [(11, 11, 11), (999, 0, 0)]) (g := 11) rfl rfl Hhp52 (bs_R.uq Hhp52 (g := 11) rfl) (by decide) rfl rfl rfl rfl (Or.inl rfl) (by omega) (by omega) fun hp234 Hhp234 fhp234 rhp234 ehp234 qhp234 nhp234 => ?_
                                        have Fhp234 := sf_fr_tr Fhp52 (sf_fr_wider (W := [(999, 0, 0), (11, 4, 4), (11, 11, 14), (11, 17, 17)]) rfl fhp234)
                                        have h235 : sf_rd hp234 69 4 = some y56 := (ehp234 _ _ (Or.inr (by omega))).trans hy56
                                        have h236 : sf_rd hp234 69 13 = some y57 := (ehp234 _ _ (Or.inr (by omega))).trans hy57
                                        have h237 : sf_rd hp234 69 14 = some y58 := (ehp234 _ _ (Or.inr (by omega))).trans hy58
                                        have A1 := psi_ge h235 rhp234
                                        have A2 := psi_ge Q4 Q11
                                        have PS : sf_psi hp234 ≤ sf_psi hp := by omega
                                        exact Ev.ret rfl rfl (by rw [hQ]; exact ⟨t53, Hhp234, (fr_unmark H Fhp234 PS), bs_anU, sf_S_nil⟩)
                                   · skip
                                     refine bs_lit (k := 7) rfl rfl fun z238 hz238 => ?_
                                     exact by
                                      refine Ev.step (j := 317) (s' := ([some (.ref 69), some (.int z32), some (.int k35), some (.int k51)], [.int z238, .int z221, .ref 69], (0, 0), hp52)) rfl rfl ?_
                                      refine bs_le rfl (fun c239 => ?_) (fun c239 => ?_)
                                      · skip
                                        refine Ev.step (j := 325) (s' := ([some (.ref 69), some (.int z32), some (.int k35), some (.int k51)], [.int k35, .ref 69], (0, 0), hp52)) rfl rfl ?_
                                        refine bs_ifeq rfl (fun c240 => ?_) (fun c240 => ?_)
                                        · skip
                                          have c241 : k35.toInt = 0 := by omega
                                          refine bs_lit (k := 2) rfl rfl fun z242 hz242 => ?_
                                          refine bs_putI (W := [(11, 11, 11), (999, 0, 0)]) (g := 11) rfl rfl Hhp52 (bs_R.uq Hhp52 (g := 11) rfl) (by decide) rfl rfl rfl rfl (Or.inl rfl) (by omega) (by omega) fun hp243 Hhp243 fhp243 rhp243 ehp243 qhp243 nhp243 => ?_
                                          have Fhp243 := sf_fr_tr Fhp52 (sf_fr_wider (W := [(999, 0, 0), (11, 4, 4), (11, 11, 14), (11, 17, 17)]) rfl fhp243)
                                          have h244 : sf_rd hp243 69 4 = some y56 := (ehp243 _ _ (Or.inr (by omega))).trans hy56
                                          have h245 : sf_rd hp243 69 13 = some y57 := (ehp243 _ _ (Or.inr (by omega))).trans hy57
                                          have h246 : sf_rd hp243 69 14 = some y58 := (ehp243 _ _ (Or.inr (by omega))).trans hy58
                                          have A1 := psi_ge h244 rhp243
                                          have A2 := psi_ge Q4 Q11
                                          have PS : sf_psi hp243 ≤ sf_psi hp := by omega
                                          exact Ev.ret rfl rfl (by rw [hQ]; exact ⟨t53, Hhp243, (fr_unmark H Fhp243 PS), bs_anU, sf_S_nil⟩)
                                        · skip
                                          refine bs_lit (k := 1) rfl rfl fun z247 hz247 => ?_
                                          exact by
                                           refine Ev.step (j := 333) (s' := ([some (.ref 69), some (.int z32), some (.int k35), some (.int k51)], [.int z247, .ref 69], (0, 0), hp52)) rfl rfl ?_
                                           refine bs_putI (W := [(11, 11, 11), (999, 0, 0)]) (g := 11) rfl rfl Hhp52 (bs_R.uq Hhp52 (g := 11) rfl) (by decide) rfl rfl rfl rfl (Or.inl rfl) (by omega) (by omega) fun hp248 Hhp248 fhp248 rhp248 ehp248 qhp248 nhp248 => ?_
                                           have Fhp248 := sf_fr_tr Fhp52 (sf_fr_wider (W := [(999, 0, 0), (11, 4, 4), (11, 11, 14), (11, 17, 17)]) rfl fhp248)
                                           have h249 : sf_rd hp248 69 4 = some y56 := (ehp248 _ _ (Or.inr (by omega))).trans hy56
                                           have h250 : sf_rd hp248 69 13 = some y57 := (ehp248 _ _ (Or.inr (by omega))).trans hy57
                                           have h251 : sf_rd hp248 69 14 = some y58 := (ehp248 _ _ (Or.inr (by omega))).trans hy58
                                           have A1 := psi_ge h249 rhp248
                                           have A2 := psi_ge Q4 Q11
                                           have PS : sf_psi hp248 ≤ sf_psi hp := by omega
                                           exact Ev.ret rfl rfl (by rw [hQ]; exact ⟨t53, Hhp248, (fr_unmark H Fhp248 PS), bs_anU, sf_S_nil⟩)
                                      · skip
                                        refine bs_lit (k := 4) rfl rfl fun z252 hz252 => ?_
                                        exact by
                                         refine Ev.step (j := 333) (s' := ([some (.ref 69), some (.int z32), some (.int k35), some (.int k51)], [.int z252, .ref 69], (0, 0), hp52)) rfl rfl ?_
                                         refine bs_putI (W := [(11, 11, 11), (999, 0, 0)]) (g := 11) rfl rfl Hhp52 (bs_R.uq Hhp52 (g := 11) rfl) (by decide) rfl rfl rfl rfl (Or.inl rfl) (by omega) (by omega) fun hp253 Hhp253 fhp253 rhp253 ehp253 qhp253 nhp253 => ?_
                                         have Fhp253 := sf_fr_tr Fhp52 (sf_fr_wider (W := [(999, 0, 0), (11, 4, 4), (11, 11, 14), (11, 17, 17)]) rfl fhp253)
                                         have h254 : sf_rd hp253 69 4 = some y56 := (ehp253 _ _ (Or.inr (by omega))).trans hy56
                                         have h255 : sf_rd hp253 69 13 = some y57 := (ehp253 _ _ (Or.inr (by omega))).trans hy57
                                         have h256 : sf_rd hp253 69 14 = some y58 := (ehp253 _ _ (Or.inr (by omega))).trans hy58
                                         have A1 := psi_ge h254 rhp253
                                         have A2 := psi_ge Q4 Q11
                                         have PS : sf_psi hp253 ≤ sf_psi hp := by omega
                                         exact Ev.ret rfl rfl (by rw [hQ]; exact ⟨t53, Hhp253, (fr_unmark H Fhp253 PS), bs_anU, sf_S_nil⟩)
                             · exfalso; omega
                           · skip
                             refine Ev.step (j := 7) (s' := ([some (.int z207)], [.int z207], (0, 0), hp52)) rfl rfl ?_
                             exact by
                              refine bs_lit (k := 57) rfl rfl fun z257 hz257 => ?_
                              refine bs_gt rfl (fun c258 => ?_) (fun c258 => ?_)
                              · skip
                                refine bs_lit (k := 0) rfl rfl fun z259 hz259 => ?_
                                refine bs_zret rfl rfl (by omega) (by omega) ?_
                                rw [← hQ209]
                                refine (show Ev _ 198 ([some (.ref 69), some (.int z32), some (.int k35), some (.int k51)], [.int z259], (0, 0), hp52) _ from ?_)
                                refine bs_ifeq rfl (fun c260 => ?_) (fun c260 => ?_)
                                · skip
                                  have G : P0 + 1 ≤ y56 := by
                                    rcases jy56 with g | g
                                    · exact g
                                    · have e := pz207.same g
                                      omega
                                  refine Ev.step (j := 299) (s' := ([some (.ref 69), some (.int z32), some (.int k35), some (.int k51)], [.ref 69], (0, 0), hp52)) rfl rfl ?_
                                  exact by
                                   refine Ev.step (j := 300) (s' := ([some (.ref 69), some (.int z32), some (.int k35), some (.int k51)], [.int k51, .ref 69], (0, 0), hp52)) rfl rfl ?_
                                   refine bs_ifeq rfl (fun c261 => ?_) (fun c261 => ?_)
                                   · skip
                                     have c262 : k51.toInt = 0 := by omega
                                     refine bs_lit (k := 4) rfl rfl fun z263 hz263 => ?_
                                     refine Ev.step (j := 333) (s' := ([some (.ref 69), some (.int z32), some (.int k35), some (.int k51)], [.int z263, .ref 69], (0, 0), hp52)) rfl rfl ?_
                                     refine bs_putI (W := [(11, 11, 11), (999, 0, 0)]) (g := 11) rfl rfl Hhp52 (bs_R.uq Hhp52 (g := 11) rfl) (by decide) rfl rfl rfl rfl (Or.inl rfl) (by omega) (by omega) fun hp264 Hhp264 fhp264 rhp264 ehp264 qhp264 nhp264 => ?_
                                     have Fhp264 := sf_fr_tr Fhp52 (sf_fr_wider (W := [(999, 0, 0), (11, 4, 4), (11, 11, 14), (11, 17, 17)]) rfl fhp264)
                                     have h265 : sf_rd hp264 69 4 = some y56 := (ehp264 _ _ (Or.inr (by omega))).trans hy56
                                     have h266 : sf_rd hp264 69 13 = some y57 := (ehp264 _ _ (Or.inr (by omega))).trans hy57
                                     have h267 : sf_rd hp264 69 14 = some y58 := (ehp264 _ _ (Or.inr (by omega))).trans hy58
                                     have A1 := psi_ge h265 rhp264
                                     have A2 := psi_ge Q4 Q11
                                     have PS : sf_psi hp264 ≤ sf_psi hp := by omega
                                     exact Ev.ret rfl rfl (by rw [hQ]; exact ⟨t53, Hhp264, (fr_unmark H Fhp264 PS), bs_anU, sf_S_nil⟩)
                                   · skip
                                     refine Ev.step (j := 304) (s' := ([some (.ref 69), some (.int z32), some (.int k35), some (.int k51)], [.ref 69, .ref 69], (0, 0), hp52)) rfl rfl ?_
                                     exact by
                                      refine bs_getI 11 rfl rfl rfl Hhp52 (bs_R.uq Hhp52 (g := 11) rfl) (by decide) rfl fun z268 hz268 lz268 gz268 => ?_
                                      have e269 : z268.toInt = y57 := Option.some.inj (hz268.symm.trans hy57)
                                      refine Ev.step (j := 308) (s' := ([some (.ref 69), some (.int z32), some (.int k35), some (.int k51)], [.int k35, .int z268, .ref 69], (0, 0), hp52)) rfl rfl ?_
                                      refine bs_ifeq rfl (fun c270 => ?_) (fun c270 => ?_)
                                      · skip
                                        have c271 : k35.toInt = 0 := by omega
                                        refine bs_lit (k := 3) rfl rfl fun z272 hz272 => ?_
                                        refine bs_le rfl (fun c273 => ?_) (fun c273 => ?_)
                                        · skip
                                          refine Ev.step (j := 325) (s' := ([some (.ref 69), some (.int z32), some (.int k35), some (.int k51)], [.int k35, .ref 69], (0, 0), hp52)) rfl rfl ?_
                                          exact by
                                           refine bs_ifeq rfl (fun c274 => ?_) (fun c274 => ?_)
                                           · skip
                                             refine bs_lit (k := 2) rfl rfl fun z275 hz275 => ?_
                                             refine bs_putI (W := [(11, 11, 11), (999, 0, 0)]) (g := 11) rfl rfl Hhp52 (bs_R.uq Hhp52 (g := 11) rfl) (by decide) rfl rfl rfl rfl (Or.inl rfl) (by omega) (by omega) fun hp276 Hhp276 fhp276 rhp276 ehp276 qhp276 nhp276 => ?_
                                             have Fhp276 := sf_fr_tr Fhp52 (sf_fr_wider (W := [(999, 0, 0), (11, 4, 4), (11, 11, 14), (11, 17, 17)]) rfl fhp276)
                                             have h277 : sf_rd hp276 69 4 = some y56 := (ehp276 _ _ (Or.inr (by omega))).trans hy56
                                             have h278 : sf_rd hp276 69 13 = some y57 := (ehp276 _ _ (Or.inr (by omega))).trans hy57
                                             have h279 : sf_rd hp276 69 14 = some y58 := (ehp276 _ _ (Or.inr (by omega))).trans hy58
                                             have A1 := psi_ge h277 rhp276
                                             have A2 := psi_ge Q4 Q11
                                             have PS : sf_psi hp276 ≤ sf_psi hp := by omega
                                             exact Ev.ret rfl rfl (by rw [hQ]; exact ⟨t53, Hhp276, (fr_unmark H Fhp276 PS), bs_anU, sf_S_nil⟩)
                                           · exfalso; omega
                                        · skip
                                          refine bs_lit (k := 4) rfl rfl fun z280 hz280 => ?_
                                          exact by
                                           refine Ev.step (j := 333) (s' := ([some (.ref 69), some (.int z32), some (.int k35), some (.int k51)], [.int z280, .ref 69], (0, 0), hp52)) rfl rfl ?_
                                           refine bs_putI (W := [(11, 11, 11), (999, 0, 0)]) (g := 11) rfl rfl Hhp52 (bs_R.uq Hhp52 (g := 11) rfl) (by decide) rfl rfl rfl rfl (Or.inl rfl) (by omega) (by omega) fun hp281 Hhp281 fhp281 rhp281 ehp281 qhp281 nhp281 => ?_
                                           have Fhp281 := sf_fr_tr Fhp52 (sf_fr_wider (W := [(999, 0, 0), (11, 4, 4), (11, 11, 14), (11, 17, 17)]) rfl fhp281)
                                           have h282 : sf_rd hp281 69 4 = some y56 := (ehp281 _ _ (Or.inr (by omega))).trans hy56
                                           have h283 : sf_rd hp281 69 13 = some y57 := (ehp281 _ _ (Or.inr (by omega))).trans hy57
                                           have h284 : sf_rd hp281 69 14 = some y58 := (ehp281 _ _ (Or.inr (by omega))).trans hy58
                                           have A1 := psi_ge h282 rhp281
                                           have A2 := psi_ge Q4 Q11
                                           have PS : sf_psi hp281 ≤ sf_psi hp := by omega
                                           exact Ev.ret rfl rfl (by rw [hQ]; exact ⟨t53, Hhp281, (fr_unmark H Fhp281 PS), bs_anU, sf_S_nil⟩)
                                      · skip
                                        refine bs_lit (k := 7) rfl rfl fun z285 hz285 => ?_
                                        exact by
                                         refine Ev.step (j := 317) (s' := ([some (.ref 69), some (.int z32), some (.int k35), some (.int k51)], [.int z285, .int z268, .ref 69], (0, 0), hp52)) rfl rfl ?_
                                         refine bs_le rfl (fun c286 => ?_) (fun c286 => ?_)
                                         · skip
                                           refine Ev.step (j := 325) (s' := ([some (.ref 69), some (.int z32), some (.int k35), some (.int k51)], [.int k35, .ref 69], (0, 0), hp52)) rfl rfl ?_
                                           refine bs_ifeq rfl (fun c287 => ?_) (fun c287 => ?_)
                                           · skip
                                             have c288 : k35.toInt = 0 := by omega
                                             refine bs_lit (k := 2) rfl rfl fun z289 hz289 => ?_
                                             refine bs_putI (W := [(11, 11, 11), (999, 0, 0)]) (g := 11) rfl rfl Hhp52 (bs_R.uq Hhp52 (g := 11) rfl) (by decide) rfl rfl rfl rfl (Or.inl rfl) (by omega) (by omega) fun hp290 Hhp290 fhp290 rhp290 ehp290 qhp290 nhp290 => ?_
                                             have Fhp290 := sf_fr_tr Fhp52 (sf_fr_wider (W := [(999, 0, 0), (11, 4, 4), (11, 11, 14), (11, 17, 17)]) rfl fhp290)
                                             have h291 : sf_rd hp290 69 4 = some y56 := (ehp290 _ _ (Or.inr (by omega))).trans hy56
                                             have h292 : sf_rd hp290 69 13 = some y57 := (ehp290 _ _ (Or.inr (by omega))).trans hy57
                                             have h293 : sf_rd hp290 69 14 = some y58 := (ehp290 _ _ (Or.inr (by omega))).trans hy58
                                             have A1 := psi_ge h291 rhp290
                                             have A2 := psi_ge Q4 Q11
                                             have PS : sf_psi hp290 ≤ sf_psi hp := by omega
                                             exact Ev.ret rfl rfl (by rw [hQ]; exact ⟨t53, Hhp290, (fr_unmark H Fhp290 PS), bs_anU, sf_S_nil⟩)
                                           · skip
                                             refine bs_lit (k := 1) rfl rfl fun z294 hz294 => ?_
                                             exact by
                                              refine Ev.step (j := 333) (s' := ([some (.ref 69), some (.int z32), some (.int k35), some (.int k51)], [.int z294, .ref 69], (0, 0), hp52)) rfl rfl ?_
                                              refine bs_putI (W := [(11, 11, 11), (999, 0, 0)]) (g := 11) rfl rfl Hhp52 (bs_R.uq Hhp52 (g := 11) rfl) (by decide) rfl rfl rfl rfl (Or.inl rfl) (by omega) (by omega) fun hp295 Hhp295 fhp295 rhp295 ehp295 qhp295 nhp295 => ?_
                                              have Fhp295 := sf_fr_tr Fhp52 (sf_fr_wider (W := [(999, 0, 0), (11, 4, 4), (11, 11, 14), (11, 17, 17)]) rfl fhp295)
                                              have h296 : sf_rd hp295 69 4 = some y56 := (ehp295 _ _ (Or.inr (by omega))).trans hy56
                                              have h297 : sf_rd hp295 69 13 = some y57 := (ehp295 _ _ (Or.inr (by omega))).trans hy57
                                              have h298 : sf_rd hp295 69 14 = some y58 := (ehp295 _ _ (Or.inr (by omega))).trans hy58
                                              have A1 := psi_ge h296 rhp295
                                              have A2 := psi_ge Q4 Q11
                                              have PS : sf_psi hp295 ≤ sf_psi hp := by omega
                                              exact Ev.ret rfl rfl (by rw [hQ]; exact ⟨t53, Hhp295, (fr_unmark H Fhp295 PS), bs_anU, sf_S_nil⟩)
                                         · skip
                                           refine bs_lit (k := 4) rfl rfl fun z299 hz299 => ?_
                                           exact by
                                            refine Ev.step (j := 333) (s' := ([some (.ref 69), some (.int z32), some (.int k35), some (.int k51)], [.int z299, .ref 69], (0, 0), hp52)) rfl rfl ?_
                                            refine bs_putI (W := [(11, 11, 11), (999, 0, 0)]) (g := 11) rfl rfl Hhp52 (bs_R.uq Hhp52 (g := 11) rfl) (by decide) rfl rfl rfl rfl (Or.inl rfl) (by omega) (by omega) fun hp300 Hhp300 fhp300 rhp300 ehp300 qhp300 nhp300 => ?_
                                            have Fhp300 := sf_fr_tr Fhp52 (sf_fr_wider (W := [(999, 0, 0), (11, 4, 4), (11, 11, 14), (11, 17, 17)]) rfl fhp300)
                                            have h301 : sf_rd hp300 69 4 = some y56 := (ehp300 _ _ (Or.inr (by omega))).trans hy56
                                            have h302 : sf_rd hp300 69 13 = some y57 := (ehp300 _ _ (Or.inr (by omega))).trans hy57
                                            have h303 : sf_rd hp300 69 14 = some y58 := (ehp300 _ _ (Or.inr (by omega))).trans hy58
                                            have A1 := psi_ge h301 rhp300
                                            have A2 := psi_ge Q4 Q11
                                            have PS : sf_psi hp300 ≤ sf_psi hp := by omega
                                            exact Ev.ret rfl rfl (by rw [hQ]; exact ⟨t53, Hhp300, (fr_unmark H Fhp300 PS), bs_anU, sf_S_nil⟩)
                                · exfalso; omega
                              · skip
                                refine bs_lit (k := 1) rfl rfl fun z304 hz304 => ?_
                                exact by
                                 refine Ev.step (j := 17) (s' := ([some (.int z207)], [.int z304], (0, 0), hp52)) rfl rfl ?_
                                 refine bs_zret rfl rfl (by omega) (by omega) ?_
                                 rw [← hQ209]
                                 refine (show Ev _ 198 ([some (.ref 69), some (.int z32), some (.int k35), some (.int k51)], [.int z304], (0, 0), hp52) _ from ?_)
                                 refine bs_ifeq rfl (fun c305 => ?_) (fun c305 => ?_)
                                 · exfalso; omega
                                 · skip
                                   exact cut60 hp52 t53 Hhp52 Fhp52 hy56 hy57 hy58 (by first | omega | assumption) (by first | omega | assumption)
                     · skip
                       refine Ev.step (j := 7) (s' := ([some (.int z59)], [.int z59], (0, 0), hp52)) rfl rfl ?_
                       exact by
                        refine bs_lit (k := 122) rfl rfl fun z306 hz306 => ?_
                        refine bs_gt rfl (fun c307 => ?_) (fun c307 => ?_)
                        · skip
                          refine bs_lit (k := 0) rfl rfl fun z308 hz308 => ?_
                          refine bs_zret rfl rfl (by omega) (by omega) ?_
                          rw [← hQ202]
                          refine (show Ev _ 188 ([some (.ref 69), some (.int z32), some (.int k35), some (.int k51)], [.int z308], (0, 0), hp52) _ from ?_)
                          refine bs_ifne rfl (fun c309 => ?_) (fun c309 => ?_)
                          · exfalso; omega
                          · skip
                            refine Ev.step (j := 192) (s' := ([some (.ref 69), some (.int z32), some (.int k35), some (.int k51)], [.ref 69], (0, 0), hp52)) rfl rfl ?_
                            refine pk_ev rfl Hhp52 rfl fun z310 pz310 oz310 mz310 => ?_
                            replace mz310 := mz310 _ hy56
                            have e311 : z310.toInt = z59.toInt := pz310.same pz59
                            refine (show Ev _ 195 ([some (.ref 69), some (.int z32), some (.int k35), some (.int k51)], [.int z310], (0, 0), hp52) _ from ?_)
                            exact by
                             refine Ev.inlS (L := L_X11_isDigit) (nL := 1) rfl rfl (Nat.le_of_ble_eq_true rfl) ?_
                             generalize hQ312 : (fun (o : ab_O) => Ev _ _ _ _) = Q312
                             refine (show Ev (ab_T L_X11_isDigit) 0 ([some (.int z310)], [], (0, 0), hp52) Q312 from ?_)
                             refine Ev.step (j := 1) (s' := ([some (.int z310)], [.int z310], (0, 0), hp52)) rfl rfl ?_
                             refine bs_lit (k := 48) rfl rfl fun z313 hz313 => ?_
                             refine bs_lt rfl (fun c314 => ?_) (fun c314 => ?_)
                             · skip
                               refine bs_lit (k := 0) rfl rfl fun z315 hz315 => ?_
                               refine bs_zret rfl rfl (by omega) (by omega) ?_
                               rw [← hQ312]
                               refine (show Ev _ 198 ([some (.ref 69), some (.int z32), some (.int k35), some (.int k51)], [.int z315], (0, 0), hp52) _ from ?_)
                               exact by
                                refine bs_ifeq rfl (fun c316 => ?_) (fun c316 => ?_)
                                · skip
                                  have G : P0 + 1 ≤ y56 := by
                                    rcases jy56 with g | g
                                    · exact g
                                    · have e := pz310.same g
                                      omega
                                  refine Ev.step (j := 299) (s' := ([some (.ref 69), some (.int z32), some (.int k35), some (.int k51)], [.ref 69], (0, 0), hp52)) rfl rfl ?_
                                  refine Ev.step (j := 300) (s' := ([some (.ref 69), some (.int z32), some (.int k35), some (.int k51)], [.int k51, .ref 69], (0, 0), hp52)) rfl rfl ?_
                                  refine bs_ifeq rfl (fun c317 => ?_) (fun c317 => ?_)
                                  · skip
                                    have c318 : k51.toInt = 0 := by omega
                                    refine bs_lit (k := 4) rfl rfl fun z319 hz319 => ?_
                                    refine Ev.step (j := 333) (s' := ([some (.ref 69), some (.int z32), some (.int k35), some (.int k51)], [.int z319, .ref 69], (0, 0), hp52)) rfl rfl ?_
                                    exact by
                                     refine bs_putI (W := [(11, 11, 11), (999, 0, 0)]) (g := 11) rfl rfl Hhp52 (bs_R.uq Hhp52 (g := 11) rfl) (by decide) rfl rfl rfl rfl (Or.inl rfl) (by omega) (by omega) fun hp320 Hhp320 fhp320 rhp320 ehp320 qhp320 nhp320 => ?_
                                     have Fhp320 := sf_fr_tr Fhp52 (sf_fr_wider (W := [(999, 0, 0), (11, 4, 4), (11, 11, 14), (11, 17, 17)]) rfl fhp320)
                                     have h321 : sf_rd hp320 69 4 = some y56 := (ehp320 _ _ (Or.inr (by omega))).trans hy56
                                     have h322 : sf_rd hp320 69 13 = some y57 := (ehp320 _ _ (Or.inr (by omega))).trans hy57
                                     have h323 : sf_rd hp320 69 14 = some y58 := (ehp320 _ _ (Or.inr (by omega))).trans hy58
                                     have A1 := psi_ge h321 rhp320
                                     have A2 := psi_ge Q4 Q11
                                     have PS : sf_psi hp320 ≤ sf_psi hp := by omega
                                     exact Ev.ret rfl rfl (by rw [hQ]; exact ⟨t53, Hhp320, (fr_unmark H Fhp320 PS), bs_anU, sf_S_nil⟩)
                                  · skip
                                    refine Ev.step (j := 304) (s' := ([some (.ref 69), some (.int z32), some (.int k35), some (.int k51)], [.ref 69, .ref 69], (0, 0), hp52)) rfl rfl ?_
                                    exact by
                                     refine bs_getI 11 rfl rfl rfl Hhp52 (bs_R.uq Hhp52 (g := 11) rfl) (by decide) rfl fun z324 hz324 lz324 gz324 => ?_
                                     have e325 : z324.toInt = y57 := Option.some.inj (hz324.symm.trans hy57)
                                     refine Ev.step (j := 308) (s' := ([some (.ref 69), some (.int z32), some (.int k35), some (.int k51)], [.int k35, .int z324, .ref 69], (0, 0), hp52)) rfl rfl ?_
                                     refine bs_ifeq rfl (fun c326 => ?_) (fun c326 => ?_)
                                     · skip
                                       have c327 : k35.toInt = 0 := by omega
                                       refine bs_lit (k := 3) rfl rfl fun z328 hz328 => ?_
                                       refine bs_le rfl (fun c329 => ?_) (fun c329 => ?_)
                                       · skip
                                         refine Ev.step (j := 325) (s' := ([some (.ref 69), some (.int z32), some (.int k35), some (.int k51)], [.int k35, .ref 69], (0, 0), hp52)) rfl rfl ?_
                                         exact by
                                          refine bs_ifeq rfl (fun c330 => ?_) (fun c330 => ?_)
                                          · skip
                                            refine bs_lit (k := 2) rfl rfl fun z331 hz331 => ?_
                                            refine bs_putI (W := [(11, 11, 11), (999, 0, 0)]) (g := 11) rfl rfl Hhp52 (bs_R.uq Hhp52 (g := 11) rfl) (by decide) rfl rfl rfl rfl (Or.inl rfl) (by omega) (by omega) fun hp332 Hhp332 fhp332 rhp332 ehp332 qhp332 nhp332 => ?_
                                            have Fhp332 := sf_fr_tr Fhp52 (sf_fr_wider (W := [(999, 0, 0), (11, 4, 4), (11, 11, 14), (11, 17, 17)]) rfl fhp332)
                                            have h333 : sf_rd hp332 69 4 = some y56 := (ehp332 _ _ (Or.inr (by omega))).trans hy56
                                            have h334 : sf_rd hp332 69 13 = some y57 := (ehp332 _ _ (Or.inr (by omega))).trans hy57
                                            have h335 : sf_rd hp332 69 14 = some y58 := (ehp332 _ _ (Or.inr (by omega))).trans hy58
                                            have A1 := psi_ge h333 rhp332
                                            have A2 := psi_ge Q4 Q11
                                            have PS : sf_psi hp332 ≤ sf_psi hp := by omega
                                            exact Ev.ret rfl rfl (by rw [hQ]; exact ⟨t53, Hhp332, (fr_unmark H Fhp332 PS), bs_anU, sf_S_nil⟩)
                                          · exfalso; omega
                                       · skip
                                         refine bs_lit (k := 4) rfl rfl fun z336 hz336 => ?_
                                         exact by
                                          refine Ev.step (j := 333) (s' := ([some (.ref 69), some (.int z32), some (.int k35), some (.int k51)], [.int z336, .ref 69], (0, 0), hp52)) rfl rfl ?_
                                          refine bs_putI (W := [(11, 11, 11), (999, 0, 0)]) (g := 11) rfl rfl Hhp52 (bs_R.uq Hhp52 (g := 11) rfl) (by decide) rfl rfl rfl rfl (Or.inl rfl) (by omega) (by omega) fun hp337 Hhp337 fhp337 rhp337 ehp337 qhp337 nhp337 => ?_
                                          have Fhp337 := sf_fr_tr Fhp52 (sf_fr_wider (W := [(999, 0, 0), (11, 4, 4), (11, 11, 14), (11, 17, 17)]) rfl fhp337)
                                          have h338 : sf_rd hp337 69 4 = some y56 := (ehp337 _ _ (Or.inr (by omega))).trans hy56
                                          have h339 : sf_rd hp337 69 13 = some y57 := (ehp337 _ _ (Or.inr (by omega))).trans hy57
                                          have h340 : sf_rd hp337 69 14 = some y58 := (ehp337 _ _ (Or.inr (by omega))).trans hy58
                                          have A1 := psi_ge h338 rhp337
                                          have A2 := psi_ge Q4 Q11
                                          have PS : sf_psi hp337 ≤ sf_psi hp := by omega
                                          exact Ev.ret rfl rfl (by rw [hQ]; exact ⟨t53, Hhp337, (fr_unmark H Fhp337 PS), bs_anU, sf_S_nil⟩)
                                     · skip
                                       refine bs_lit (k := 7) rfl rfl fun z341 hz341 => ?_
                                       exact by
                                        refine Ev.step (j := 317) (s' := ([some (.ref 69), some (.int z32), some (.int k35), some (.int k51)], [.int z341, .int z324, .ref 69], (0, 0), hp52)) rfl rfl ?_
                                        refine bs_le rfl (fun c342 => ?_) (fun c342 => ?_)
                                        · skip
                                          refine Ev.step (j := 325) (s' := ([some (.ref 69), some (.int z32), some (.int k35), some (.int k51)], [.int k35, .ref 69], (0, 0), hp52)) rfl rfl ?_
                                          refine bs_ifeq rfl (fun c343 => ?_) (fun c343 => ?_)
                                          · skip
                                            have c344 : k35.toInt = 0 := by omega
                                            refine bs_lit (k := 2) rfl rfl fun z345 hz345 => ?_
                                            refine bs_putI (W := [(11, 11, 11), (999, 0, 0)]) (g := 11) rfl rfl Hhp52 (bs_R.uq Hhp52 (g := 11) rfl) (by decide) rfl rfl rfl rfl (Or.inl rfl) (by omega) (by omega) fun hp346 Hhp346 fhp346 rhp346 ehp346 qhp346 nhp346 => ?_
                                            have Fhp346 := sf_fr_tr Fhp52 (sf_fr_wider (W := [(999, 0, 0), (11, 4, 4), (11, 11, 14), (11, 17, 17)]) rfl fhp346)
                                            have h347 : sf_rd hp346 69 4 = some y56 := (ehp346 _ _ (Or.inr (by omega))).trans hy56
                                            have h348 : sf_rd hp346 69 13 = some y57 := (ehp346 _ _ (Or.inr (by omega))).trans hy57
                                            have h349 : sf_rd hp346 69 14 = some y58 := (ehp346 _ _ (Or.inr (by omega))).trans hy58
                                            have A1 := psi_ge h347 rhp346
                                            have A2 := psi_ge Q4 Q11
                                            have PS : sf_psi hp346 ≤ sf_psi hp := by omega
                                            exact Ev.ret rfl rfl (by rw [hQ]; exact ⟨t53, Hhp346, (fr_unmark H Fhp346 PS), bs_anU, sf_S_nil⟩)
                                          · skip
                                            refine bs_lit (k := 1) rfl rfl fun z350 hz350 => ?_
                                            exact by
                                             refine Ev.step (j := 333) (s' := ([some (.ref 69), some (.int z32), some (.int k35), some (.int k51)], [.int z350, .ref 69], (0, 0), hp52)) rfl rfl ?_
                                             refine bs_putI (W := [(11, 11, 11), (999, 0, 0)]) (g := 11) rfl rfl Hhp52 (bs_R.uq Hhp52 (g := 11) rfl) (by decide) rfl rfl rfl rfl (Or.inl rfl) (by omega) (by omega) fun hp351 Hhp351 fhp351 rhp351 ehp351 qhp351 nhp351 => ?_
                                             have Fhp351 := sf_fr_tr Fhp52 (sf_fr_wider (W := [(999, 0, 0), (11, 4, 4), (11, 11, 14), (11, 17, 17)]) rfl fhp351)
                                             have h352 : sf_rd hp351 69 4 = some y56 := (ehp351 _ _ (Or.inr (by omega))).trans hy56
                                             have h353 : sf_rd hp351 69 13 = some y57 := (ehp351 _ _ (Or.inr (by omega))).trans hy57
                                             have h354 : sf_rd hp351 69 14 = some y58 := (ehp351 _ _ (Or.inr (by omega))).trans hy58
                                             have A1 := psi_ge h352 rhp351
                                             have A2 := psi_ge Q4 Q11
                                             have PS : sf_psi hp351 ≤ sf_psi hp := by omega
                                             exact Ev.ret rfl rfl (by rw [hQ]; exact ⟨t53, Hhp351, (fr_unmark H Fhp351 PS), bs_anU, sf_S_nil⟩)
                                        · skip
                                          refine bs_lit (k := 4) rfl rfl fun z355 hz355 => ?_
                                          exact by
                                           refine Ev.step (j := 333) (s' := ([some (.ref 69), some (.int z32), some (.int k35), some (.int k51)], [.int z355, .ref 69], (0, 0), hp52)) rfl rfl ?_
                                           refine bs_putI (W := [(11, 11, 11), (999, 0, 0)]) (g := 11) rfl rfl Hhp52 (bs_R.uq Hhp52 (g := 11) rfl) (by decide) rfl rfl rfl rfl (Or.inl rfl) (by omega) (by omega) fun hp356 Hhp356 fhp356 rhp356 ehp356 qhp356 nhp356 => ?_
                                           have Fhp356 := sf_fr_tr Fhp52 (sf_fr_wider (W := [(999, 0, 0), (11, 4, 4), (11, 11, 14), (11, 17, 17)]) rfl fhp356)
                                           have h357 : sf_rd hp356 69 4 = some y56 := (ehp356 _ _ (Or.inr (by omega))).trans hy56
                                           have h358 : sf_rd hp356 69 13 = some y57 := (ehp356 _ _ (Or.inr (by omega))).trans hy57
                                           have h359 : sf_rd hp356 69 14 = some y58 := (ehp356 _ _ (Or.inr (by omega))).trans hy58
                                           have A1 := psi_ge h357 rhp356
                                           have A2 := psi_ge Q4 Q11
                                           have PS : sf_psi hp356 ≤ sf_psi hp := by omega
                                           exact Ev.ret rfl rfl (by rw [hQ]; exact ⟨t53, Hhp356, (fr_unmark H Fhp356 PS), bs_anU, sf_S_nil⟩)
                                · exfalso; omega
                             · skip
                               refine Ev.step (j := 7) (s' := ([some (.int z310)], [.int z310], (0, 0), hp52)) rfl rfl ?_
                               exact by
                                refine bs_lit (k := 57) rfl rfl fun z360 hz360 => ?_
                                refine bs_gt rfl (fun c361 => ?_) (fun c361 => ?_)
                                · skip
                                  refine bs_lit (k := 0) rfl rfl fun z362 hz362 => ?_
                                  refine bs_zret rfl rfl (by omega) (by omega) ?_
                                  rw [← hQ312]
                                  refine (show Ev _ 198 ([some (.ref 69), some (.int z32), some (.int k35), some (.int k51)], [.int z362], (0, 0), hp52) _ from ?_)
                                  refine bs_ifeq rfl (fun c363 => ?_) (fun c363 => ?_)
                                  · skip
                                    have G : P0 + 1 ≤ y56 := by
                                      rcases jy56 with g | g
                                      · exact g
                                      · have e := pz310.same g
                                        omega
                                    refine Ev.step (j := 299) (s' := ([some (.ref 69), some (.int z32), some (.int k35), some (.int k51)], [.ref 69], (0, 0), hp52)) rfl rfl ?_
                                    exact by
                                     refine Ev.step (j := 300) (s' := ([some (.ref 69), some (.int z32), some (.int k35), some (.int k51)], [.int k51, .ref 69], (0, 0), hp52)) rfl rfl ?_
                                     refine bs_ifeq rfl (fun c364 => ?_) (fun c364 => ?_)
                                     · skip
                                       have c365 : k51.toInt = 0 := by omega
                                       refine bs_lit (k := 4) rfl rfl fun z366 hz366 => ?_
                                       refine Ev.step (j := 333) (s' := ([some (.ref 69), some (.int z32), some (.int k35), some (.int k51)], [.int z366, .ref 69], (0, 0), hp52)) rfl rfl ?_
                                       refine bs_putI (W := [(11, 11, 11), (999, 0, 0)]) (g := 11) rfl rfl Hhp52 (bs_R.uq Hhp52 (g := 11) rfl) (by decide) rfl rfl rfl rfl (Or.inl rfl) (by omega) (by omega) fun hp367 Hhp367 fhp367 rhp367 ehp367 qhp367 nhp367 => ?_
                                       have Fhp367 := sf_fr_tr Fhp52 (sf_fr_wider (W := [(999, 0, 0), (11, 4, 4), (11, 11, 14), (11, 17, 17)]) rfl fhp367)
                                       have h368 : sf_rd hp367 69 4 = some y56 := (ehp367 _ _ (Or.inr (by omega))).trans hy56
                                       have h369 : sf_rd hp367 69 13 = some y57 := (ehp367 _ _ (Or.inr (by omega))).trans hy57
                                       have h370 : sf_rd hp367 69 14 = some y58 := (ehp367 _ _ (Or.inr (by omega))).trans hy58
                                       have A1 := psi_ge h368 rhp367
                                       have A2 := psi_ge Q4 Q11
                                       have PS : sf_psi hp367 ≤ sf_psi hp := by omega
                                       exact Ev.ret rfl rfl (by rw [hQ]; exact ⟨t53, Hhp367, (fr_unmark H Fhp367 PS), bs_anU, sf_S_nil⟩)
                                     · skip
                                       refine Ev.step (j := 304) (s' := ([some (.ref 69), some (.int z32), some (.int k35), some (.int k51)], [.ref 69, .ref 69], (0, 0), hp52)) rfl rfl ?_
                                       exact by
                                        refine bs_getI 11 rfl rfl rfl Hhp52 (bs_R.uq Hhp52 (g := 11) rfl) (by decide) rfl fun z371 hz371 lz371 gz371 => ?_
                                        have e372 : z371.toInt = y57 := Option.some.inj (hz371.symm.trans hy57)
                                        refine Ev.step (j := 308) (s' := ([some (.ref 69), some (.int z32), some (.int k35), some (.int k51)], [.int k35, .int z371, .ref 69], (0, 0), hp52)) rfl rfl ?_
                                        refine bs_ifeq rfl (fun c373 => ?_) (fun c373 => ?_)
                                        · skip
                                          have c374 : k35.toInt = 0 := by omega
                                          refine bs_lit (k := 3) rfl rfl fun z375 hz375 => ?_
                                          refine bs_le rfl (fun c376 => ?_) (fun c376 => ?_)
                                          · skip
                                            refine Ev.step (j := 325) (s' := ([some (.ref 69), some (.int z32), some (.int k35), some (.int k51)], [.int k35, .ref 69], (0, 0), hp52)) rfl rfl ?_
                                            exact by
                                             refine bs_ifeq rfl (fun c377 => ?_) (fun c377 => ?_)
                                             · skip
                                               refine bs_lit (k := 2) rfl rfl fun z378 hz378 => ?_
                                               refine bs_putI (W := [(11, 11, 11), (999, 0, 0)]) (g := 11) rfl rfl Hhp52 (bs_R.uq Hhp52 (g := 11) rfl) (by decide) rfl rfl rfl rfl (Or.inl rfl) (by omega) (by omega) fun hp379 Hhp379 fhp379 rhp379 ehp379 qhp379 nhp379 => ?_
                                               have Fhp379 := sf_fr_tr Fhp52 (sf_fr_wider (W := [(999, 0, 0), (11, 4, 4), (11, 11, 14), (11, 17, 17)]) rfl fhp379)
                                               have h380 : sf_rd hp379 69 4 = some y56 := (ehp379 _ _ (Or.inr (by omega))).trans hy56
                                               have h381 : sf_rd hp379 69 13 = some y57 := (ehp379 _ _ (Or.inr (by omega))).trans hy57
                                               have h382 : sf_rd hp379 69 14 = some y58 := (ehp379 _ _ (Or.inr (by omega))).trans hy58
                                               have A1 := psi_ge h380 rhp379
                                               have A2 := psi_ge Q4 Q11
                                               have PS : sf_psi hp379 ≤ sf_psi hp := by omega
                                               exact Ev.ret rfl rfl (by rw [hQ]; exact ⟨t53, Hhp379, (fr_unmark H Fhp379 PS), bs_anU, sf_S_nil⟩)
                                             · exfalso; omega
                                          · skip
                                            refine bs_lit (k := 4) rfl rfl fun z383 hz383 => ?_
                                            exact by
                                             refine Ev.step (j := 333) (s' := ([some (.ref 69), some (.int z32), some (.int k35), some (.int k51)], [.int z383, .ref 69], (0, 0), hp52)) rfl rfl ?_
                                             refine bs_putI (W := [(11, 11, 11), (999, 0, 0)]) (g := 11) rfl rfl Hhp52 (bs_R.uq Hhp52 (g := 11) rfl) (by decide) rfl rfl rfl rfl (Or.inl rfl) (by omega) (by omega) fun hp384 Hhp384 fhp384 rhp384 ehp384 qhp384 nhp384 => ?_
                                             have Fhp384 := sf_fr_tr Fhp52 (sf_fr_wider (W := [(999, 0, 0), (11, 4, 4), (11, 11, 14), (11, 17, 17)]) rfl fhp384)
                                             have h385 : sf_rd hp384 69 4 = some y56 := (ehp384 _ _ (Or.inr (by omega))).trans hy56
                                             have h386 : sf_rd hp384 69 13 = some y57 := (ehp384 _ _ (Or.inr (by omega))).trans hy57
                                             have h387 : sf_rd hp384 69 14 = some y58 := (ehp384 _ _ (Or.inr (by omega))).trans hy58
                                             have A1 := psi_ge h385 rhp384
                                             have A2 := psi_ge Q4 Q11
                                             have PS : sf_psi hp384 ≤ sf_psi hp := by omega
                                             exact Ev.ret rfl rfl (by rw [hQ]; exact ⟨t53, Hhp384, (fr_unmark H Fhp384 PS), bs_anU, sf_S_nil⟩)
                                        · skip
                                          refine bs_lit (k := 7) rfl rfl fun z388 hz388 => ?_
                                          exact by
                                           refine Ev.step (j := 317) (s' := ([some (.ref 69), some (.int z32), some (.int k35), some (.int k51)], [.int z388, .int z371, .ref 69], (0, 0), hp52)) rfl rfl ?_
                                           refine bs_le rfl (fun c389 => ?_) (fun c389 => ?_)
                                           · skip
                                             refine Ev.step (j := 325) (s' := ([some (.ref 69), some (.int z32), some (.int k35), some (.int k51)], [.int k35, .ref 69], (0, 0), hp52)) rfl rfl ?_
                                             refine bs_ifeq rfl (fun c390 => ?_) (fun c390 => ?_)
                                             · skip
                                               have c391 : k35.toInt = 0 := by omega
                                               refine bs_lit (k := 2) rfl rfl fun z392 hz392 => ?_
                                               refine bs_putI (W := [(11, 11, 11), (999, 0, 0)]) (g := 11) rfl rfl Hhp52 (bs_R.uq Hhp52 (g := 11) rfl) (by decide) rfl rfl rfl rfl (Or.inl rfl) (by omega) (by omega) fun hp393 Hhp393 fhp393 rhp393 ehp393 qhp393 nhp393 => ?_
                                               have Fhp393 := sf_fr_tr Fhp52 (sf_fr_wider (W := [(999, 0, 0), (11, 4, 4), (11, 11, 14), (11, 17, 17)]) rfl fhp393)
                                               have h394 : sf_rd hp393 69 4 = some y56 := (ehp393 _ _ (Or.inr (by omega))).trans hy56
                                               have h395 : sf_rd hp393 69 13 = some y57 := (ehp393 _ _ (Or.inr (by omega))).trans hy57
                                               have h396 : sf_rd hp393 69 14 = some y58 := (ehp393 _ _ (Or.inr (by omega))).trans hy58
                                               have A1 := psi_ge h394 rhp393
                                               have A2 := psi_ge Q4 Q11
                                               have PS : sf_psi hp393 ≤ sf_psi hp := by omega
                                               exact Ev.ret rfl rfl (by rw [hQ]; exact ⟨t53, Hhp393, (fr_unmark H Fhp393 PS), bs_anU, sf_S_nil⟩)
                                             · skip
                                               refine bs_lit (k := 1) rfl rfl fun z397 hz397 => ?_
                                               exact by
                                                refine Ev.step (j := 333) (s' := ([some (.ref 69), some (.int z32), some (.int k35), some (.int k51)], [.int z397, .ref 69], (0, 0), hp52)) rfl rfl ?_
                                                refine bs_putI (W := [(11, 11, 11), (999, 0, 0)]) (g := 11) rfl rfl Hhp52 (bs_R.uq Hhp52 (g := 11) rfl) (by decide) rfl rfl rfl rfl (Or.inl rfl) (by omega) (by omega) fun hp398 Hhp398 fhp398 rhp398 ehp398 qhp398 nhp398 => ?_
                                                have Fhp398 := sf_fr_tr Fhp52 (sf_fr_wider (W := [(999, 0, 0), (11, 4, 4), (11, 11, 14), (11, 17, 17)]) rfl fhp398)
                                                have h399 : sf_rd hp398 69 4 = some y56 := (ehp398 _ _ (Or.inr (by omega))).trans hy56
                                                have h400 : sf_rd hp398 69 13 = some y57 := (ehp398 _ _ (Or.inr (by omega))).trans hy57
                                                have h401 : sf_rd hp398 69 14 = some y58 := (ehp398 _ _ (Or.inr (by omega))).trans hy58
                                                have A1 := psi_ge h399 rhp398
                                                have A2 := psi_ge Q4 Q11
                                                have PS : sf_psi hp398 ≤ sf_psi hp := by omega
                                                exact Ev.ret rfl rfl (by rw [hQ]; exact ⟨t53, Hhp398, (fr_unmark H Fhp398 PS), bs_anU, sf_S_nil⟩)
                                           · skip
                                             refine bs_lit (k := 4) rfl rfl fun z402 hz402 => ?_
                                             exact by
                                              refine Ev.step (j := 333) (s' := ([some (.ref 69), some (.int z32), some (.int k35), some (.int k51)], [.int z402, .ref 69], (0, 0), hp52)) rfl rfl ?_
                                              refine bs_putI (W := [(11, 11, 11), (999, 0, 0)]) (g := 11) rfl rfl Hhp52 (bs_R.uq Hhp52 (g := 11) rfl) (by decide) rfl rfl rfl rfl (Or.inl rfl) (by omega) (by omega) fun hp403 Hhp403 fhp403 rhp403 ehp403 qhp403 nhp403 => ?_
                                              have Fhp403 := sf_fr_tr Fhp52 (sf_fr_wider (W := [(999, 0, 0), (11, 4, 4), (11, 11, 14), (11, 17, 17)]) rfl fhp403)
                                              have h404 : sf_rd hp403 69 4 = some y56 := (ehp403 _ _ (Or.inr (by omega))).trans hy56
                                              have h405 : sf_rd hp403 69 13 = some y57 := (ehp403 _ _ (Or.inr (by omega))).trans hy57
                                              have h406 : sf_rd hp403 69 14 = some y58 := (ehp403 _ _ (Or.inr (by omega))).trans hy58
                                              have A1 := psi_ge h404 rhp403
                                              have A2 := psi_ge Q4 Q11
                                              have PS : sf_psi hp403 ≤ sf_psi hp := by omega
                                              exact Ev.ret rfl rfl (by rw [hQ]; exact ⟨t53, Hhp403, (fr_unmark H Fhp403 PS), bs_anU, sf_S_nil⟩)
                                  · exfalso; omega
                                · skip
                                  refine bs_lit (k := 1) rfl rfl fun z407 hz407 => ?_
                                  exact by
                                   refine Ev.step (j := 17) (s' := ([some (.int z310)], [.int z407], (0, 0), hp52)) rfl rfl ?_
                                   refine bs_zret rfl rfl (by omega) (by omega) ?_
                                   rw [← hQ312]
                                   refine (show Ev _ 198 ([some (.ref 69), some (.int z32), some (.int k35), some (.int k51)], [.int z407], (0, 0), hp52) _ from ?_)
                                   refine bs_ifeq rfl (fun c408 => ?_) (fun c408 => ?_)
                                   · exfalso; omega
                                   · skip
                                     exact cut60 hp52 t53 Hhp52 Fhp52 hy56 hy57 hy58 (by first | omega | assumption) (by first | omega | assumption)
                        · skip
                          refine bs_lit (k := 1) rfl rfl fun z409 hz409 => ?_
                          exact by
                           refine Ev.step (j := 17) (s' := ([some (.int z59)], [.int z409], (0, 0), hp52)) rfl rfl ?_
                           refine bs_zret rfl rfl (by omega) (by omega) ?_
                           rw [← hQ202]
                           refine (show Ev _ 188 ([some (.ref 69), some (.int z32), some (.int k35), some (.int k51)], [.int z409], (0, 0), hp52) _ from ?_)
                           refine bs_ifne rfl (fun c410 => ?_) (fun c410 => ?_)
                           · skip
                             exact cut60 hp52 t53 Hhp52 Fhp52 hy56 hy57 hy58 (by first | omega | assumption) (by first | omega | assumption)
                           · exfalso; omega
                refine Ev.step (j := 96) (s' := ([some (.ref 69), some (.int z32), none, none], [.int z32], (0, 0), hp28)) rfl rfl ?_
                exact by
                 refine Ev.inlS (L := L_X11_isSmall) (nL := 1) rfl rfl (Nat.le_of_ble_eq_true rfl) ?_
                 generalize hQ411 : (fun (o : ab_O) => Ev _ _ _ _) = Q411
                 refine (show Ev (ab_T L_X11_isSmall) 0 ([some (.int z32)], [], (0, 0), hp28) Q411 from ?_)
                 refine Ev.step (j := 1) (s' := ([some (.int z32)], [.int z32], (0, 0), hp28)) rfl rfl ?_
                 refine bs_lit (k := 97) rfl rfl fun z412 hz412 => ?_
                 refine bs_lt rfl (fun c413 => ?_) (fun c413 => ?_)
                 · skip
                   refine bs_lit (k := 0) rfl rfl fun z414 hz414 => ?_
                   refine bs_zret rfl rfl (by omega) (by omega) ?_
                   rw [← hQ411]
                   refine (show Ev _ 99 ([some (.ref 69), some (.int z32), none, none], [.int z414], (0, 0), hp28) _ from ?_)
                   exact by
                    refine bs_ifne rfl (fun c415 => ?_) (fun c415 => ?_)
                    · exfalso; omega
                    · skip
                      refine Ev.step (j := 103) (s' := ([some (.ref 69), some (.int z32), none, none], [.int z32], (0, 0), hp28)) rfl rfl ?_
                      refine Ev.inlS (L := L_X11_isDigit) (nL := 1) rfl rfl (Nat.le_of_ble_eq_true rfl) ?_
                      generalize hQ416 : (fun (o : ab_O) => Ev _ _ _ _) = Q416
                      refine (show Ev (ab_T L_X11_isDigit) 0 ([some (.int z32)], [], (0, 0), hp28) Q416 from ?_)
                      refine Ev.step (j := 1) (s' := ([some (.int z32)], [.int z32], (0, 0), hp28)) rfl rfl ?_
                      refine bs_lit (k := 48) rfl rfl fun z417 hz417 => ?_
                      refine bs_lt rfl (fun c418 => ?_) (fun c418 => ?_)
                      · skip
                        refine bs_lit (k := 0) rfl rfl fun z419 hz419 => ?_
                        exact by
                         refine bs_zret rfl rfl (by omega) (by omega) ?_
                         rw [← hQ416]
                         refine (show Ev _ 106 ([some (.ref 69), some (.int z32), none, none], [.int z419], (0, 0), hp28) _ from ?_)
                         refine bs_ifne rfl (fun c420 => ?_) (fun c420 => ?_)
                         · exfalso; omega
                         · skip
                           refine Ev.step (j := 110) (s' := ([some (.ref 69), some (.int z32), none, none], [.ref 69], (0, 0), hp28)) rfl rfl ?_
                           refine Ev.step (j := 111) (s' := ([some (.ref 69), some (.int z32), none, none], [.int z32, .ref 69], (0, 0), hp28)) rfl rfl ?_
                           refine bs_lit (k := 59) rfl rfl fun z421 hz421 => ?_
                           refine bs_eq rfl (fun c422 => ?_) (fun c422 => ?_)
                           · skip
                             have c423 : z32.toInt = 59 := by omega
                             refine bs_lit (k := 3) rfl rfl fun z424 hz424 => ?_
                             exact by
                              refine Ev.step (j := 145) (s' := ([some (.ref 69), some (.int z32), none, none], [.int z424, .ref 69], (0, 0), hp28)) rfl rfl ?_
                              refine bs_putI (W := [(11, 11, 11), (999, 0, 0)]) (g := 11) rfl rfl Hhp28 (bs_R.uq Hhp28 (g := 11) rfl) (by decide) rfl rfl rfl rfl (Or.inl rfl) (by omega) (by omega) fun hp425 Hhp425 fhp425 rhp425 ehp425 qhp425 nhp425 => ?_
                              have Fhp425 := sf_fr_tr Fhp28 (sf_fr_wider (W := [(999, 0, 0), (11, 4, 4), (11, 11, 14), (11, 17, 17)]) rfl fhp425)
                              have h426 : sf_rd hp425 69 4 = some y31 := (ehp425 _ _ (Or.inr (by omega))).trans hy31
                              have h427 : sf_rd hp425 69 13 = some (0 : Int) := (ehp425 _ _ (Or.inr (by omega))).trans cy31
                              refine Ev.step (j := 149) (s' := ([some (.ref 69), some (.int z32), none, none], [.ref 69], (0, 0), hp425)) rfl rfl ?_
                              refine Ev.step (j := 150) (s' := ([some (.ref 69), some (.int z32), none, none], [.int z32, .ref 69], (0, 0), hp425)) rfl rfl ?_
                              refine bs_putI (W := [(11, 14, 14)]) (g := 11) rfl rfl Hhp425 (bs_R.uq Hhp425 (g := 11) rfl) (by decide) rfl rfl rfl rfl (Or.inl rfl) (by omega) (by omega) fun hp428 Hhp428 fhp428 rhp428 ehp428 qhp428 nhp428 => ?_
                              have Fhp428 := sf_fr_tr Fhp425 (sf_fr_wider (W := [(999, 0, 0), (11, 4, 4), (11, 11, 14), (11, 17, 17)]) rfl fhp428)
                              have h429 : sf_rd hp428 69 4 = some y31 := (ehp428 _ _ (Or.inr (by omega))).trans h426
                              have h430 : sf_rd hp428 69 13 = some (0 : Int) := (ehp428 _ _ (Or.inr (by omega))).trans h427
                              have h431 : sf_rd hp428 69 11 = some z424.toInt := (ehp428 _ _ (Or.inr (by omega))).trans rhp425
                              refine Ev.step (j := 154) (s' := ([some (.ref 69), some (.int z32), none, none], [.ref 69], (0, 0), hp428)) rfl rfl ?_
                              exact by
                               refine Ev.step (j := 155) (s' := ([some (.ref 69), some (.int z32), none, none], [.ref 69, .ref 69], (0, 0), hp428)) rfl rfl ?_
                               refine bs_getI 11 rfl rfl rfl Hhp428 (bs_R.uq Hhp428 (g := 11) rfl) (by decide) rfl fun z432 hz432 lz432 gz432 => ?_
                               have e433 : z432.toInt = y31 := Option.some.inj (hz432.symm.trans h429)
                               refine bs_lit (k := 1) rfl rfl fun z434 hz434 => ?_
                               first | (refine bs_add rfl (by omega) (by omega) fun z435 hz435 => ?_) | (refine bs_any rfl fun z435 => ?_)
                               have rz435 := n_range z435
                               refine bs_putI (W := [(11, 4, 4), (999, 0, 0)]) (g := 11) rfl rfl Hhp428 (bs_R.uq Hhp428 (g := 11) rfl) (by decide) rfl rfl rfl rfl (Or.inl rfl) (by omega) (by omega) fun hp436 Hhp436 fhp436 rhp436 ehp436 qhp436 nhp436 => ?_
                               have Fhp436 := sf_fr_tr Fhp428 (sf_fr_wider (W := [(999, 0, 0), (11, 4, 4), (11, 11, 14), (11, 17, 17)]) rfl fhp436)
                               have h437 : sf_rd hp436 69 13 = some (0 : Int) := (ehp436 _ _ (Or.inr (by omega))).trans h430
                               have h438 : sf_rd hp436 69 11 = some z424.toInt := (ehp436 _ _ (Or.inr (by omega))).trans h431
                               have h439 : sf_rd hp436 69 14 = some z32.toInt := (ehp436 _ _ (Or.inr (by omega))).trans rhp428
                               have A1 := psi_ge rhp436 h438
                               have A2 := psi_ge Q4 Q11
                               have PS : sf_psi hp436 ≤ sf_psi hp := by omega
                               exact Ev.ret rfl rfl (by rw [hQ]; exact ⟨t29, Hhp436, (fr_unmark H Fhp436 PS), bs_anU, sf_S_nil⟩)
                           · skip
                             refine Ev.step (j := 117) (s' := ([some (.ref 69), some (.int z32), none, none], [.int z32, .ref 69], (0, 0), hp28)) rfl rfl ?_
                             exact by
                              refine bs_lit (k := 40) rfl rfl fun z440 hz440 => ?_
                              refine bs_eq rfl (fun c441 => ?_) (fun c441 => ?_)
                              · skip
                                have c442 : z32.toInt = 40 := by omega
                                refine bs_lit (k := 3) rfl rfl fun z443 hz443 => ?_
                                refine Ev.step (j := 145) (s' := ([some (.ref 69), some (.int z32), none, none], [.int z443, .ref 69], (0, 0), hp28)) rfl rfl ?_
                                refine bs_putI (W := [(11, 11, 11), (999, 0, 0)]) (g := 11) rfl rfl Hhp28 (bs_R.uq Hhp28 (g := 11) rfl) (by decide) rfl rfl rfl rfl (Or.inl rfl) (by omega) (by omega) fun hp444 Hhp444 fhp444 rhp444 ehp444 qhp444 nhp444 => ?_
                                have Fhp444 := sf_fr_tr Fhp28 (sf_fr_wider (W := [(999, 0, 0), (11, 4, 4), (11, 11, 14), (11, 17, 17)]) rfl fhp444)
                                have h445 : sf_rd hp444 69 4 = some y31 := (ehp444 _ _ (Or.inr (by omega))).trans hy31
                                have h446 : sf_rd hp444 69 13 = some (0 : Int) := (ehp444 _ _ (Or.inr (by omega))).trans cy31
                                refine Ev.step (j := 149) (s' := ([some (.ref 69), some (.int z32), none, none], [.ref 69], (0, 0), hp444)) rfl rfl ?_
                                exact by
                                 refine Ev.step (j := 150) (s' := ([some (.ref 69), some (.int z32), none, none], [.int z32, .ref 69], (0, 0), hp444)) rfl rfl ?_
                                 refine bs_putI (W := [(11, 14, 14)]) (g := 11) rfl rfl Hhp444 (bs_R.uq Hhp444 (g := 11) rfl) (by decide) rfl rfl rfl rfl (Or.inl rfl) (by omega) (by omega) fun hp447 Hhp447 fhp447 rhp447 ehp447 qhp447 nhp447 => ?_
                                 have Fhp447 := sf_fr_tr Fhp444 (sf_fr_wider (W := [(999, 0, 0), (11, 4, 4), (11, 11, 14), (11, 17, 17)]) rfl fhp447)
                                 have h448 : sf_rd hp447 69 4 = some y31 := (ehp447 _ _ (Or.inr (by omega))).trans h445
                                 have h449 : sf_rd hp447 69 13 = some (0 : Int) := (ehp447 _ _ (Or.inr (by omega))).trans h446
                                 have h450 : sf_rd hp447 69 11 = some z443.toInt := (ehp447 _ _ (Or.inr (by omega))).trans rhp444
                                 refine Ev.step (j := 154) (s' := ([some (.ref 69), some (.int z32), none, none], [.ref 69], (0, 0), hp447)) rfl rfl ?_
                                 refine Ev.step (j := 155) (s' := ([some (.ref 69), some (.int z32), none, none], [.ref 69, .ref 69], (0, 0), hp447)) rfl rfl ?_
                                 exact by
                                  refine bs_getI 11 rfl rfl rfl Hhp447 (bs_R.uq Hhp447 (g := 11) rfl) (by decide) rfl fun z451 hz451 lz451 gz451 => ?_
                                  have e452 : z451.toInt = y31 := Option.some.inj (hz451.symm.trans h448)
                                  refine bs_lit (k := 1) rfl rfl fun z453 hz453 => ?_
                                  first | (refine bs_add rfl (by omega) (by omega) fun z454 hz454 => ?_) | (refine bs_any rfl fun z454 => ?_)
                                  have rz454 := n_range z454
                                  refine bs_putI (W := [(11, 4, 4), (999, 0, 0)]) (g := 11) rfl rfl Hhp447 (bs_R.uq Hhp447 (g := 11) rfl) (by decide) rfl rfl rfl rfl (Or.inl rfl) (by omega) (by omega) fun hp455 Hhp455 fhp455 rhp455 ehp455 qhp455 nhp455 => ?_
                                  have Fhp455 := sf_fr_tr Fhp447 (sf_fr_wider (W := [(999, 0, 0), (11, 4, 4), (11, 11, 14), (11, 17, 17)]) rfl fhp455)
                                  have h456 : sf_rd hp455 69 13 = some (0 : Int) := (ehp455 _ _ (Or.inr (by omega))).trans h449
                                  have h457 : sf_rd hp455 69 11 = some z443.toInt := (ehp455 _ _ (Or.inr (by omega))).trans h450
                                  have h458 : sf_rd hp455 69 14 = some z32.toInt := (ehp455 _ _ (Or.inr (by omega))).trans rhp447
                                  have A1 := psi_ge rhp455 h457
                                  have A2 := psi_ge Q4 Q11
                                  have PS : sf_psi hp455 ≤ sf_psi hp := by omega
                                  exact Ev.ret rfl rfl (by rw [hQ]; exact ⟨t29, Hhp455, (fr_unmark H Fhp455 PS), bs_anU, sf_S_nil⟩)
                              · skip
                                refine Ev.step (j := 123) (s' := ([some (.ref 69), some (.int z32), none, none], [.int z32, .ref 69], (0, 0), hp28)) rfl rfl ?_
                                exact by
                                 refine bs_lit (k := 41) rfl rfl fun z459 hz459 => ?_
                                 refine bs_eq rfl (fun c460 => ?_) (fun c460 => ?_)
                                 · skip
                                   have c461 : z32.toInt = 41 := by omega
                                   refine bs_lit (k := 3) rfl rfl fun z462 hz462 => ?_
                                   refine Ev.step (j := 145) (s' := ([some (.ref 69), some (.int z32), none, none], [.int z462, .ref 69], (0, 0), hp28)) rfl rfl ?_
                                   refine bs_putI (W := [(11, 11, 11), (999, 0, 0)]) (g := 11) rfl rfl Hhp28 (bs_R.uq Hhp28 (g := 11) rfl) (by decide) rfl rfl rfl rfl (Or.inl rfl) (by omega) (by omega) fun hp463 Hhp463 fhp463 rhp463 ehp463 qhp463 nhp463 => ?_
                                   have Fhp463 := sf_fr_tr Fhp28 (sf_fr_wider (W := [(999, 0, 0), (11, 4, 4), (11, 11, 14), (11, 17, 17)]) rfl fhp463)
                                   have h464 : sf_rd hp463 69 4 = some y31 := (ehp463 _ _ (Or.inr (by omega))).trans hy31
                                   have h465 : sf_rd hp463 69 13 = some (0 : Int) := (ehp463 _ _ (Or.inr (by omega))).trans cy31
                                   refine Ev.step (j := 149) (s' := ([some (.ref 69), some (.int z32), none, none], [.ref 69], (0, 0), hp463)) rfl rfl ?_
                                   exact by
                                    refine Ev.step (j := 150) (s' := ([some (.ref 69), some (.int z32), none, none], [.int z32, .ref 69], (0, 0), hp463)) rfl rfl ?_
                                    refine bs_putI (W := [(11, 14, 14)]) (g := 11) rfl rfl Hhp463 (bs_R.uq Hhp463 (g := 11) rfl) (by decide) rfl rfl rfl rfl (Or.inl rfl) (by omega) (by omega) fun hp466 Hhp466 fhp466 rhp466 ehp466 qhp466 nhp466 => ?_
                                    have Fhp466 := sf_fr_tr Fhp463 (sf_fr_wider (W := [(999, 0, 0), (11, 4, 4), (11, 11, 14), (11, 17, 17)]) rfl fhp466)
                                    have h467 : sf_rd hp466 69 4 = some y31 := (ehp466 _ _ (Or.inr (by omega))).trans h464
                                    have h468 : sf_rd hp466 69 13 = some (0 : Int) := (ehp466 _ _ (Or.inr (by omega))).trans h465
                                    have h469 : sf_rd hp466 69 11 = some z462.toInt := (ehp466 _ _ (Or.inr (by omega))).trans rhp463
                                    refine Ev.step (j := 154) (s' := ([some (.ref 69), some (.int z32), none, none], [.ref 69], (0, 0), hp466)) rfl rfl ?_
                                    refine Ev.step (j := 155) (s' := ([some (.ref 69), some (.int z32), none, none], [.ref 69, .ref 69], (0, 0), hp466)) rfl rfl ?_
                                    exact by
                                     refine bs_getI 11 rfl rfl rfl Hhp466 (bs_R.uq Hhp466 (g := 11) rfl) (by decide) rfl fun z470 hz470 lz470 gz470 => ?_
                                     have e471 : z470.toInt = y31 := Option.some.inj (hz470.symm.trans h467)
                                     refine bs_lit (k := 1) rfl rfl fun z472 hz472 => ?_
                                     first | (refine bs_add rfl (by omega) (by omega) fun z473 hz473 => ?_) | (refine bs_any rfl fun z473 => ?_)
                                     have rz473 := n_range z473
                                     refine bs_putI (W := [(11, 4, 4), (999, 0, 0)]) (g := 11) rfl rfl Hhp466 (bs_R.uq Hhp466 (g := 11) rfl) (by decide) rfl rfl rfl rfl (Or.inl rfl) (by omega) (by omega) fun hp474 Hhp474 fhp474 rhp474 ehp474 qhp474 nhp474 => ?_
                                     have Fhp474 := sf_fr_tr Fhp466 (sf_fr_wider (W := [(999, 0, 0), (11, 4, 4), (11, 11, 14), (11, 17, 17)]) rfl fhp474)
                                     have h475 : sf_rd hp474 69 13 = some (0 : Int) := (ehp474 _ _ (Or.inr (by omega))).trans h468
                                     have h476 : sf_rd hp474 69 11 = some z462.toInt := (ehp474 _ _ (Or.inr (by omega))).trans h469
                                     have h477 : sf_rd hp474 69 14 = some z32.toInt := (ehp474 _ _ (Or.inr (by omega))).trans rhp466
                                     have A1 := psi_ge rhp474 h476
                                     have A2 := psi_ge Q4 Q11
                                     have PS : sf_psi hp474 ≤ sf_psi hp := by omega
                                     exact Ev.ret rfl rfl (by rw [hQ]; exact ⟨t29, Hhp474, (fr_unmark H Fhp474 PS), bs_anU, sf_S_nil⟩)
                                 · skip
                                   refine Ev.step (j := 129) (s' := ([some (.ref 69), some (.int z32), none, none], [.int z32, .ref 69], (0, 0), hp28)) rfl rfl ?_
                                   exact by
                                    refine bs_lit (k := 60) rfl rfl fun z478 hz478 => ?_
                                    refine bs_lt rfl (fun c479 => ?_) (fun c479 => ?_)
                                    · skip
                                      refine bs_lit (k := 4) rfl rfl fun z480 hz480 => ?_
                                      refine bs_putI (W := [(11, 11, 11), (999, 0, 0)]) (g := 11) rfl rfl Hhp28 (bs_R.uq Hhp28 (g := 11) rfl) (by decide) rfl rfl rfl rfl (Or.inl rfl) (by omega) (by omega) fun hp481 Hhp481 fhp481 rhp481 ehp481 qhp481 nhp481 => ?_
                                      have Fhp481 := sf_fr_tr Fhp28 (sf_fr_wider (W := [(999, 0, 0), (11, 4, 4), (11, 11, 14), (11, 17, 17)]) rfl fhp481)
                                      have h482 : sf_rd hp481 69 4 = some y31 := (ehp481 _ _ (Or.inr (by omega))).trans hy31
                                      have h483 : sf_rd hp481 69 13 = some (0 : Int) := (ehp481 _ _ (Or.inr (by omega))).trans cy31
                                      refine Ev.step (j := 149) (s' := ([some (.ref 69), some (.int z32), none, none], [.ref 69], (0, 0), hp481)) rfl rfl ?_
                                      exact by
                                       refine Ev.step (j := 150) (s' := ([some (.ref 69), some (.int z32), none, none], [.int z32, .ref 69], (0, 0), hp481)) rfl rfl ?_
                                       refine bs_putI (W := [(11, 14, 14)]) (g := 11) rfl rfl Hhp481 (bs_R.uq Hhp481 (g := 11) rfl) (by decide) rfl rfl rfl rfl (Or.inl rfl) (by omega) (by omega) fun hp484 Hhp484 fhp484 rhp484 ehp484 qhp484 nhp484 => ?_
                                       have Fhp484 := sf_fr_tr Fhp481 (sf_fr_wider (W := [(999, 0, 0), (11, 4, 4), (11, 11, 14), (11, 17, 17)]) rfl fhp484)
                                       have h485 : sf_rd hp484 69 4 = some y31 := (ehp484 _ _ (Or.inr (by omega))).trans h482
                                       have h486 : sf_rd hp484 69 13 = some (0 : Int) := (ehp484 _ _ (Or.inr (by omega))).trans h483
                                       have h487 : sf_rd hp484 69 11 = some z480.toInt := (ehp484 _ _ (Or.inr (by omega))).trans rhp481
                                       refine Ev.step (j := 154) (s' := ([some (.ref 69), some (.int z32), none, none], [.ref 69], (0, 0), hp484)) rfl rfl ?_
                                       refine Ev.step (j := 155) (s' := ([some (.ref 69), some (.int z32), none, none], [.ref 69, .ref 69], (0, 0), hp484)) rfl rfl ?_
                                       exact by
                                        refine bs_getI 11 rfl rfl rfl Hhp484 (bs_R.uq Hhp484 (g := 11) rfl) (by decide) rfl fun z488 hz488 lz488 gz488 => ?_
                                        have e489 : z488.toInt = y31 := Option.some.inj (hz488.symm.trans h485)
                                        refine bs_lit (k := 1) rfl rfl fun z490 hz490 => ?_
                                        first | (refine bs_add rfl (by omega) (by omega) fun z491 hz491 => ?_) | (refine bs_any rfl fun z491 => ?_)
                                        have rz491 := n_range z491
                                        refine bs_putI (W := [(11, 4, 4), (999, 0, 0)]) (g := 11) rfl rfl Hhp484 (bs_R.uq Hhp484 (g := 11) rfl) (by decide) rfl rfl rfl rfl (Or.inl rfl) (by omega) (by omega) fun hp492 Hhp492 fhp492 rhp492 ehp492 qhp492 nhp492 => ?_
                                        have Fhp492 := sf_fr_tr Fhp484 (sf_fr_wider (W := [(999, 0, 0), (11, 4, 4), (11, 11, 14), (11, 17, 17)]) rfl fhp492)
                                        have h493 : sf_rd hp492 69 13 = some (0 : Int) := (ehp492 _ _ (Or.inr (by omega))).trans h486
                                        have h494 : sf_rd hp492 69 11 = some z480.toInt := (ehp492 _ _ (Or.inr (by omega))).trans h487
                                        have h495 : sf_rd hp492 69 14 = some z32.toInt := (ehp492 _ _ (Or.inr (by omega))).trans rhp484
                                        have A1 := psi_ge rhp492 h494
                                        have A2 := psi_ge Q4 Q11
                                        have PS : sf_psi hp492 ≤ sf_psi hp := by omega
                                        exact Ev.ret rfl rfl (by rw [hQ]; exact ⟨t29, Hhp492, (fr_unmark H Fhp492 PS), bs_anU, sf_S_nil⟩)
                                    · skip
                                      refine Ev.step (j := 135) (s' := ([some (.ref 69), some (.int z32), none, none], [.int z32, .ref 69], (0, 0), hp28)) rfl rfl ?_
                                      exact by
                                       refine bs_lit (k := 62) rfl rfl fun z496 hz496 => ?_
                                       refine bs_gt rfl (fun c497 => ?_) (fun c497 => ?_)
                                       · skip
                                         refine bs_lit (k := 4) rfl rfl fun z498 hz498 => ?_
                                         refine bs_putI (W := [(11, 11, 11), (999, 0, 0)]) (g := 11) rfl rfl Hhp28 (bs_R.uq Hhp28 (g := 11) rfl) (by decide) rfl rfl rfl rfl (Or.inl rfl) (by omega) (by omega) fun hp499 Hhp499 fhp499 rhp499 ehp499 qhp499 nhp499 => ?_
                                         have Fhp499 := sf_fr_tr Fhp28 (sf_fr_wider (W := [(999, 0, 0), (11, 4, 4), (11, 11, 14), (11, 17, 17)]) rfl fhp499)
                                         have h500 : sf_rd hp499 69 4 = some y31 := (ehp499 _ _ (Or.inr (by omega))).trans hy31
                                         have h501 : sf_rd hp499 69 13 = some (0 : Int) := (ehp499 _ _ (Or.inr (by omega))).trans cy31
                                         refine Ev.step (j := 149) (s' := ([some (.ref 69), some (.int z32), none, none], [.ref 69], (0, 0), hp499)) rfl rfl ?_
                                         exact by
                                          refine Ev.step (j := 150) (s' := ([some (.ref 69), some (.int z32), none, none], [.int z32, .ref 69], (0, 0), hp499)) rfl rfl ?_
                                          refine bs_putI (W := [(11, 14, 14)]) (g := 11) rfl rfl Hhp499 (bs_R.uq Hhp499 (g := 11) rfl) (by decide) rfl rfl rfl rfl (Or.inl rfl) (by omega) (by omega) fun hp502 Hhp502 fhp502 rhp502 ehp502 qhp502 nhp502 => ?_
                                          have Fhp502 := sf_fr_tr Fhp499 (sf_fr_wider (W := [(999, 0, 0), (11, 4, 4), (11, 11, 14), (11, 17, 17)]) rfl fhp502)
                                          have h503 : sf_rd hp502 69 4 = some y31 := (ehp502 _ _ (Or.inr (by omega))).trans h500
                                          have h504 : sf_rd hp502 69 13 = some (0 : Int) := (ehp502 _ _ (Or.inr (by omega))).trans h501
                                          have h505 : sf_rd hp502 69 11 = some z498.toInt := (ehp502 _ _ (Or.inr (by omega))).trans rhp499
                                          refine Ev.step (j := 154) (s' := ([some (.ref 69), some (.int z32), none, none], [.ref 69], (0, 0), hp502)) rfl rfl ?_
                                          refine Ev.step (j := 155) (s' := ([some (.ref 69), some (.int z32), none, none], [.ref 69, .ref 69], (0, 0), hp502)) rfl rfl ?_
                                          exact by
                                           refine bs_getI 11 rfl rfl rfl Hhp502 (bs_R.uq Hhp502 (g := 11) rfl) (by decide) rfl fun z506 hz506 lz506 gz506 => ?_
                                           have e507 : z506.toInt = y31 := Option.some.inj (hz506.symm.trans h503)
                                           refine bs_lit (k := 1) rfl rfl fun z508 hz508 => ?_
                                           first | (refine bs_add rfl (by omega) (by omega) fun z509 hz509 => ?_) | (refine bs_any rfl fun z509 => ?_)
                                           have rz509 := n_range z509
                                           refine bs_putI (W := [(11, 4, 4), (999, 0, 0)]) (g := 11) rfl rfl Hhp502 (bs_R.uq Hhp502 (g := 11) rfl) (by decide) rfl rfl rfl rfl (Or.inl rfl) (by omega) (by omega) fun hp510 Hhp510 fhp510 rhp510 ehp510 qhp510 nhp510 => ?_
                                           have Fhp510 := sf_fr_tr Fhp502 (sf_fr_wider (W := [(999, 0, 0), (11, 4, 4), (11, 11, 14), (11, 17, 17)]) rfl fhp510)
                                           have h511 : sf_rd hp510 69 13 = some (0 : Int) := (ehp510 _ _ (Or.inr (by omega))).trans h504
                                           have h512 : sf_rd hp510 69 11 = some z498.toInt := (ehp510 _ _ (Or.inr (by omega))).trans h505
                                           have h513 : sf_rd hp510 69 14 = some z32.toInt := (ehp510 _ _ (Or.inr (by omega))).trans rhp502
                                           have A1 := psi_ge rhp510 h512
                                           have A2 := psi_ge Q4 Q11
                                           have PS : sf_psi hp510 ≤ sf_psi hp := by omega
                                           exact Ev.ret rfl rfl (by rw [hQ]; exact ⟨t29, Hhp510, (fr_unmark H Fhp510 PS), bs_anU, sf_S_nil⟩)
                                       · skip
                                         refine bs_lit (k := 3) rfl rfl fun z514 hz514 => ?_
                                         exact by
                                          refine Ev.step (j := 145) (s' := ([some (.ref 69), some (.int z32), none, none], [.int z514, .ref 69], (0, 0), hp28)) rfl rfl ?_
                                          refine bs_putI (W := [(11, 11, 11), (999, 0, 0)]) (g := 11) rfl rfl Hhp28 (bs_R.uq Hhp28 (g := 11) rfl) (by decide) rfl rfl rfl rfl (Or.inl rfl) (by omega) (by omega) fun hp515 Hhp515 fhp515 rhp515 ehp515 qhp515 nhp515 => ?_
                                          have Fhp515 := sf_fr_tr Fhp28 (sf_fr_wider (W := [(999, 0, 0), (11, 4, 4), (11, 11, 14), (11, 17, 17)]) rfl fhp515)
                                          have h516 : sf_rd hp515 69 4 = some y31 := (ehp515 _ _ (Or.inr (by omega))).trans hy31
                                          have h517 : sf_rd hp515 69 13 = some (0 : Int) := (ehp515 _ _ (Or.inr (by omega))).trans cy31
                                          refine Ev.step (j := 149) (s' := ([some (.ref 69), some (.int z32), none, none], [.ref 69], (0, 0), hp515)) rfl rfl ?_
                                          refine Ev.step (j := 150) (s' := ([some (.ref 69), some (.int z32), none, none], [.int z32, .ref 69], (0, 0), hp515)) rfl rfl ?_
                                          refine bs_putI (W := [(11, 14, 14)]) (g := 11) rfl rfl Hhp515 (bs_R.uq Hhp515 (g := 11) rfl) (by decide) rfl rfl rfl rfl (Or.inl rfl) (by omega) (by omega) fun hp518 Hhp518 fhp518 rhp518 ehp518 qhp518 nhp518 => ?_
                                          have Fhp518 := sf_fr_tr Fhp515 (sf_fr_wider (W := [(999, 0, 0), (11, 4, 4), (11, 11, 14), (11, 17, 17)]) rfl fhp518)
                                          have h519 : sf_rd hp518 69 4 = some y31 := (ehp518 _ _ (Or.inr (by omega))).trans h516
                                          have h520 : sf_rd hp518 69 13 = some (0 : Int) := (ehp518 _ _ (Or.inr (by omega))).trans h517
                                          have h521 : sf_rd hp518 69 11 = some z514.toInt := (ehp518 _ _ (Or.inr (by omega))).trans rhp515
                                          refine Ev.step (j := 154) (s' := ([some (.ref 69), some (.int z32), none, none], [.ref 69], (0, 0), hp518)) rfl rfl ?_
                                          exact by
                                           refine Ev.step (j := 155) (s' := ([some (.ref 69), some (.int z32), none, none], [.ref 69, .ref 69], (0, 0), hp518)) rfl rfl ?_
                                           refine bs_getI 11 rfl rfl rfl Hhp518 (bs_R.uq Hhp518 (g := 11) rfl) (by decide) rfl fun z522 hz522 lz522 gz522 => ?_
                                           have e523 : z522.toInt = y31 := Option.some.inj (hz522.symm.trans h519)
                                           refine bs_lit (k := 1) rfl rfl fun z524 hz524 => ?_
                                           first | (refine bs_add rfl (by omega) (by omega) fun z525 hz525 => ?_) | (refine bs_any rfl fun z525 => ?_)
                                           have rz525 := n_range z525
                                           refine bs_putI (W := [(11, 4, 4), (999, 0, 0)]) (g := 11) rfl rfl Hhp518 (bs_R.uq Hhp518 (g := 11) rfl) (by decide) rfl rfl rfl rfl (Or.inl rfl) (by omega) (by omega) fun hp526 Hhp526 fhp526 rhp526 ehp526 qhp526 nhp526 => ?_
                                           have Fhp526 := sf_fr_tr Fhp518 (sf_fr_wider (W := [(999, 0, 0), (11, 4, 4), (11, 11, 14), (11, 17, 17)]) rfl fhp526)
                                           have h527 : sf_rd hp526 69 13 = some (0 : Int) := (ehp526 _ _ (Or.inr (by omega))).trans h520
                                           have h528 : sf_rd hp526 69 11 = some z514.toInt := (ehp526 _ _ (Or.inr (by omega))).trans h521
                                           have h529 : sf_rd hp526 69 14 = some z32.toInt := (ehp526 _ _ (Or.inr (by omega))).trans rhp518
                                           have A1 := psi_ge rhp526 h528
                                           have A2 := psi_ge Q4 Q11
                                           have PS : sf_psi hp526 ≤ sf_psi hp := by omega
                                           exact Ev.ret rfl rfl (by rw [hQ]; exact ⟨t29, Hhp526, (fr_unmark H Fhp526 PS), bs_anU, sf_S_nil⟩)
                      · skip
                        refine Ev.step (j := 7) (s' := ([some (.int z32)], [.int z32], (0, 0), hp28)) rfl rfl ?_
                        exact by
                         refine bs_lit (k := 57) rfl rfl fun z530 hz530 => ?_
                         refine bs_gt rfl (fun c531 => ?_) (fun c531 => ?_)
                         · skip
                           refine bs_lit (k := 0) rfl rfl fun z532 hz532 => ?_
                           refine bs_zret rfl rfl (by omega) (by omega) ?_
                           rw [← hQ416]
                           refine (show Ev _ 106 ([some (.ref 69), some (.int z32), none, none], [.int z532], (0, 0), hp28) _ from ?_)
                           refine bs_ifne rfl (fun c533 => ?_) (fun c533 => ?_)
                           · exfalso; omega
                           · skip
                             refine Ev.step (j := 110) (s' := ([some (.ref 69), some (.int z32), none, none], [.ref 69], (0, 0), hp28)) rfl rfl ?_
                             refine Ev.step (j := 111) (s' := ([some (.ref 69), some (.int z32), none, none], [.int z32, .ref 69], (0, 0), hp28)) rfl rfl ?_
                             exact by
                              refine bs_lit (k := 59) rfl rfl fun z534 hz534 => ?_
                              refine bs_eq rfl (fun c535 => ?_) (fun c535 => ?_)
                              · skip
                                have c536 : z32.toInt = 59 := by omega
                                refine bs_lit (k := 3) rfl rfl fun z537 hz537 => ?_
                                refine Ev.step (j := 145) (s' := ([some (.ref 69), some (.int z32), none, none], [.int z537, .ref 69], (0, 0), hp28)) rfl rfl ?_
                                refine bs_putI (W := [(11, 11, 11), (999, 0, 0)]) (g := 11) rfl rfl Hhp28 (bs_R.uq Hhp28 (g := 11) rfl) (by decide) rfl rfl rfl rfl (Or.inl rfl) (by omega) (by omega) fun hp538 Hhp538 fhp538 rhp538 ehp538 qhp538 nhp538 => ?_
                                have Fhp538 := sf_fr_tr Fhp28 (sf_fr_wider (W := [(999, 0, 0), (11, 4, 4), (11, 11, 14), (11, 17, 17)]) rfl fhp538)
                                have h539 : sf_rd hp538 69 4 = some y31 := (ehp538 _ _ (Or.inr (by omega))).trans hy31
                                have h540 : sf_rd hp538 69 13 = some (0 : Int) := (ehp538 _ _ (Or.inr (by omega))).trans cy31
                                refine Ev.step (j := 149) (s' := ([some (.ref 69), some (.int z32), none, none], [.ref 69], (0, 0), hp538)) rfl rfl ?_
                                exact by
                                 refine Ev.step (j := 150) (s' := ([some (.ref 69), some (.int z32), none, none], [.int z32, .ref 69], (0, 0), hp538)) rfl rfl ?_
                                 refine bs_putI (W := [(11, 14, 14)]) (g := 11) rfl rfl Hhp538 (bs_R.uq Hhp538 (g := 11) rfl) (by decide) rfl rfl rfl rfl (Or.inl rfl) (by omega) (by omega) fun hp541 Hhp541 fhp541 rhp541 ehp541 qhp541 nhp541 => ?_
                                 have Fhp541 := sf_fr_tr Fhp538 (sf_fr_wider (W := [(999, 0, 0), (11, 4, 4), (11, 11, 14), (11, 17, 17)]) rfl fhp541)
                                 have h542 : sf_rd hp541 69 4 = some y31 := (ehp541 _ _ (Or.inr (by omega))).trans h539
                                 have h543 : sf_rd hp541 69 13 = some (0 : Int) := (ehp541 _ _ (Or.inr (by omega))).trans h540
                                 have h544 : sf_rd hp541 69 11 = some z537.toInt := (ehp541 _ _ (Or.inr (by omega))).trans rhp538
                                 refine Ev.step (j := 154) (s' := ([some (.ref 69), some (.int z32), none, none], [.ref 69], (0, 0), hp541)) rfl rfl ?_
                                 refine Ev.step (j := 155) (s' := ([some (.ref 69), some (.int z32), none, none], [.ref 69, .ref 69], (0, 0), hp541)) rfl rfl ?_
                                 exact by
                                  refine bs_getI 11 rfl rfl rfl Hhp541 (bs_R.uq Hhp541 (g := 11) rfl) (by decide) rfl fun z545 hz545 lz545 gz545 => ?_
                                  have e546 : z545.toInt = y31 := Option.some.inj (hz545.symm.trans h542)
                                  refine bs_lit (k := 1) rfl rfl fun z547 hz547 => ?_
                                  first | (refine bs_add rfl (by omega) (by omega) fun z548 hz548 => ?_) | (refine bs_any rfl fun z548 => ?_)
                                  have rz548 := n_range z548
                                  refine bs_putI (W := [(11, 4, 4), (999, 0, 0)]) (g := 11) rfl rfl Hhp541 (bs_R.uq Hhp541 (g := 11) rfl) (by decide) rfl rfl rfl rfl (Or.inl rfl) (by omega) (by omega) fun hp549 Hhp549 fhp549 rhp549 ehp549 qhp549 nhp549 => ?_
                                  have Fhp549 := sf_fr_tr Fhp541 (sf_fr_wider (W := [(999, 0, 0), (11, 4, 4), (11, 11, 14), (11, 17, 17)]) rfl fhp549)
                                  have h550 : sf_rd hp549 69 13 = some (0 : Int) := (ehp549 _ _ (Or.inr (by omega))).trans h543
                                  have h551 : sf_rd hp549 69 11 = some z537.toInt := (ehp549 _ _ (Or.inr (by omega))).trans h544
                                  have h552 : sf_rd hp549 69 14 = some z32.toInt := (ehp549 _ _ (Or.inr (by omega))).trans rhp541
                                  have A1 := psi_ge rhp549 h551
                                  have A2 := psi_ge Q4 Q11
                                  have PS : sf_psi hp549 ≤ sf_psi hp := by omega
                                  exact Ev.ret rfl rfl (by rw [hQ]; exact ⟨t29, Hhp549, (fr_unmark H Fhp549 PS), bs_anU, sf_S_nil⟩)
                              · skip
                                refine Ev.step (j := 117) (s' := ([some (.ref 69), some (.int z32), none, none], [.int z32, .ref 69], (0, 0), hp28)) rfl rfl ?_
                                exact by
                                 refine bs_lit (k := 40) rfl rfl fun z553 hz553 => ?_
                                 refine bs_eq rfl (fun c554 => ?_) (fun c554 => ?_)
                                 · skip
                                   have c555 : z32.toInt = 40 := by omega
                                   refine bs_lit (k := 3) rfl rfl fun z556 hz556 => ?_
                                   refine Ev.step (j := 145) (s' := ([some (.ref 69), some (.int z32), none, none], [.int z556, .ref 69], (0, 0), hp28)) rfl rfl ?_
                                   refine bs_putI (W := [(11, 11, 11), (999, 0, 0)]) (g := 11) rfl rfl Hhp28 (bs_R.uq Hhp28 (g := 11) rfl) (by decide) rfl rfl rfl rfl (Or.inl rfl) (by omega) (by omega) fun hp557 Hhp557 fhp557 rhp557 ehp557 qhp557 nhp557 => ?_
                                   have Fhp557 := sf_fr_tr Fhp28 (sf_fr_wider (W := [(999, 0, 0), (11, 4, 4), (11, 11, 14), (11, 17, 17)]) rfl fhp557)
                                   have h558 : sf_rd hp557 69 4 = some y31 := (ehp557 _ _ (Or.inr (by omega))).trans hy31
                                   have h559 : sf_rd hp557 69 13 = some (0 : Int) := (ehp557 _ _ (Or.inr (by omega))).trans cy31
                                   refine Ev.step (j := 149) (s' := ([some (.ref 69), some (.int z32), none, none], [.ref 69], (0, 0), hp557)) rfl rfl ?_
                                   exact by
                                    refine Ev.step (j := 150) (s' := ([some (.ref 69), some (.int z32), none, none], [.int z32, .ref 69], (0, 0), hp557)) rfl rfl ?_
                                    refine bs_putI (W := [(11, 14, 14)]) (g := 11) rfl rfl Hhp557 (bs_R.uq Hhp557 (g := 11) rfl) (by decide) rfl rfl rfl rfl (Or.inl rfl) (by omega) (by omega) fun hp560 Hhp560 fhp560 rhp560 ehp560 qhp560 nhp560 => ?_
                                    have Fhp560 := sf_fr_tr Fhp557 (sf_fr_wider (W := [(999, 0, 0), (11, 4, 4), (11, 11, 14), (11, 17, 17)]) rfl fhp560)
                                    have h561 : sf_rd hp560 69 4 = some y31 := (ehp560 _ _ (Or.inr (by omega))).trans h558
                                    have h562 : sf_rd hp560 69 13 = some (0 : Int) := (ehp560 _ _ (Or.inr (by omega))).trans h559
                                    have h563 : sf_rd hp560 69 11 = some z556.toInt := (ehp560 _ _ (Or.inr (by omega))).trans rhp557
                                    refine Ev.step (j := 154) (s' := ([some (.ref 69), some (.int z32), none, none], [.ref 69], (0, 0), hp560)) rfl rfl ?_
                                    refine Ev.step (j := 155) (s' := ([some (.ref 69), some (.int z32), none, none], [.ref 69, .ref 69], (0, 0), hp560)) rfl rfl ?_
                                    exact by
                                     refine bs_getI 11 rfl rfl rfl Hhp560 (bs_R.uq Hhp560 (g := 11) rfl) (by decide) rfl fun z564 hz564 lz564 gz564 => ?_
                                     have e565 : z564.toInt = y31 := Option.some.inj (hz564.symm.trans h561)
                                     refine bs_lit (k := 1) rfl rfl fun z566 hz566 => ?_
                                     first | (refine bs_add rfl (by omega) (by omega) fun z567 hz567 => ?_) | (refine bs_any rfl fun z567 => ?_)
                                     have rz567 := n_range z567
                                     refine bs_putI (W := [(11, 4, 4), (999, 0, 0)]) (g := 11) rfl rfl Hhp560 (bs_R.uq Hhp560 (g := 11) rfl) (by decide) rfl rfl rfl rfl (Or.inl rfl) (by omega) (by omega) fun hp568 Hhp568 fhp568 rhp568 ehp568 qhp568 nhp568 => ?_
                                     have Fhp568 := sf_fr_tr Fhp560 (sf_fr_wider (W := [(999, 0, 0), (11, 4, 4), (11, 11, 14), (11, 17, 17)]) rfl fhp568)
                                     have h569 : sf_rd hp568 69 13 = some (0 : Int) := (ehp568 _ _ (Or.inr (by omega))).trans h562
                                     have h570 : sf_rd hp568 69 11 = some z556.toInt := (ehp568 _ _ (Or.inr (by omega))).trans h563
                                     have h571 : sf_rd hp568 69 14 = some z32.toInt := (ehp568 _ _ (Or.inr (by omega))).trans rhp560
                                     have A1 := psi_ge rhp568 h570
                                     have A2 := psi_ge Q4 Q11
                                     have PS : sf_psi hp568 ≤ sf_psi hp := by omega
                                     exact Ev.ret rfl rfl (by rw [hQ]; exact ⟨t29, Hhp568, (fr_unmark H Fhp568 PS), bs_anU, sf_S_nil⟩)
                                 · skip
                                   refine Ev.step (j := 123) (s' := ([some (.ref 69), some (.int z32), none, none], [.int z32, .ref 69], (0, 0), hp28)) rfl rfl ?_
                                   exact by
                                    refine bs_lit (k := 41) rfl rfl fun z572 hz572 => ?_
                                    refine bs_eq rfl (fun c573 => ?_) (fun c573 => ?_)
                                    · skip
                                      have c574 : z32.toInt = 41 := by omega
                                      refine bs_lit (k := 3) rfl rfl fun z575 hz575 => ?_
                                      refine Ev.step (j := 145) (s' := ([some (.ref 69), some (.int z32), none, none], [.int z575, .ref 69], (0, 0), hp28)) rfl rfl ?_
                                      refine bs_putI (W := [(11, 11, 11), (999, 0, 0)]) (g := 11) rfl rfl Hhp28 (bs_R.uq Hhp28 (g := 11) rfl) (by decide) rfl rfl rfl rfl (Or.inl rfl) (by omega) (by omega) fun hp576 Hhp576 fhp576 rhp576 ehp576 qhp576 nhp576 => ?_
                                      have Fhp576 := sf_fr_tr Fhp28 (sf_fr_wider (W := [(999, 0, 0), (11, 4, 4), (11, 11, 14), (11, 17, 17)]) rfl fhp576)
                                      have h577 : sf_rd hp576 69 4 = some y31 := (ehp576 _ _ (Or.inr (by omega))).trans hy31
                                      have h578 : sf_rd hp576 69 13 = some (0 : Int) := (ehp576 _ _ (Or.inr (by omega))).trans cy31
                                      refine Ev.step (j := 149) (s' := ([some (.ref 69), some (.int z32), none, none], [.ref 69], (0, 0), hp576)) rfl rfl ?_
                                      exact by
                                       refine Ev.step (j := 150) (s' := ([some (.ref 69), some (.int z32), none, none], [.int z32, .ref 69], (0, 0), hp576)) rfl rfl ?_
                                       refine bs_putI (W := [(11, 14, 14)]) (g := 11) rfl rfl Hhp576 (bs_R.uq Hhp576 (g := 11) rfl) (by decide) rfl rfl rfl rfl (Or.inl rfl) (by omega) (by omega) fun hp579 Hhp579 fhp579 rhp579 ehp579 qhp579 nhp579 => ?_
                                       have Fhp579 := sf_fr_tr Fhp576 (sf_fr_wider (W := [(999, 0, 0), (11, 4, 4), (11, 11, 14), (11, 17, 17)]) rfl fhp579)
                                       have h580 : sf_rd hp579 69 4 = some y31 := (ehp579 _ _ (Or.inr (by omega))).trans h577
                                       have h581 : sf_rd hp579 69 13 = some (0 : Int) := (ehp579 _ _ (Or.inr (by omega))).trans h578
                                       have h582 : sf_rd hp579 69 11 = some z575.toInt := (ehp579 _ _ (Or.inr (by omega))).trans rhp576
                                       refine Ev.step (j := 154) (s' := ([some (.ref 69), some (.int z32), none, none], [.ref 69], (0, 0), hp579)) rfl rfl ?_
                                       refine Ev.step (j := 155) (s' := ([some (.ref 69), some (.int z32), none, none], [.ref 69, .ref 69], (0, 0), hp579)) rfl rfl ?_
                                       exact by
                                        refine bs_getI 11 rfl rfl rfl Hhp579 (bs_R.uq Hhp579 (g := 11) rfl) (by decide) rfl fun z583 hz583 lz583 gz583 => ?_
                                        have e584 : z583.toInt = y31 := Option.some.inj (hz583.symm.trans h580)
                                        refine bs_lit (k := 1) rfl rfl fun z585 hz585 => ?_
                                        first | (refine bs_add rfl (by omega) (by omega) fun z586 hz586 => ?_) | (refine bs_any rfl fun z586 => ?_)
                                        have rz586 := n_range z586
                                        refine bs_putI (W := [(11, 4, 4), (999, 0, 0)]) (g := 11) rfl rfl Hhp579 (bs_R.uq Hhp579 (g := 11) rfl) (by decide) rfl rfl rfl rfl (Or.inl rfl) (by omega) (by omega) fun hp587 Hhp587 fhp587 rhp587 ehp587 qhp587 nhp587 => ?_
                                        have Fhp587 := sf_fr_tr Fhp579 (sf_fr_wider (W := [(999, 0, 0), (11, 4, 4), (11, 11, 14), (11, 17, 17)]) rfl fhp587)
                                        have h588 : sf_rd hp587 69 13 = some (0 : Int) := (ehp587 _ _ (Or.inr (by omega))).trans h581
                                        have h589 : sf_rd hp587 69 11 = some z575.toInt := (ehp587 _ _ (Or.inr (by omega))).trans h582
                                        have h590 : sf_rd hp587 69 14 = some z32.toInt := (ehp587 _ _ (Or.inr (by omega))).trans rhp579
                                        have A1 := psi_ge rhp587 h589
                                        have A2 := psi_ge Q4 Q11
                                        have PS : sf_psi hp587 ≤ sf_psi hp := by omega
                                        exact Ev.ret rfl rfl (by rw [hQ]; exact ⟨t29, Hhp587, (fr_unmark H Fhp587 PS), bs_anU, sf_S_nil⟩)
                                    · skip
                                      refine Ev.step (j := 129) (s' := ([some (.ref 69), some (.int z32), none, none], [.int z32, .ref 69], (0, 0), hp28)) rfl rfl ?_
                                      exact by
                                       refine bs_lit (k := 60) rfl rfl fun z591 hz591 => ?_
                                       refine bs_lt rfl (fun c592 => ?_) (fun c592 => ?_)
                                       · skip
                                         refine bs_lit (k := 4) rfl rfl fun z593 hz593 => ?_
                                         refine bs_putI (W := [(11, 11, 11), (999, 0, 0)]) (g := 11) rfl rfl Hhp28 (bs_R.uq Hhp28 (g := 11) rfl) (by decide) rfl rfl rfl rfl (Or.inl rfl) (by omega) (by omega) fun hp594 Hhp594 fhp594 rhp594 ehp594 qhp594 nhp594 => ?_
                                         have Fhp594 := sf_fr_tr Fhp28 (sf_fr_wider (W := [(999, 0, 0), (11, 4, 4), (11, 11, 14), (11, 17, 17)]) rfl fhp594)
                                         have h595 : sf_rd hp594 69 4 = some y31 := (ehp594 _ _ (Or.inr (by omega))).trans hy31
                                         have h596 : sf_rd hp594 69 13 = some (0 : Int) := (ehp594 _ _ (Or.inr (by omega))).trans cy31
                                         refine Ev.step (j := 149) (s' := ([some (.ref 69), some (.int z32), none, none], [.ref 69], (0, 0), hp594)) rfl rfl ?_
                                         exact by
                                          refine Ev.step (j := 150) (s' := ([some (.ref 69), some (.int z32), none, none], [.int z32, .ref 69], (0, 0), hp594)) rfl rfl ?_
                                          refine bs_putI (W := [(11, 14, 14)]) (g := 11) rfl rfl Hhp594 (bs_R.uq Hhp594 (g := 11) rfl) (by decide) rfl rfl rfl rfl (Or.inl rfl) (by omega) (by omega) fun hp597 Hhp597 fhp597 rhp597 ehp597 qhp597 nhp597 => ?_
                                          have Fhp597 := sf_fr_tr Fhp594 (sf_fr_wider (W := [(999, 0, 0), (11, 4, 4), (11, 11, 14), (11, 17, 17)]) rfl fhp597)
                                          have h598 : sf_rd hp597 69 4 = some y31 := (ehp597 _ _ (Or.inr (by omega))).trans h595
                                          have h599 : sf_rd hp597 69 13 = some (0 : Int) := (ehp597 _ _ (Or.inr (by omega))).trans h596
                                          have h600 : sf_rd hp597 69 11 = some z593.toInt := (ehp597 _ _ (Or.inr (by omega))).trans rhp594
                                          refine Ev.step (j := 154) (s' := ([some (.ref 69), some (.int z32), none, none], [.ref 69], (0, 0), hp597)) rfl rfl ?_
                                          refine Ev.step (j := 155) (s' := ([some (.ref 69), some (.int z32), none, none], [.ref 69, .ref 69], (0, 0), hp597)) rfl rfl ?_
                                          exact by
                                           refine bs_getI 11 rfl rfl rfl Hhp597 (bs_R.uq Hhp597 (g := 11) rfl) (by decide) rfl fun z601 hz601 lz601 gz601 => ?_
                                           have e602 : z601.toInt = y31 := Option.some.inj (hz601.symm.trans h598)
                                           refine bs_lit (k := 1) rfl rfl fun z603 hz603 => ?_
                                           first | (refine bs_add rfl (by omega) (by omega) fun z604 hz604 => ?_) | (refine bs_any rfl fun z604 => ?_)
                                           have rz604 := n_range z604
                                           refine bs_putI (W := [(11, 4, 4), (999, 0, 0)]) (g := 11) rfl rfl Hhp597 (bs_R.uq Hhp597 (g := 11) rfl) (by decide) rfl rfl rfl rfl (Or.inl rfl) (by omega) (by omega) fun hp605 Hhp605 fhp605 rhp605 ehp605 qhp605 nhp605 => ?_
                                           have Fhp605 := sf_fr_tr Fhp597 (sf_fr_wider (W := [(999, 0, 0), (11, 4, 4), (11, 11, 14), (11, 17, 17)]) rfl fhp605)
                                           have h606 : sf_rd hp605 69 13 = some (0 : Int) := (ehp605 _ _ (Or.inr (by omega))).trans h599
                                           have h607 : sf_rd hp605 69 11 = some z593.toInt := (ehp605 _ _ (Or.inr (by omega))).trans h600
                                           have h608 : sf_rd hp605 69 14 = some z32.toInt := (ehp605 _ _ (Or.inr (by omega))).trans rhp597
                                           have A1 := psi_ge rhp605 h607
                                           have A2 := psi_ge Q4 Q11
                                           have PS : sf_psi hp605 ≤ sf_psi hp := by omega
                                           exact Ev.ret rfl rfl (by rw [hQ]; exact ⟨t29, Hhp605, (fr_unmark H Fhp605 PS), bs_anU, sf_S_nil⟩)
                                       · skip
                                         refine Ev.step (j := 135) (s' := ([some (.ref 69), some (.int z32), none, none], [.int z32, .ref 69], (0, 0), hp28)) rfl rfl ?_
                                         exact by
                                          refine bs_lit (k := 62) rfl rfl fun z609 hz609 => ?_
                                          refine bs_gt rfl (fun c610 => ?_) (fun c610 => ?_)
                                          · skip
                                            refine bs_lit (k := 4) rfl rfl fun z611 hz611 => ?_
                                            refine bs_putI (W := [(11, 11, 11), (999, 0, 0)]) (g := 11) rfl rfl Hhp28 (bs_R.uq Hhp28 (g := 11) rfl) (by decide) rfl rfl rfl rfl (Or.inl rfl) (by omega) (by omega) fun hp612 Hhp612 fhp612 rhp612 ehp612 qhp612 nhp612 => ?_
                                            have Fhp612 := sf_fr_tr Fhp28 (sf_fr_wider (W := [(999, 0, 0), (11, 4, 4), (11, 11, 14), (11, 17, 17)]) rfl fhp612)
                                            have h613 : sf_rd hp612 69 4 = some y31 := (ehp612 _ _ (Or.inr (by omega))).trans hy31
                                            have h614 : sf_rd hp612 69 13 = some (0 : Int) := (ehp612 _ _ (Or.inr (by omega))).trans cy31
                                            refine Ev.step (j := 149) (s' := ([some (.ref 69), some (.int z32), none, none], [.ref 69], (0, 0), hp612)) rfl rfl ?_
                                            exact by
                                             refine Ev.step (j := 150) (s' := ([some (.ref 69), some (.int z32), none, none], [.int z32, .ref 69], (0, 0), hp612)) rfl rfl ?_
                                             refine bs_putI (W := [(11, 14, 14)]) (g := 11) rfl rfl Hhp612 (bs_R.uq Hhp612 (g := 11) rfl) (by decide) rfl rfl rfl rfl (Or.inl rfl) (by omega) (by omega) fun hp615 Hhp615 fhp615 rhp615 ehp615 qhp615 nhp615 => ?_
                                             have Fhp615 := sf_fr_tr Fhp612 (sf_fr_wider (W := [(999, 0, 0), (11, 4, 4), (11, 11, 14), (11, 17, 17)]) rfl fhp615)
                                             have h616 : sf_rd hp615 69 4 = some y31 := (ehp615 _ _ (Or.inr (by omega))).trans h613
                                             have h617 : sf_rd hp615 69 13 = some (0 : Int) := (ehp615 _ _ (Or.inr (by omega))).trans h614
                                             have h618 : sf_rd hp615 69 11 = some z611.toInt := (ehp615 _ _ (Or.inr (by omega))).trans rhp612
                                             refine Ev.step (j := 154) (s' := ([some (.ref 69), some (.int z32), none, none], [.ref 69], (0, 0), hp615)) rfl rfl ?_
                                             refine Ev.step (j := 155) (s' := ([some (.ref 69), some (.int z32), none, none], [.ref 69, .ref 69], (0, 0), hp615)) rfl rfl ?_
                                             exact by
                                              refine bs_getI 11 rfl rfl rfl Hhp615 (bs_R.uq Hhp615 (g := 11) rfl) (by decide) rfl fun z619 hz619 lz619 gz619 => ?_
                                              have e620 : z619.toInt = y31 := Option.some.inj (hz619.symm.trans h616)
                                              refine bs_lit (k := 1) rfl rfl fun z621 hz621 => ?_
                                              first | (refine bs_add rfl (by omega) (by omega) fun z622 hz622 => ?_) | (refine bs_any rfl fun z622 => ?_)
                                              have rz622 := n_range z622
                                              refine bs_putI (W := [(11, 4, 4), (999, 0, 0)]) (g := 11) rfl rfl Hhp615 (bs_R.uq Hhp615 (g := 11) rfl) (by decide) rfl rfl rfl rfl (Or.inl rfl) (by omega) (by omega) fun hp623 Hhp623 fhp623 rhp623 ehp623 qhp623 nhp623 => ?_
                                              have Fhp623 := sf_fr_tr Fhp615 (sf_fr_wider (W := [(999, 0, 0), (11, 4, 4), (11, 11, 14), (11, 17, 17)]) rfl fhp623)
                                              have h624 : sf_rd hp623 69 13 = some (0 : Int) := (ehp623 _ _ (Or.inr (by omega))).trans h617
                                              have h625 : sf_rd hp623 69 11 = some z611.toInt := (ehp623 _ _ (Or.inr (by omega))).trans h618
                                              have h626 : sf_rd hp623 69 14 = some z32.toInt := (ehp623 _ _ (Or.inr (by omega))).trans rhp615
                                              have A1 := psi_ge rhp623 h625
                                              have A2 := psi_ge Q4 Q11
                                              have PS : sf_psi hp623 ≤ sf_psi hp := by omega
                                              exact Ev.ret rfl rfl (by rw [hQ]; exact ⟨t29, Hhp623, (fr_unmark H Fhp623 PS), bs_anU, sf_S_nil⟩)
                                          · skip
                                            refine bs_lit (k := 3) rfl rfl fun z627 hz627 => ?_
                                            exact by
                                             refine Ev.step (j := 145) (s' := ([some (.ref 69), some (.int z32), none, none], [.int z627, .ref 69], (0, 0), hp28)) rfl rfl ?_
                                             refine bs_putI (W := [(11, 11, 11), (999, 0, 0)]) (g := 11) rfl rfl Hhp28 (bs_R.uq Hhp28 (g := 11) rfl) (by decide) rfl rfl rfl rfl (Or.inl rfl) (by omega) (by omega) fun hp628 Hhp628 fhp628 rhp628 ehp628 qhp628 nhp628 => ?_
                                             have Fhp628 := sf_fr_tr Fhp28 (sf_fr_wider (W := [(999, 0, 0), (11, 4, 4), (11, 11, 14), (11, 17, 17)]) rfl fhp628)
                                             have h629 : sf_rd hp628 69 4 = some y31 := (ehp628 _ _ (Or.inr (by omega))).trans hy31
                                             have h630 : sf_rd hp628 69 13 = some (0 : Int) := (ehp628 _ _ (Or.inr (by omega))).trans cy31
                                             refine Ev.step (j := 149) (s' := ([some (.ref 69), some (.int z32), none, none], [.ref 69], (0, 0), hp628)) rfl rfl ?_
                                             refine Ev.step (j := 150) (s' := ([some (.ref 69), some (.int z32), none, none], [.int z32, .ref 69], (0, 0), hp628)) rfl rfl ?_
                                             refine bs_putI (W := [(11, 14, 14)]) (g := 11) rfl rfl Hhp628 (bs_R.uq Hhp628 (g := 11) rfl) (by decide) rfl rfl rfl rfl (Or.inl rfl) (by omega) (by omega) fun hp631 Hhp631 fhp631 rhp631 ehp631 qhp631 nhp631 => ?_
                                             have Fhp631 := sf_fr_tr Fhp628 (sf_fr_wider (W := [(999, 0, 0), (11, 4, 4), (11, 11, 14), (11, 17, 17)]) rfl fhp631)
                                             have h632 : sf_rd hp631 69 4 = some y31 := (ehp631 _ _ (Or.inr (by omega))).trans h629
                                             have h633 : sf_rd hp631 69 13 = some (0 : Int) := (ehp631 _ _ (Or.inr (by omega))).trans h630
                                             have h634 : sf_rd hp631 69 11 = some z627.toInt := (ehp631 _ _ (Or.inr (by omega))).trans rhp628
                                             refine Ev.step (j := 154) (s' := ([some (.ref 69), some (.int z32), none, none], [.ref 69], (0, 0), hp631)) rfl rfl ?_
                                             exact by
                                              refine Ev.step (j := 155) (s' := ([some (.ref 69), some (.int z32), none, none], [.ref 69, .ref 69], (0, 0), hp631)) rfl rfl ?_
                                              refine bs_getI 11 rfl rfl rfl Hhp631 (bs_R.uq Hhp631 (g := 11) rfl) (by decide) rfl fun z635 hz635 lz635 gz635 => ?_
                                              have e636 : z635.toInt = y31 := Option.some.inj (hz635.symm.trans h632)
                                              refine bs_lit (k := 1) rfl rfl fun z637 hz637 => ?_
                                              first | (refine bs_add rfl (by omega) (by omega) fun z638 hz638 => ?_) | (refine bs_any rfl fun z638 => ?_)
                                              have rz638 := n_range z638
                                              refine bs_putI (W := [(11, 4, 4), (999, 0, 0)]) (g := 11) rfl rfl Hhp631 (bs_R.uq Hhp631 (g := 11) rfl) (by decide) rfl rfl rfl rfl (Or.inl rfl) (by omega) (by omega) fun hp639 Hhp639 fhp639 rhp639 ehp639 qhp639 nhp639 => ?_
                                              have Fhp639 := sf_fr_tr Fhp631 (sf_fr_wider (W := [(999, 0, 0), (11, 4, 4), (11, 11, 14), (11, 17, 17)]) rfl fhp639)
                                              have h640 : sf_rd hp639 69 13 = some (0 : Int) := (ehp639 _ _ (Or.inr (by omega))).trans h633
                                              have h641 : sf_rd hp639 69 11 = some z627.toInt := (ehp639 _ _ (Or.inr (by omega))).trans h634
                                              have h642 : sf_rd hp639 69 14 = some z32.toInt := (ehp639 _ _ (Or.inr (by omega))).trans rhp631
                                              have A1 := psi_ge rhp639 h641
                                              have A2 := psi_ge Q4 Q11
                                              have PS : sf_psi hp639 ≤ sf_psi hp := by omega
                                              exact Ev.ret rfl rfl (by rw [hQ]; exact ⟨t29, Hhp639, (fr_unmark H Fhp639 PS), bs_anU, sf_S_nil⟩)
                         · skip
                           refine bs_lit (k := 1) rfl rfl fun z643 hz643 => ?_
                           exact by
                            refine Ev.step (j := 17) (s' := ([some (.int z32)], [.int z643], (0, 0), hp28)) rfl rfl ?_
                            refine bs_zret rfl rfl (by omega) (by omega) ?_
                            rw [← hQ416]
                            refine (show Ev _ 106 ([some (.ref 69), some (.int z32), none, none], [.int z643], (0, 0), hp28) _ from ?_)
                            refine bs_ifne rfl (fun c644 => ?_) (fun c644 => ?_)
                            · skip
                              refine Ev.step (j := 165) (s' := ([some (.ref 69), some (.int z32), none, none], [.int z32], (0, 0), hp28)) rfl rfl ?_
                              refine Ev.inlS (L := L_X11_isSmall) (nL := 1) rfl rfl (Nat.le_of_ble_eq_true rfl) ?_
                              generalize hQ645 : (fun (o : ab_O) => Ev _ _ _ _) = Q645
                              refine (show Ev (ab_T L_X11_isSmall) 0 ([some (.int z32)], [], (0, 0), hp28) Q645 from ?_)
                              refine Ev.step (j := 1) (s' := ([some (.int z32)], [.int z32], (0, 0), hp28)) rfl rfl ?_
                              exact by
                               refine bs_lit (k := 97) rfl rfl fun z646 hz646 => ?_
                               refine bs_lt rfl (fun c647 => ?_) (fun c647 => ?_)
                               · skip
                                 refine bs_lit (k := 0) rfl rfl fun z648 hz648 => ?_
                                 refine bs_zret rfl rfl (by omega) (by omega) ?_
                                 rw [← hQ645]
                                 refine (show Ev _ 168 ([some (.ref 69), some (.int z32), none, none], [.int z648], (0, 0), hp28) _ from ?_)
                                 refine Ev.step (j := 169) (s' := ([some (.ref 69), some (.int z32), some (.int z648), none], [], (0, 0), hp28)) rfl rfl ?_
                                 refine bs_lit (k := 1) rfl rfl fun z649 hz649 => ?_
                                 have INV : ∃ v : Int, sf_rd hp28 69 4 = some v ∧ sf_rd hp28 69 13 = some 0 ∧ P0 ≤ v ∧ v ≤ 940 ∧ ((48 ≤ z32.toInt ∧ z32.toInt ≤ 57) ∨ (97 ≤ z32.toInt ∧ z32.toInt ≤ 122)) ∧ pkR hp28 z32 := ⟨_, hy31, cy31, by omega, by omega, by omega, pz32⟩
                                 refine Ev.step (j := 171) (s' := ([some (.ref 69), some (.int z32), some (.int z648), some (.int z649)], [], (0, 0), hp28)) rfl rfl ?_
                                 exact cut34 z648 z649 hp28 t29 Hhp28 Fhp28 (by exact INV) (by first | omega | assumption)
                               · skip
                                 refine Ev.step (j := 7) (s' := ([some (.int z32)], [.int z32], (0, 0), hp28)) rfl rfl ?_
                                 exact by
                                  refine bs_lit (k := 122) rfl rfl fun z650 hz650 => ?_
                                  refine bs_gt rfl (fun c651 => ?_) (fun c651 => ?_)
                                  · skip
                                    refine bs_lit (k := 0) rfl rfl fun z652 hz652 => ?_
                                    refine bs_zret rfl rfl (by omega) (by omega) ?_
                                    rw [← hQ645]
                                    refine (show Ev _ 168 ([some (.ref 69), some (.int z32), none, none], [.int z652], (0, 0), hp28) _ from ?_)
                                    refine Ev.step (j := 169) (s' := ([some (.ref 69), some (.int z32), some (.int z652), none], [], (0, 0), hp28)) rfl rfl ?_
                                    refine bs_lit (k := 1) rfl rfl fun z653 hz653 => ?_
                                    have INV : ∃ v : Int, sf_rd hp28 69 4 = some v ∧ sf_rd hp28 69 13 = some 0 ∧ P0 ≤ v ∧ v ≤ 940 ∧ ((48 ≤ z32.toInt ∧ z32.toInt ≤ 57) ∨ (97 ≤ z32.toInt ∧ z32.toInt ≤ 122)) ∧ pkR hp28 z32 := ⟨_, hy31, cy31, by omega, by omega, by omega, pz32⟩
                                    refine Ev.step (j := 171) (s' := ([some (.ref 69), some (.int z32), some (.int z652), some (.int z653)], [], (0, 0), hp28)) rfl rfl ?_
                                    exact cut34 z652 z653 hp28 t29 Hhp28 Fhp28 (by exact INV) (by first | omega | assumption)
                                  · skip
                                    refine bs_lit (k := 1) rfl rfl fun z654 hz654 => ?_
                                    exact by
                                     refine Ev.step (j := 17) (s' := ([some (.int z32)], [.int z654], (0, 0), hp28)) rfl rfl ?_
                                     refine bs_zret rfl rfl (by omega) (by omega) ?_
                                     rw [← hQ645]
                                     refine (show Ev _ 168 ([some (.ref 69), some (.int z32), none, none], [.int z654], (0, 0), hp28) _ from ?_)
                                     refine Ev.step (j := 169) (s' := ([some (.ref 69), some (.int z32), some (.int z654), none], [], (0, 0), hp28)) rfl rfl ?_
                                     refine bs_lit (k := 1) rfl rfl fun z655 hz655 => ?_
                                     have INV : ∃ v : Int, sf_rd hp28 69 4 = some v ∧ sf_rd hp28 69 13 = some 0 ∧ P0 ≤ v ∧ v ≤ 940 ∧ ((48 ≤ z32.toInt ∧ z32.toInt ≤ 57) ∨ (97 ≤ z32.toInt ∧ z32.toInt ≤ 122)) ∧ pkR hp28 z32 := ⟨_, hy31, cy31, by omega, by omega, by omega, pz32⟩
                                     refine Ev.step (j := 171) (s' := ([some (.ref 69), some (.int z32), some (.int z654), some (.int z655)], [], (0, 0), hp28)) rfl rfl ?_
                                     exact cut34 z654 z655 hp28 t29 Hhp28 Fhp28 (by exact INV) (by first | omega | assumption)
                            · exfalso; omega
                 · skip
                   refine Ev.step (j := 7) (s' := ([some (.int z32)], [.int z32], (0, 0), hp28)) rfl rfl ?_
                   exact by
                    refine bs_lit (k := 122) rfl rfl fun z656 hz656 => ?_
                    refine bs_gt rfl (fun c657 => ?_) (fun c657 => ?_)
                    · skip
                      refine bs_lit (k := 0) rfl rfl fun z658 hz658 => ?_
                      refine bs_zret rfl rfl (by omega) (by omega) ?_
                      rw [← hQ411]
                      refine (show Ev _ 99 ([some (.ref 69), some (.int z32), none, none], [.int z658], (0, 0), hp28) _ from ?_)
                      refine bs_ifne rfl (fun c659 => ?_) (fun c659 => ?_)
                      · exfalso; omega
                      · skip
                        refine Ev.step (j := 103) (s' := ([some (.ref 69), some (.int z32), none, none], [.int z32], (0, 0), hp28)) rfl rfl ?_
                        refine Ev.inlS (L := L_X11_isDigit) (nL := 1) rfl rfl (Nat.le_of_ble_eq_true rfl) ?_
                        generalize hQ660 : (fun (o : ab_O) => Ev _ _ _ _) = Q660
                        refine (show Ev (ab_T L_X11_isDigit) 0 ([some (.int z32)], [], (0, 0), hp28) Q660 from ?_)
                        exact by
                         refine Ev.step (j := 1) (s' := ([some (.int z32)], [.int z32], (0, 0), hp28)) rfl rfl ?_
                         refine bs_lit (k := 48) rfl rfl fun z661 hz661 => ?_
                         refine bs_lt rfl (fun c662 => ?_) (fun c662 => ?_)
                         · skip
                           refine bs_lit (k := 0) rfl rfl fun z663 hz663 => ?_
                           refine bs_zret rfl rfl (by omega) (by omega) ?_
                           rw [← hQ660]
                           refine (show Ev _ 106 ([some (.ref 69), some (.int z32), none, none], [.int z663], (0, 0), hp28) _ from ?_)
                           refine bs_ifne rfl (fun c664 => ?_) (fun c664 => ?_)
                           · exfalso; omega
                           · skip
                             refine Ev.step (j := 110) (s' := ([some (.ref 69), some (.int z32), none, none], [.ref 69], (0, 0), hp28)) rfl rfl ?_
                             exact by
                              refine Ev.step (j := 111) (s' := ([some (.ref 69), some (.int z32), none, none], [.int z32, .ref 69], (0, 0), hp28)) rfl rfl ?_
                              refine bs_lit (k := 59) rfl rfl fun z665 hz665 => ?_
                              refine bs_eq rfl (fun c666 => ?_) (fun c666 => ?_)
                              · skip
                                have c667 : z32.toInt = 59 := by omega
                                refine bs_lit (k := 3) rfl rfl fun z668 hz668 => ?_
                                refine Ev.step (j := 145) (s' := ([some (.ref 69), some (.int z32), none, none], [.int z668, .ref 69], (0, 0), hp28)) rfl rfl ?_
                                refine bs_putI (W := [(11, 11, 11), (999, 0, 0)]) (g := 11) rfl rfl Hhp28 (bs_R.uq Hhp28 (g := 11) rfl) (by decide) rfl rfl rfl rfl (Or.inl rfl) (by omega) (by omega) fun hp669 Hhp669 fhp669 rhp669 ehp669 qhp669 nhp669 => ?_
                                have Fhp669 := sf_fr_tr Fhp28 (sf_fr_wider (W := [(999, 0, 0), (11, 4, 4), (11, 11, 14), (11, 17, 17)]) rfl fhp669)
                                have h670 : sf_rd hp669 69 4 = some y31 := (ehp669 _ _ (Or.inr (by omega))).trans hy31
                                have h671 : sf_rd hp669 69 13 = some (0 : Int) := (ehp669 _ _ (Or.inr (by omega))).trans cy31
                                refine Ev.step (j := 149) (s' := ([some (.ref 69), some (.int z32), none, none], [.ref 69], (0, 0), hp669)) rfl rfl ?_
                                exact by
                                 refine Ev.step (j := 150) (s' := ([some (.ref 69), some (.int z32), none, none], [.int z32, .ref 69], (0, 0), hp669)) rfl rfl ?_
                                 refine bs_putI (W := [(11, 14, 14)]) (g := 11) rfl rfl Hhp669 (bs_R.uq Hhp669 (g := 11) rfl) (by decide) rfl rfl rfl rfl (Or.inl rfl) (by omega) (by omega) fun hp672 Hhp672 fhp672 rhp672 ehp672 qhp672 nhp672 => ?_
                                 have Fhp672 := sf_fr_tr Fhp669 (sf_fr_wider (W := [(999, 0, 0), (11, 4, 4), (11, 11, 14), (11, 17, 17)]) rfl fhp672)
                                 have h673 : sf_rd hp672 69 4 = some y31 := (ehp672 _ _ (Or.inr (by omega))).trans h670
                                 have h674 : sf_rd hp672 69 13 = some (0 : Int) := (ehp672 _ _ (Or.inr (by omega))).trans h671
                                 have h675 : sf_rd hp672 69 11 = some z668.toInt := (ehp672 _ _ (Or.inr (by omega))).trans rhp669
                                 refine Ev.step (j := 154) (s' := ([some (.ref 69), some (.int z32), none, none], [.ref 69], (0, 0), hp672)) rfl rfl ?_
                                 refine Ev.step (j := 155) (s' := ([some (.ref 69), some (.int z32), none, none], [.ref 69, .ref 69], (0, 0), hp672)) rfl rfl ?_
                                 exact by
                                  refine bs_getI 11 rfl rfl rfl Hhp672 (bs_R.uq Hhp672 (g := 11) rfl) (by decide) rfl fun z676 hz676 lz676 gz676 => ?_
                                  have e677 : z676.toInt = y31 := Option.some.inj (hz676.symm.trans h673)
                                  refine bs_lit (k := 1) rfl rfl fun z678 hz678 => ?_
                                  first | (refine bs_add rfl (by omega) (by omega) fun z679 hz679 => ?_) | (refine bs_any rfl fun z679 => ?_)
                                  have rz679 := n_range z679
                                  refine bs_putI (W := [(11, 4, 4), (999, 0, 0)]) (g := 11) rfl rfl Hhp672 (bs_R.uq Hhp672 (g := 11) rfl) (by decide) rfl rfl rfl rfl (Or.inl rfl) (by omega) (by omega) fun hp680 Hhp680 fhp680 rhp680 ehp680 qhp680 nhp680 => ?_
                                  have Fhp680 := sf_fr_tr Fhp672 (sf_fr_wider (W := [(999, 0, 0), (11, 4, 4), (11, 11, 14), (11, 17, 17)]) rfl fhp680)
                                  have h681 : sf_rd hp680 69 13 = some (0 : Int) := (ehp680 _ _ (Or.inr (by omega))).trans h674
                                  have h682 : sf_rd hp680 69 11 = some z668.toInt := (ehp680 _ _ (Or.inr (by omega))).trans h675
                                  have h683 : sf_rd hp680 69 14 = some z32.toInt := (ehp680 _ _ (Or.inr (by omega))).trans rhp672
                                  have A1 := psi_ge rhp680 h682
                                  have A2 := psi_ge Q4 Q11
                                  have PS : sf_psi hp680 ≤ sf_psi hp := by omega
                                  exact Ev.ret rfl rfl (by rw [hQ]; exact ⟨t29, Hhp680, (fr_unmark H Fhp680 PS), bs_anU, sf_S_nil⟩)
                              · skip
                                refine Ev.step (j := 117) (s' := ([some (.ref 69), some (.int z32), none, none], [.int z32, .ref 69], (0, 0), hp28)) rfl rfl ?_
                                exact by
                                 refine bs_lit (k := 40) rfl rfl fun z684 hz684 => ?_
                                 refine bs_eq rfl (fun c685 => ?_) (fun c685 => ?_)
                                 · skip
                                   have c686 : z32.toInt = 40 := by omega
                                   refine bs_lit (k := 3) rfl rfl fun z687 hz687 => ?_
                                   refine Ev.step (j := 145) (s' := ([some (.ref 69), some (.int z32), none, none], [.int z687, .ref 69], (0, 0), hp28)) rfl rfl ?_
                                   refine bs_putI (W := [(11, 11, 11), (999, 0, 0)]) (g := 11) rfl rfl Hhp28 (bs_R.uq Hhp28 (g := 11) rfl) (by decide) rfl rfl rfl rfl (Or.inl rfl) (by omega) (by omega) fun hp688 Hhp688 fhp688 rhp688 ehp688 qhp688 nhp688 => ?_
                                   have Fhp688 := sf_fr_tr Fhp28 (sf_fr_wider (W := [(999, 0, 0), (11, 4, 4), (11, 11, 14), (11, 17, 17)]) rfl fhp688)
                                   have h689 : sf_rd hp688 69 4 = some y31 := (ehp688 _ _ (Or.inr (by omega))).trans hy31
                                   have h690 : sf_rd hp688 69 13 = some (0 : Int) := (ehp688 _ _ (Or.inr (by omega))).trans cy31
                                   refine Ev.step (j := 149) (s' := ([some (.ref 69), some (.int z32), none, none], [.ref 69], (0, 0), hp688)) rfl rfl ?_
                                   exact by
                                    refine Ev.step (j := 150) (s' := ([some (.ref 69), some (.int z32), none, none], [.int z32, .ref 69], (0, 0), hp688)) rfl rfl ?_
                                    refine bs_putI (W := [(11, 14, 14)]) (g := 11) rfl rfl Hhp688 (bs_R.uq Hhp688 (g := 11) rfl) (by decide) rfl rfl rfl rfl (Or.inl rfl) (by omega) (by omega) fun hp691 Hhp691 fhp691 rhp691 ehp691 qhp691 nhp691 => ?_
                                    have Fhp691 := sf_fr_tr Fhp688 (sf_fr_wider (W := [(999, 0, 0), (11, 4, 4), (11, 11, 14), (11, 17, 17)]) rfl fhp691)
                                    have h692 : sf_rd hp691 69 4 = some y31 := (ehp691 _ _ (Or.inr (by omega))).trans h689
                                    have h693 : sf_rd hp691 69 13 = some (0 : Int) := (ehp691 _ _ (Or.inr (by omega))).trans h690
                                    have h694 : sf_rd hp691 69 11 = some z687.toInt := (ehp691 _ _ (Or.inr (by omega))).trans rhp688
                                    refine Ev.step (j := 154) (s' := ([some (.ref 69), some (.int z32), none, none], [.ref 69], (0, 0), hp691)) rfl rfl ?_
                                    refine Ev.step (j := 155) (s' := ([some (.ref 69), some (.int z32), none, none], [.ref 69, .ref 69], (0, 0), hp691)) rfl rfl ?_
                                    exact by
                                     refine bs_getI 11 rfl rfl rfl Hhp691 (bs_R.uq Hhp691 (g := 11) rfl) (by decide) rfl fun z695 hz695 lz695 gz695 => ?_
                                     have e696 : z695.toInt = y31 := Option.some.inj (hz695.symm.trans h692)
                                     refine bs_lit (k := 1) rfl rfl fun z697 hz697 => ?_
                                     first | (refine bs_add rfl (by omega) (by omega) fun z698 hz698 => ?_) | (refine bs_any rfl fun z698 => ?_)
                                     have rz698 := n_range z698
                                     refine bs_putI (W := [(11, 4, 4), (999, 0, 0)]) (g := 11) rfl rfl Hhp691 (bs_R.uq Hhp691 (g := 11) rfl) (by decide) rfl rfl rfl rfl (Or.inl rfl) (by omega) (by omega) fun hp699 Hhp699 fhp699 rhp699 ehp699 qhp699 nhp699 => ?_
                                     have Fhp699 := sf_fr_tr Fhp691 (sf_fr_wider (W := [(999, 0, 0), (11, 4, 4), (11, 11, 14), (11, 17, 17)]) rfl fhp699)
                                     have h700 : sf_rd hp699 69 13 = some (0 : Int) := (ehp699 _ _ (Or.inr (by omega))).trans h693
                                     have h701 : sf_rd hp699 69 11 = some z687.toInt := (ehp699 _ _ (Or.inr (by omega))).trans h694
                                     have h702 : sf_rd hp699 69 14 = some z32.toInt := (ehp699 _ _ (Or.inr (by omega))).trans rhp691
                                     have A1 := psi_ge rhp699 h701
                                     have A2 := psi_ge Q4 Q11
                                     have PS : sf_psi hp699 ≤ sf_psi hp := by omega
                                     exact Ev.ret rfl rfl (by rw [hQ]; exact ⟨t29, Hhp699, (fr_unmark H Fhp699 PS), bs_anU, sf_S_nil⟩)
                                 · skip
                                   refine Ev.step (j := 123) (s' := ([some (.ref 69), some (.int z32), none, none], [.int z32, .ref 69], (0, 0), hp28)) rfl rfl ?_
                                   exact by
                                    refine bs_lit (k := 41) rfl rfl fun z703 hz703 => ?_
                                    refine bs_eq rfl (fun c704 => ?_) (fun c704 => ?_)
                                    · skip
                                      have c705 : z32.toInt = 41 := by omega
                                      refine bs_lit (k := 3) rfl rfl fun z706 hz706 => ?_
                                      refine Ev.step (j := 145) (s' := ([some (.ref 69), some (.int z32), none, none], [.int z706, .ref 69], (0, 0), hp28)) rfl rfl ?_
                                      refine bs_putI (W := [(11, 11, 11), (999, 0, 0)]) (g := 11) rfl rfl Hhp28 (bs_R.uq Hhp28 (g := 11) rfl) (by decide) rfl rfl rfl rfl (Or.inl rfl) (by omega) (by omega) fun hp707 Hhp707 fhp707 rhp707 ehp707 qhp707 nhp707 => ?_
                                      have Fhp707 := sf_fr_tr Fhp28 (sf_fr_wider (W := [(999, 0, 0), (11, 4, 4), (11, 11, 14), (11, 17, 17)]) rfl fhp707)
                                      have h708 : sf_rd hp707 69 4 = some y31 := (ehp707 _ _ (Or.inr (by omega))).trans hy31
                                      have h709 : sf_rd hp707 69 13 = some (0 : Int) := (ehp707 _ _ (Or.inr (by omega))).trans cy31
                                      refine Ev.step (j := 149) (s' := ([some (.ref 69), some (.int z32), none, none], [.ref 69], (0, 0), hp707)) rfl rfl ?_
                                      exact by
                                       refine Ev.step (j := 150) (s' := ([some (.ref 69), some (.int z32), none, none], [.int z32, .ref 69], (0, 0), hp707)) rfl rfl ?_
                                       refine bs_putI (W := [(11, 14, 14)]) (g := 11) rfl rfl Hhp707 (bs_R.uq Hhp707 (g := 11) rfl) (by decide) rfl rfl rfl rfl (Or.inl rfl) (by omega) (by omega) fun hp710 Hhp710 fhp710 rhp710 ehp710 qhp710 nhp710 => ?_
                                       have Fhp710 := sf_fr_tr Fhp707 (sf_fr_wider (W := [(999, 0, 0), (11, 4, 4), (11, 11, 14), (11, 17, 17)]) rfl fhp710)
                                       have h711 : sf_rd hp710 69 4 = some y31 := (ehp710 _ _ (Or.inr (by omega))).trans h708
                                       have h712 : sf_rd hp710 69 13 = some (0 : Int) := (ehp710 _ _ (Or.inr (by omega))).trans h709
                                       have h713 : sf_rd hp710 69 11 = some z706.toInt := (ehp710 _ _ (Or.inr (by omega))).trans rhp707
                                       refine Ev.step (j := 154) (s' := ([some (.ref 69), some (.int z32), none, none], [.ref 69], (0, 0), hp710)) rfl rfl ?_
                                       refine Ev.step (j := 155) (s' := ([some (.ref 69), some (.int z32), none, none], [.ref 69, .ref 69], (0, 0), hp710)) rfl rfl ?_
                                       exact by
                                        refine bs_getI 11 rfl rfl rfl Hhp710 (bs_R.uq Hhp710 (g := 11) rfl) (by decide) rfl fun z714 hz714 lz714 gz714 => ?_
                                        have e715 : z714.toInt = y31 := Option.some.inj (hz714.symm.trans h711)
                                        refine bs_lit (k := 1) rfl rfl fun z716 hz716 => ?_
                                        first | (refine bs_add rfl (by omega) (by omega) fun z717 hz717 => ?_) | (refine bs_any rfl fun z717 => ?_)
                                        have rz717 := n_range z717
                                        refine bs_putI (W := [(11, 4, 4), (999, 0, 0)]) (g := 11) rfl rfl Hhp710 (bs_R.uq Hhp710 (g := 11) rfl) (by decide) rfl rfl rfl rfl (Or.inl rfl) (by omega) (by omega) fun hp718 Hhp718 fhp718 rhp718 ehp718 qhp718 nhp718 => ?_
                                        have Fhp718 := sf_fr_tr Fhp710 (sf_fr_wider (W := [(999, 0, 0), (11, 4, 4), (11, 11, 14), (11, 17, 17)]) rfl fhp718)
                                        have h719 : sf_rd hp718 69 13 = some (0 : Int) := (ehp718 _ _ (Or.inr (by omega))).trans h712
                                        have h720 : sf_rd hp718 69 11 = some z706.toInt := (ehp718 _ _ (Or.inr (by omega))).trans h713
                                        have h721 : sf_rd hp718 69 14 = some z32.toInt := (ehp718 _ _ (Or.inr (by omega))).trans rhp710
                                        have A1 := psi_ge rhp718 h720
                                        have A2 := psi_ge Q4 Q11
                                        have PS : sf_psi hp718 ≤ sf_psi hp := by omega
                                        exact Ev.ret rfl rfl (by rw [hQ]; exact ⟨t29, Hhp718, (fr_unmark H Fhp718 PS), bs_anU, sf_S_nil⟩)
                                    · skip
                                      refine Ev.step (j := 129) (s' := ([some (.ref 69), some (.int z32), none, none], [.int z32, .ref 69], (0, 0), hp28)) rfl rfl ?_
                                      exact by
                                       refine bs_lit (k := 60) rfl rfl fun z722 hz722 => ?_
                                       refine bs_lt rfl (fun c723 => ?_) (fun c723 => ?_)
                                       · skip
                                         refine bs_lit (k := 4) rfl rfl fun z724 hz724 => ?_
                                         refine bs_putI (W := [(11, 11, 11), (999, 0, 0)]) (g := 11) rfl rfl Hhp28 (bs_R.uq Hhp28 (g := 11) rfl) (by decide) rfl rfl rfl rfl (Or.inl rfl) (by omega) (by omega) fun hp725 Hhp725 fhp725 rhp725 ehp725 qhp725 nhp725 => ?_
                                         have Fhp725 := sf_fr_tr Fhp28 (sf_fr_wider (W := [(999, 0, 0), (11, 4, 4), (11, 11, 14), (11, 17, 17)]) rfl fhp725)
                                         have h726 : sf_rd hp725 69 4 = some y31 := (ehp725 _ _ (Or.inr (by omega))).trans hy31
                                         have h727 : sf_rd hp725 69 13 = some (0 : Int) := (ehp725 _ _ (Or.inr (by omega))).trans cy31
                                         refine Ev.step (j := 149) (s' := ([some (.ref 69), some (.int z32), none, none], [.ref 69], (0, 0), hp725)) rfl rfl ?_
                                         exact by
                                          refine Ev.step (j := 150) (s' := ([some (.ref 69), some (.int z32), none, none], [.int z32, .ref 69], (0, 0), hp725)) rfl rfl ?_
                                          refine bs_putI (W := [(11, 14, 14)]) (g := 11) rfl rfl Hhp725 (bs_R.uq Hhp725 (g := 11) rfl) (by decide) rfl rfl rfl rfl (Or.inl rfl) (by omega) (by omega) fun hp728 Hhp728 fhp728 rhp728 ehp728 qhp728 nhp728 => ?_
                                          have Fhp728 := sf_fr_tr Fhp725 (sf_fr_wider (W := [(999, 0, 0), (11, 4, 4), (11, 11, 14), (11, 17, 17)]) rfl fhp728)
                                          have h729 : sf_rd hp728 69 4 = some y31 := (ehp728 _ _ (Or.inr (by omega))).trans h726
                                          have h730 : sf_rd hp728 69 13 = some (0 : Int) := (ehp728 _ _ (Or.inr (by omega))).trans h727
                                          have h731 : sf_rd hp728 69 11 = some z724.toInt := (ehp728 _ _ (Or.inr (by omega))).trans rhp725
                                          refine Ev.step (j := 154) (s' := ([some (.ref 69), some (.int z32), none, none], [.ref 69], (0, 0), hp728)) rfl rfl ?_
                                          refine Ev.step (j := 155) (s' := ([some (.ref 69), some (.int z32), none, none], [.ref 69, .ref 69], (0, 0), hp728)) rfl rfl ?_
                                          exact by
                                           refine bs_getI 11 rfl rfl rfl Hhp728 (bs_R.uq Hhp728 (g := 11) rfl) (by decide) rfl fun z732 hz732 lz732 gz732 => ?_
                                           have e733 : z732.toInt = y31 := Option.some.inj (hz732.symm.trans h729)
                                           refine bs_lit (k := 1) rfl rfl fun z734 hz734 => ?_
                                           first | (refine bs_add rfl (by omega) (by omega) fun z735 hz735 => ?_) | (refine bs_any rfl fun z735 => ?_)
                                           have rz735 := n_range z735
                                           refine bs_putI (W := [(11, 4, 4), (999, 0, 0)]) (g := 11) rfl rfl Hhp728 (bs_R.uq Hhp728 (g := 11) rfl) (by decide) rfl rfl rfl rfl (Or.inl rfl) (by omega) (by omega) fun hp736 Hhp736 fhp736 rhp736 ehp736 qhp736 nhp736 => ?_
                                           have Fhp736 := sf_fr_tr Fhp728 (sf_fr_wider (W := [(999, 0, 0), (11, 4, 4), (11, 11, 14), (11, 17, 17)]) rfl fhp736)
                                           have h737 : sf_rd hp736 69 13 = some (0 : Int) := (ehp736 _ _ (Or.inr (by omega))).trans h730
                                           have h738 : sf_rd hp736 69 11 = some z724.toInt := (ehp736 _ _ (Or.inr (by omega))).trans h731
                                           have h739 : sf_rd hp736 69 14 = some z32.toInt := (ehp736 _ _ (Or.inr (by omega))).trans rhp728
                                           have A1 := psi_ge rhp736 h738
                                           have A2 := psi_ge Q4 Q11
                                           have PS : sf_psi hp736 ≤ sf_psi hp := by omega
                                           exact Ev.ret rfl rfl (by rw [hQ]; exact ⟨t29, Hhp736, (fr_unmark H Fhp736 PS), bs_anU, sf_S_nil⟩)
                                       · skip
                                         refine Ev.step (j := 135) (s' := ([some (.ref 69), some (.int z32), none, none], [.int z32, .ref 69], (0, 0), hp28)) rfl rfl ?_
                                         exact by
                                          refine bs_lit (k := 62) rfl rfl fun z740 hz740 => ?_
                                          refine bs_gt rfl (fun c741 => ?_) (fun c741 => ?_)
                                          · skip
                                            refine bs_lit (k := 4) rfl rfl fun z742 hz742 => ?_
                                            refine bs_putI (W := [(11, 11, 11), (999, 0, 0)]) (g := 11) rfl rfl Hhp28 (bs_R.uq Hhp28 (g := 11) rfl) (by decide) rfl rfl rfl rfl (Or.inl rfl) (by omega) (by omega) fun hp743 Hhp743 fhp743 rhp743 ehp743 qhp743 nhp743 => ?_
                                            have Fhp743 := sf_fr_tr Fhp28 (sf_fr_wider (W := [(999, 0, 0), (11, 4, 4), (11, 11, 14), (11, 17, 17)]) rfl fhp743)
                                            have h744 : sf_rd hp743 69 4 = some y31 := (ehp743 _ _ (Or.inr (by omega))).trans hy31
                                            have h745 : sf_rd hp743 69 13 = some (0 : Int) := (ehp743 _ _ (Or.inr (by omega))).trans cy31
                                            refine Ev.step (j := 149) (s' := ([some (.ref 69), some (.int z32), none, none], [.ref 69], (0, 0), hp743)) rfl rfl ?_
                                            exact by
                                             refine Ev.step (j := 150) (s' := ([some (.ref 69), some (.int z32), none, none], [.int z32, .ref 69], (0, 0), hp743)) rfl rfl ?_
                                             refine bs_putI (W := [(11, 14, 14)]) (g := 11) rfl rfl Hhp743 (bs_R.uq Hhp743 (g := 11) rfl) (by decide) rfl rfl rfl rfl (Or.inl rfl) (by omega) (by omega) fun hp746 Hhp746 fhp746 rhp746 ehp746 qhp746 nhp746 => ?_
                                             have Fhp746 := sf_fr_tr Fhp743 (sf_fr_wider (W := [(999, 0, 0), (11, 4, 4), (11, 11, 14), (11, 17, 17)]) rfl fhp746)
                                             have h747 : sf_rd hp746 69 4 = some y31 := (ehp746 _ _ (Or.inr (by omega))).trans h744
                                             have h748 : sf_rd hp746 69 13 = some (0 : Int) := (ehp746 _ _ (Or.inr (by omega))).trans h745
                                             have h749 : sf_rd hp746 69 11 = some z742.toInt := (ehp746 _ _ (Or.inr (by omega))).trans rhp743
                                             refine Ev.step (j := 154) (s' := ([some (.ref 69), some (.int z32), none, none], [.ref 69], (0, 0), hp746)) rfl rfl ?_
                                             refine Ev.step (j := 155) (s' := ([some (.ref 69), some (.int z32), none, none], [.ref 69, .ref 69], (0, 0), hp746)) rfl rfl ?_
                                             exact by
                                              refine bs_getI 11 rfl rfl rfl Hhp746 (bs_R.uq Hhp746 (g := 11) rfl) (by decide) rfl fun z750 hz750 lz750 gz750 => ?_
                                              have e751 : z750.toInt = y31 := Option.some.inj (hz750.symm.trans h747)
                                              refine bs_lit (k := 1) rfl rfl fun z752 hz752 => ?_
                                              first | (refine bs_add rfl (by omega) (by omega) fun z753 hz753 => ?_) | (refine bs_any rfl fun z753 => ?_)
                                              have rz753 := n_range z753
                                              refine bs_putI (W := [(11, 4, 4), (999, 0, 0)]) (g := 11) rfl rfl Hhp746 (bs_R.uq Hhp746 (g := 11) rfl) (by decide) rfl rfl rfl rfl (Or.inl rfl) (by omega) (by omega) fun hp754 Hhp754 fhp754 rhp754 ehp754 qhp754 nhp754 => ?_
                                              have Fhp754 := sf_fr_tr Fhp746 (sf_fr_wider (W := [(999, 0, 0), (11, 4, 4), (11, 11, 14), (11, 17, 17)]) rfl fhp754)
                                              have h755 : sf_rd hp754 69 13 = some (0 : Int) := (ehp754 _ _ (Or.inr (by omega))).trans h748
                                              have h756 : sf_rd hp754 69 11 = some z742.toInt := (ehp754 _ _ (Or.inr (by omega))).trans h749
                                              have h757 : sf_rd hp754 69 14 = some z32.toInt := (ehp754 _ _ (Or.inr (by omega))).trans rhp746
                                              have A1 := psi_ge rhp754 h756
                                              have A2 := psi_ge Q4 Q11
                                              have PS : sf_psi hp754 ≤ sf_psi hp := by omega
                                              exact Ev.ret rfl rfl (by rw [hQ]; exact ⟨t29, Hhp754, (fr_unmark H Fhp754 PS), bs_anU, sf_S_nil⟩)
                                          · skip
                                            refine bs_lit (k := 3) rfl rfl fun z758 hz758 => ?_
                                            exact by
                                             refine Ev.step (j := 145) (s' := ([some (.ref 69), some (.int z32), none, none], [.int z758, .ref 69], (0, 0), hp28)) rfl rfl ?_
                                             refine bs_putI (W := [(11, 11, 11), (999, 0, 0)]) (g := 11) rfl rfl Hhp28 (bs_R.uq Hhp28 (g := 11) rfl) (by decide) rfl rfl rfl rfl (Or.inl rfl) (by omega) (by omega) fun hp759 Hhp759 fhp759 rhp759 ehp759 qhp759 nhp759 => ?_
                                             have Fhp759 := sf_fr_tr Fhp28 (sf_fr_wider (W := [(999, 0, 0), (11, 4, 4), (11, 11, 14), (11, 17, 17)]) rfl fhp759)
                                             have h760 : sf_rd hp759 69 4 = some y31 := (ehp759 _ _ (Or.inr (by omega))).trans hy31
                                             have h761 : sf_rd hp759 69 13 = some (0 : Int) := (ehp759 _ _ (Or.inr (by omega))).trans cy31
                                             refine Ev.step (j := 149) (s' := ([some (.ref 69), some (.int z32), none, none], [.ref 69], (0, 0), hp759)) rfl rfl ?_
                                             refine Ev.step (j := 150) (s' := ([some (.ref 69), some (.int z32), none, none], [.int z32, .ref 69], (0, 0), hp759)) rfl rfl ?_
                                             refine bs_putI (W := [(11, 14, 14)]) (g := 11) rfl rfl Hhp759 (bs_R.uq Hhp759 (g := 11) rfl) (by decide) rfl rfl rfl rfl (Or.inl rfl) (by omega) (by omega) fun hp762 Hhp762 fhp762 rhp762 ehp762 qhp762 nhp762 => ?_
                                             have Fhp762 := sf_fr_tr Fhp759 (sf_fr_wider (W := [(999, 0, 0), (11, 4, 4), (11, 11, 14), (11, 17, 17)]) rfl fhp762)
                                             have h763 : sf_rd hp762 69 4 = some y31 := (ehp762 _ _ (Or.inr (by omega))).trans h760
                                             have h764 : sf_rd hp762 69 13 = some (0 : Int) := (ehp762 _ _ (Or.inr (by omega))).trans h761
                                             have h765 : sf_rd hp762 69 11 = some z758.toInt := (ehp762 _ _ (Or.inr (by omega))).trans rhp759
                                             refine Ev.step (j := 154) (s' := ([some (.ref 69), some (.int z32), none, none], [.ref 69], (0, 0), hp762)) rfl rfl ?_
                                             exact by
                                              refine Ev.step (j := 155) (s' := ([some (.ref 69), some (.int z32), none, none], [.ref 69, .ref 69], (0, 0), hp762)) rfl rfl ?_
                                              refine bs_getI 11 rfl rfl rfl Hhp762 (bs_R.uq Hhp762 (g := 11) rfl) (by decide) rfl fun z766 hz766 lz766 gz766 => ?_
                                              have e767 : z766.toInt = y31 := Option.some.inj (hz766.symm.trans h763)
                                              refine bs_lit (k := 1) rfl rfl fun z768 hz768 => ?_
                                              first | (refine bs_add rfl (by omega) (by omega) fun z769 hz769 => ?_) | (refine bs_any rfl fun z769 => ?_)
                                              have rz769 := n_range z769
                                              refine bs_putI (W := [(11, 4, 4), (999, 0, 0)]) (g := 11) rfl rfl Hhp762 (bs_R.uq Hhp762 (g := 11) rfl) (by decide) rfl rfl rfl rfl (Or.inl rfl) (by omega) (by omega) fun hp770 Hhp770 fhp770 rhp770 ehp770 qhp770 nhp770 => ?_
                                              have Fhp770 := sf_fr_tr Fhp762 (sf_fr_wider (W := [(999, 0, 0), (11, 4, 4), (11, 11, 14), (11, 17, 17)]) rfl fhp770)
                                              have h771 : sf_rd hp770 69 13 = some (0 : Int) := (ehp770 _ _ (Or.inr (by omega))).trans h764
                                              have h772 : sf_rd hp770 69 11 = some z758.toInt := (ehp770 _ _ (Or.inr (by omega))).trans h765
                                              have h773 : sf_rd hp770 69 14 = some z32.toInt := (ehp770 _ _ (Or.inr (by omega))).trans rhp762
                                              have A1 := psi_ge rhp770 h772
                                              have A2 := psi_ge Q4 Q11
                                              have PS : sf_psi hp770 ≤ sf_psi hp := by omega
                                              exact Ev.ret rfl rfl (by rw [hQ]; exact ⟨t29, Hhp770, (fr_unmark H Fhp770 PS), bs_anU, sf_S_nil⟩)
                         · skip
                           refine Ev.step (j := 7) (s' := ([some (.int z32)], [.int z32], (0, 0), hp28)) rfl rfl ?_
                           exact by
                            refine bs_lit (k := 57) rfl rfl fun z774 hz774 => ?_
                            refine bs_gt rfl (fun c775 => ?_) (fun c775 => ?_)
                            · skip
                              refine bs_lit (k := 0) rfl rfl fun z776 hz776 => ?_
                              refine bs_zret rfl rfl (by omega) (by omega) ?_
                              rw [← hQ660]
                              refine (show Ev _ 106 ([some (.ref 69), some (.int z32), none, none], [.int z776], (0, 0), hp28) _ from ?_)
                              refine bs_ifne rfl (fun c777 => ?_) (fun c777 => ?_)
                              · exfalso; omega
                              · skip
                                refine Ev.step (j := 110) (s' := ([some (.ref 69), some (.int z32), none, none], [.ref 69], (0, 0), hp28)) rfl rfl ?_
                                refine Ev.step (j := 111) (s' := ([some (.ref 69), some (.int z32), none, none], [.int z32, .ref 69], (0, 0), hp28)) rfl rfl ?_
                                exact by
                                 refine bs_lit (k := 59) rfl rfl fun z778 hz778 => ?_
                                 refine bs_eq rfl (fun c779 => ?_) (fun c779 => ?_)
                                 · skip
                                   have c780 : z32.toInt = 59 := by omega
                                   refine bs_lit (k := 3) rfl rfl fun z781 hz781 => ?_
                                   refine Ev.step (j := 145) (s' := ([some (.ref 69), some (.int z32), none, none], [.int z781, .ref 69], (0, 0), hp28)) rfl rfl ?_
                                   refine bs_putI (W := [(11, 11, 11), (999, 0, 0)]) (g := 11) rfl rfl Hhp28 (bs_R.uq Hhp28 (g := 11) rfl) (by decide) rfl rfl rfl rfl (Or.inl rfl) (by omega) (by omega) fun hp782 Hhp782 fhp782 rhp782 ehp782 qhp782 nhp782 => ?_
                                   have Fhp782 := sf_fr_tr Fhp28 (sf_fr_wider (W := [(999, 0, 0), (11, 4, 4), (11, 11, 14), (11, 17, 17)]) rfl fhp782)
                                   have h783 : sf_rd hp782 69 4 = some y31 := (ehp782 _ _ (Or.inr (by omega))).trans hy31
                                   have h784 : sf_rd hp782 69 13 = some (0 : Int) := (ehp782 _ _ (Or.inr (by omega))).trans cy31
                                   refine Ev.step (j := 149) (s' := ([some (.ref 69), some (.int z32), none, none], [.ref 69], (0, 0), hp782)) rfl rfl ?_
                                   exact by
                                    refine Ev.step (j := 150) (s' := ([some (.ref 69), some (.int z32), none, none], [.int z32, .ref 69], (0, 0), hp782)) rfl rfl ?_
                                    refine bs_putI (W := [(11, 14, 14)]) (g := 11) rfl rfl Hhp782 (bs_R.uq Hhp782 (g := 11) rfl) (by decide) rfl rfl rfl rfl (Or.inl rfl) (by omega) (by omega) fun hp785 Hhp785 fhp785 rhp785 ehp785 qhp785 nhp785 => ?_
                                    have Fhp785 := sf_fr_tr Fhp782 (sf_fr_wider (W := [(999, 0, 0), (11, 4, 4), (11, 11, 14), (11, 17, 17)]) rfl fhp785)
                                    have h786 : sf_rd hp785 69 4 = some y31 := (ehp785 _ _ (Or.inr (by omega))).trans h783
                                    have h787 : sf_rd hp785 69 13 = some (0 : Int) := (ehp785 _ _ (Or.inr (by omega))).trans h784
                                    have h788 : sf_rd hp785 69 11 = some z781.toInt := (ehp785 _ _ (Or.inr (by omega))).trans rhp782
                                    refine Ev.step (j := 154) (s' := ([some (.ref 69), some (.int z32), none, none], [.ref 69], (0, 0), hp785)) rfl rfl ?_
                                    refine Ev.step (j := 155) (s' := ([some (.ref 69), some (.int z32), none, none], [.ref 69, .ref 69], (0, 0), hp785)) rfl rfl ?_
                                    exact by
                                     refine bs_getI 11 rfl rfl rfl Hhp785 (bs_R.uq Hhp785 (g := 11) rfl) (by decide) rfl fun z789 hz789 lz789 gz789 => ?_
                                     have e790 : z789.toInt = y31 := Option.some.inj (hz789.symm.trans h786)
                                     refine bs_lit (k := 1) rfl rfl fun z791 hz791 => ?_
                                     first | (refine bs_add rfl (by omega) (by omega) fun z792 hz792 => ?_) | (refine bs_any rfl fun z792 => ?_)
                                     have rz792 := n_range z792
                                     refine bs_putI (W := [(11, 4, 4), (999, 0, 0)]) (g := 11) rfl rfl Hhp785 (bs_R.uq Hhp785 (g := 11) rfl) (by decide) rfl rfl rfl rfl (Or.inl rfl) (by omega) (by omega) fun hp793 Hhp793 fhp793 rhp793 ehp793 qhp793 nhp793 => ?_
                                     have Fhp793 := sf_fr_tr Fhp785 (sf_fr_wider (W := [(999, 0, 0), (11, 4, 4), (11, 11, 14), (11, 17, 17)]) rfl fhp793)
                                     have h794 : sf_rd hp793 69 13 = some (0 : Int) := (ehp793 _ _ (Or.inr (by omega))).trans h787
                                     have h795 : sf_rd hp793 69 11 = some z781.toInt := (ehp793 _ _ (Or.inr (by omega))).trans h788
                                     have h796 : sf_rd hp793 69 14 = some z32.toInt := (ehp793 _ _ (Or.inr (by omega))).trans rhp785
                                     have A1 := psi_ge rhp793 h795
                                     have A2 := psi_ge Q4 Q11
                                     have PS : sf_psi hp793 ≤ sf_psi hp := by omega
                                     exact Ev.ret rfl rfl (by rw [hQ]; exact ⟨t29, Hhp793, (fr_unmark H Fhp793 PS), bs_anU, sf_S_nil⟩)
                                 · skip
                                   refine Ev.step (j := 117) (s' := ([some (.ref 69), some (.int z32), none, none], [.int z32, .ref 69], (0, 0), hp28)) rfl rfl ?_
                                   exact by
                                    refine bs_lit (k := 40) rfl rfl fun z797 hz797 => ?_
                                    refine bs_eq rfl (fun c798 => ?_) (fun c798 => ?_)
                                    · skip
                                      have c799 : z32.toInt = 40 := by omega
                                      refine bs_lit (k := 3) rfl rfl fun z800 hz800 => ?_
                                      refine Ev.step (j := 145) (s' := ([some (.ref 69), some (.int z32), none, none], [.int z800, .ref 69], (0, 0), hp28)) rfl rfl ?_
                                      refine bs_putI (W := [(11, 11, 11), (999, 0, 0)]) (g := 11) rfl rfl Hhp28 (bs_R.uq Hhp28 (g := 11) rfl) (by decide) rfl rfl rfl rfl (Or.inl rfl) (by omega) (by omega) fun hp801 Hhp801 fhp801 rhp801 ehp801 qhp801 nhp801 => ?_
                                      have Fhp801 := sf_fr_tr Fhp28 (sf_fr_wider (W := [(999, 0, 0), (11, 4, 4), (11, 11, 14), (11, 17, 17)]) rfl fhp801)
                                      have h802 : sf_rd hp801 69 4 = some y31 := (ehp801 _ _ (Or.inr (by omega))).trans hy31
                                      have h803 : sf_rd hp801 69 13 = some (0 : Int) := (ehp801 _ _ (Or.inr (by omega))).trans cy31
                                      refine Ev.step (j := 149) (s' := ([some (.ref 69), some (.int z32), none, none], [.ref 69], (0, 0), hp801)) rfl rfl ?_
                                      exact by
                                       refine Ev.step (j := 150) (s' := ([some (.ref 69), some (.int z32), none, none], [.int z32, .ref 69], (0, 0), hp801)) rfl rfl ?_
                                       refine bs_putI (W := [(11, 14, 14)]) (g := 11) rfl rfl Hhp801 (bs_R.uq Hhp801 (g := 11) rfl) (by decide) rfl rfl rfl rfl (Or.inl rfl) (by omega) (by omega) fun hp804 Hhp804 fhp804 rhp804 ehp804 qhp804 nhp804 => ?_
                                       have Fhp804 := sf_fr_tr Fhp801 (sf_fr_wider (W := [(999, 0, 0), (11, 4, 4), (11, 11, 14), (11, 17, 17)]) rfl fhp804)
                                       have h805 : sf_rd hp804 69 4 = some y31 := (ehp804 _ _ (Or.inr (by omega))).trans h802
                                       have h806 : sf_rd hp804 69 13 = some (0 : Int) := (ehp804 _ _ (Or.inr (by omega))).trans h803
                                       have h807 : sf_rd hp804 69 11 = some z800.toInt := (ehp804 _ _ (Or.inr (by omega))).trans rhp801
                                       refine Ev.step (j := 154) (s' := ([some (.ref 69), some (.int z32), none, none], [.ref 69], (0, 0), hp804)) rfl rfl ?_
                                       refine Ev.step (j := 155) (s' := ([some (.ref 69), some (.int z32), none, none], [.ref 69, .ref 69], (0, 0), hp804)) rfl rfl ?_
                                       exact by
                                        refine bs_getI 11 rfl rfl rfl Hhp804 (bs_R.uq Hhp804 (g := 11) rfl) (by decide) rfl fun z808 hz808 lz808 gz808 => ?_
                                        have e809 : z808.toInt = y31 := Option.some.inj (hz808.symm.trans h805)
                                        refine bs_lit (k := 1) rfl rfl fun z810 hz810 => ?_
                                        first | (refine bs_add rfl (by omega) (by omega) fun z811 hz811 => ?_) | (refine bs_any rfl fun z811 => ?_)
                                        have rz811 := n_range z811
                                        refine bs_putI (W := [(11, 4, 4), (999, 0, 0)]) (g := 11) rfl rfl Hhp804 (bs_R.uq Hhp804 (g := 11) rfl) (by decide) rfl rfl rfl rfl (Or.inl rfl) (by omega) (by omega) fun hp812 Hhp812 fhp812 rhp812 ehp812 qhp812 nhp812 => ?_
                                        have Fhp812 := sf_fr_tr Fhp804 (sf_fr_wider (W := [(999, 0, 0), (11, 4, 4), (11, 11, 14), (11, 17, 17)]) rfl fhp812)
                                        have h813 : sf_rd hp812 69 13 = some (0 : Int) := (ehp812 _ _ (Or.inr (by omega))).trans h806
                                        have h814 : sf_rd hp812 69 11 = some z800.toInt := (ehp812 _ _ (Or.inr (by omega))).trans h807
                                        have h815 : sf_rd hp812 69 14 = some z32.toInt := (ehp812 _ _ (Or.inr (by omega))).trans rhp804
                                        have A1 := psi_ge rhp812 h814
                                        have A2 := psi_ge Q4 Q11
                                        have PS : sf_psi hp812 ≤ sf_psi hp := by omega
                                        exact Ev.ret rfl rfl (by rw [hQ]; exact ⟨t29, Hhp812, (fr_unmark H Fhp812 PS), bs_anU, sf_S_nil⟩)
                                    · skip
                                      refine Ev.step (j := 123) (s' := ([some (.ref 69), some (.int z32), none, none], [.int z32, .ref 69], (0, 0), hp28)) rfl rfl ?_
                                      exact by
                                       refine bs_lit (k := 41) rfl rfl fun z816 hz816 => ?_
                                       refine bs_eq rfl (fun c817 => ?_) (fun c817 => ?_)
                                       · skip
                                         have c818 : z32.toInt = 41 := by omega
                                         refine bs_lit (k := 3) rfl rfl fun z819 hz819 => ?_
                                         refine Ev.step (j := 145) (s' := ([some (.ref 69), some (.int z32), none, none], [.int z819, .ref 69], (0, 0), hp28)) rfl rfl ?_
                                         refine bs_putI (W := [(11, 11, 11), (999, 0, 0)]) (g := 11) rfl rfl Hhp28 (bs_R.uq Hhp28 (g := 11) rfl) (by decide) rfl rfl rfl rfl (Or.inl rfl) (by omega) (by omega) fun hp820 Hhp820 fhp820 rhp820 ehp820 qhp820 nhp820 => ?_
                                         have Fhp820 := sf_fr_tr Fhp28 (sf_fr_wider (W := [(999, 0, 0), (11, 4, 4), (11, 11, 14), (11, 17, 17)]) rfl fhp820)
                                         have h821 : sf_rd hp820 69 4 = some y31 := (ehp820 _ _ (Or.inr (by omega))).trans hy31
                                         have h822 : sf_rd hp820 69 13 = some (0 : Int) := (ehp820 _ _ (Or.inr (by omega))).trans cy31
                                         refine Ev.step (j := 149) (s' := ([some (.ref 69), some (.int z32), none, none], [.ref 69], (0, 0), hp820)) rfl rfl ?_
                                         exact by
                                          refine Ev.step (j := 150) (s' := ([some (.ref 69), some (.int z32), none, none], [.int z32, .ref 69], (0, 0), hp820)) rfl rfl ?_
                                          refine bs_putI (W := [(11, 14, 14)]) (g := 11) rfl rfl Hhp820 (bs_R.uq Hhp820 (g := 11) rfl) (by decide) rfl rfl rfl rfl (Or.inl rfl) (by omega) (by omega) fun hp823 Hhp823 fhp823 rhp823 ehp823 qhp823 nhp823 => ?_
                                          have Fhp823 := sf_fr_tr Fhp820 (sf_fr_wider (W := [(999, 0, 0), (11, 4, 4), (11, 11, 14), (11, 17, 17)]) rfl fhp823)
                                          have h824 : sf_rd hp823 69 4 = some y31 := (ehp823 _ _ (Or.inr (by omega))).trans h821
                                          have h825 : sf_rd hp823 69 13 = some (0 : Int) := (ehp823 _ _ (Or.inr (by omega))).trans h822
                                          have h826 : sf_rd hp823 69 11 = some z819.toInt := (ehp823 _ _ (Or.inr (by omega))).trans rhp820
                                          refine Ev.step (j := 154) (s' := ([some (.ref 69), some (.int z32), none, none], [.ref 69], (0, 0), hp823)) rfl rfl ?_
                                          refine Ev.step (j := 155) (s' := ([some (.ref 69), some (.int z32), none, none], [.ref 69, .ref 69], (0, 0), hp823)) rfl rfl ?_
                                          exact by
                                           refine bs_getI 11 rfl rfl rfl Hhp823 (bs_R.uq Hhp823 (g := 11) rfl) (by decide) rfl fun z827 hz827 lz827 gz827 => ?_
                                           have e828 : z827.toInt = y31 := Option.some.inj (hz827.symm.trans h824)
                                           refine bs_lit (k := 1) rfl rfl fun z829 hz829 => ?_
                                           first | (refine bs_add rfl (by omega) (by omega) fun z830 hz830 => ?_) | (refine bs_any rfl fun z830 => ?_)
                                           have rz830 := n_range z830
                                           refine bs_putI (W := [(11, 4, 4), (999, 0, 0)]) (g := 11) rfl rfl Hhp823 (bs_R.uq Hhp823 (g := 11) rfl) (by decide) rfl rfl rfl rfl (Or.inl rfl) (by omega) (by omega) fun hp831 Hhp831 fhp831 rhp831 ehp831 qhp831 nhp831 => ?_
                                           have Fhp831 := sf_fr_tr Fhp823 (sf_fr_wider (W := [(999, 0, 0), (11, 4, 4), (11, 11, 14), (11, 17, 17)]) rfl fhp831)
                                           have h832 : sf_rd hp831 69 13 = some (0 : Int) := (ehp831 _ _ (Or.inr (by omega))).trans h825
                                           have h833 : sf_rd hp831 69 11 = some z819.toInt := (ehp831 _ _ (Or.inr (by omega))).trans h826
                                           have h834 : sf_rd hp831 69 14 = some z32.toInt := (ehp831 _ _ (Or.inr (by omega))).trans rhp823
                                           have A1 := psi_ge rhp831 h833
                                           have A2 := psi_ge Q4 Q11
                                           have PS : sf_psi hp831 ≤ sf_psi hp := by omega
                                           exact Ev.ret rfl rfl (by rw [hQ]; exact ⟨t29, Hhp831, (fr_unmark H Fhp831 PS), bs_anU, sf_S_nil⟩)
                                       · skip
                                         refine Ev.step (j := 129) (s' := ([some (.ref 69), some (.int z32), none, none], [.int z32, .ref 69], (0, 0), hp28)) rfl rfl ?_
                                         exact by
                                          refine bs_lit (k := 60) rfl rfl fun z835 hz835 => ?_
                                          refine bs_lt rfl (fun c836 => ?_) (fun c836 => ?_)
                                          · skip
                                            refine bs_lit (k := 4) rfl rfl fun z837 hz837 => ?_
                                            refine bs_putI (W := [(11, 11, 11), (999, 0, 0)]) (g := 11) rfl rfl Hhp28 (bs_R.uq Hhp28 (g := 11) rfl) (by decide) rfl rfl rfl rfl (Or.inl rfl) (by omega) (by omega) fun hp838 Hhp838 fhp838 rhp838 ehp838 qhp838 nhp838 => ?_
                                            have Fhp838 := sf_fr_tr Fhp28 (sf_fr_wider (W := [(999, 0, 0), (11, 4, 4), (11, 11, 14), (11, 17, 17)]) rfl fhp838)
                                            have h839 : sf_rd hp838 69 4 = some y31 := (ehp838 _ _ (Or.inr (by omega))).trans hy31
                                            have h840 : sf_rd hp838 69 13 = some (0 : Int) := (ehp838 _ _ (Or.inr (by omega))).trans cy31
                                            refine Ev.step (j := 149) (s' := ([some (.ref 69), some (.int z32), none, none], [.ref 69], (0, 0), hp838)) rfl rfl ?_
                                            exact by
                                             refine Ev.step (j := 150) (s' := ([some (.ref 69), some (.int z32), none, none], [.int z32, .ref 69], (0, 0), hp838)) rfl rfl ?_
                                             refine bs_putI (W := [(11, 14, 14)]) (g := 11) rfl rfl Hhp838 (bs_R.uq Hhp838 (g := 11) rfl) (by decide) rfl rfl rfl rfl (Or.inl rfl) (by omega) (by omega) fun hp841 Hhp841 fhp841 rhp841 ehp841 qhp841 nhp841 => ?_
                                             have Fhp841 := sf_fr_tr Fhp838 (sf_fr_wider (W := [(999, 0, 0), (11, 4, 4), (11, 11, 14), (11, 17, 17)]) rfl fhp841)
                                             have h842 : sf_rd hp841 69 4 = some y31 := (ehp841 _ _ (Or.inr (by omega))).trans h839
                                             have h843 : sf_rd hp841 69 13 = some (0 : Int) := (ehp841 _ _ (Or.inr (by omega))).trans h840
                                             have h844 : sf_rd hp841 69 11 = some z837.toInt := (ehp841 _ _ (Or.inr (by omega))).trans rhp838
                                             refine Ev.step (j := 154) (s' := ([some (.ref 69), some (.int z32), none, none], [.ref 69], (0, 0), hp841)) rfl rfl ?_
                                             refine Ev.step (j := 155) (s' := ([some (.ref 69), some (.int z32), none, none], [.ref 69, .ref 69], (0, 0), hp841)) rfl rfl ?_
                                             exact by
                                              refine bs_getI 11 rfl rfl rfl Hhp841 (bs_R.uq Hhp841 (g := 11) rfl) (by decide) rfl fun z845 hz845 lz845 gz845 => ?_
                                              have e846 : z845.toInt = y31 := Option.some.inj (hz845.symm.trans h842)
                                              refine bs_lit (k := 1) rfl rfl fun z847 hz847 => ?_
                                              first | (refine bs_add rfl (by omega) (by omega) fun z848 hz848 => ?_) | (refine bs_any rfl fun z848 => ?_)
                                              have rz848 := n_range z848
                                              refine bs_putI (W := [(11, 4, 4), (999, 0, 0)]) (g := 11) rfl rfl Hhp841 (bs_R.uq Hhp841 (g := 11) rfl) (by decide) rfl rfl rfl rfl (Or.inl rfl) (by omega) (by omega) fun hp849 Hhp849 fhp849 rhp849 ehp849 qhp849 nhp849 => ?_
                                              have Fhp849 := sf_fr_tr Fhp841 (sf_fr_wider (W := [(999, 0, 0), (11, 4, 4), (11, 11, 14), (11, 17, 17)]) rfl fhp849)
                                              have h850 : sf_rd hp849 69 13 = some (0 : Int) := (ehp849 _ _ (Or.inr (by omega))).trans h843
                                              have h851 : sf_rd hp849 69 11 = some z837.toInt := (ehp849 _ _ (Or.inr (by omega))).trans h844
                                              have h852 : sf_rd hp849 69 14 = some z32.toInt := (ehp849 _ _ (Or.inr (by omega))).trans rhp841
                                              have A1 := psi_ge rhp849 h851
                                              have A2 := psi_ge Q4 Q11
                                              have PS : sf_psi hp849 ≤ sf_psi hp := by omega
                                              exact Ev.ret rfl rfl (by rw [hQ]; exact ⟨t29, Hhp849, (fr_unmark H Fhp849 PS), bs_anU, sf_S_nil⟩)
                                          · skip
                                            refine Ev.step (j := 135) (s' := ([some (.ref 69), some (.int z32), none, none], [.int z32, .ref 69], (0, 0), hp28)) rfl rfl ?_
                                            exact by
                                             refine bs_lit (k := 62) rfl rfl fun z853 hz853 => ?_
                                             refine bs_gt rfl (fun c854 => ?_) (fun c854 => ?_)
                                             · skip
                                               refine bs_lit (k := 4) rfl rfl fun z855 hz855 => ?_
                                               refine bs_putI (W := [(11, 11, 11), (999, 0, 0)]) (g := 11) rfl rfl Hhp28 (bs_R.uq Hhp28 (g := 11) rfl) (by decide) rfl rfl rfl rfl (Or.inl rfl) (by omega) (by omega) fun hp856 Hhp856 fhp856 rhp856 ehp856 qhp856 nhp856 => ?_
                                               have Fhp856 := sf_fr_tr Fhp28 (sf_fr_wider (W := [(999, 0, 0), (11, 4, 4), (11, 11, 14), (11, 17, 17)]) rfl fhp856)
                                               have h857 : sf_rd hp856 69 4 = some y31 := (ehp856 _ _ (Or.inr (by omega))).trans hy31
                                               have h858 : sf_rd hp856 69 13 = some (0 : Int) := (ehp856 _ _ (Or.inr (by omega))).trans cy31
                                               refine Ev.step (j := 149) (s' := ([some (.ref 69), some (.int z32), none, none], [.ref 69], (0, 0), hp856)) rfl rfl ?_
                                               exact by
                                                refine Ev.step (j := 150) (s' := ([some (.ref 69), some (.int z32), none, none], [.int z32, .ref 69], (0, 0), hp856)) rfl rfl ?_
                                                refine bs_putI (W := [(11, 14, 14)]) (g := 11) rfl rfl Hhp856 (bs_R.uq Hhp856 (g := 11) rfl) (by decide) rfl rfl rfl rfl (Or.inl rfl) (by omega) (by omega) fun hp859 Hhp859 fhp859 rhp859 ehp859 qhp859 nhp859 => ?_
                                                have Fhp859 := sf_fr_tr Fhp856 (sf_fr_wider (W := [(999, 0, 0), (11, 4, 4), (11, 11, 14), (11, 17, 17)]) rfl fhp859)
                                                have h860 : sf_rd hp859 69 4 = some y31 := (ehp859 _ _ (Or.inr (by omega))).trans h857
                                                have h861 : sf_rd hp859 69 13 = some (0 : Int) := (ehp859 _ _ (Or.inr (by omega))).trans h858
                                                have h862 : sf_rd hp859 69 11 = some z855.toInt := (ehp859 _ _ (Or.inr (by omega))).trans rhp856
                                                refine Ev.step (j := 154) (s' := ([some (.ref 69), some (.int z32), none, none], [.ref 69], (0, 0), hp859)) rfl rfl ?_
                                                refine Ev.step (j := 155) (s' := ([some (.ref 69), some (.int z32), none, none], [.ref 69, .ref 69], (0, 0), hp859)) rfl rfl ?_
                                                exact by
                                                 refine bs_getI 11 rfl rfl rfl Hhp859 (bs_R.uq Hhp859 (g := 11) rfl) (by decide) rfl fun z863 hz863 lz863 gz863 => ?_
                                                 have e864 : z863.toInt = y31 := Option.some.inj (hz863.symm.trans h860)
                                                 refine bs_lit (k := 1) rfl rfl fun z865 hz865 => ?_
                                                 first | (refine bs_add rfl (by omega) (by omega) fun z866 hz866 => ?_) | (refine bs_any rfl fun z866 => ?_)
                                                 have rz866 := n_range z866
                                                 refine bs_putI (W := [(11, 4, 4), (999, 0, 0)]) (g := 11) rfl rfl Hhp859 (bs_R.uq Hhp859 (g := 11) rfl) (by decide) rfl rfl rfl rfl (Or.inl rfl) (by omega) (by omega) fun hp867 Hhp867 fhp867 rhp867 ehp867 qhp867 nhp867 => ?_
                                                 have Fhp867 := sf_fr_tr Fhp859 (sf_fr_wider (W := [(999, 0, 0), (11, 4, 4), (11, 11, 14), (11, 17, 17)]) rfl fhp867)
                                                 have h868 : sf_rd hp867 69 13 = some (0 : Int) := (ehp867 _ _ (Or.inr (by omega))).trans h861
                                                 have h869 : sf_rd hp867 69 11 = some z855.toInt := (ehp867 _ _ (Or.inr (by omega))).trans h862
                                                 have h870 : sf_rd hp867 69 14 = some z32.toInt := (ehp867 _ _ (Or.inr (by omega))).trans rhp859
                                                 have A1 := psi_ge rhp867 h869
                                                 have A2 := psi_ge Q4 Q11
                                                 have PS : sf_psi hp867 ≤ sf_psi hp := by omega
                                                 exact Ev.ret rfl rfl (by rw [hQ]; exact ⟨t29, Hhp867, (fr_unmark H Fhp867 PS), bs_anU, sf_S_nil⟩)
                                             · skip
                                               refine bs_lit (k := 3) rfl rfl fun z871 hz871 => ?_
                                               exact by
                                                refine Ev.step (j := 145) (s' := ([some (.ref 69), some (.int z32), none, none], [.int z871, .ref 69], (0, 0), hp28)) rfl rfl ?_
                                                refine bs_putI (W := [(11, 11, 11), (999, 0, 0)]) (g := 11) rfl rfl Hhp28 (bs_R.uq Hhp28 (g := 11) rfl) (by decide) rfl rfl rfl rfl (Or.inl rfl) (by omega) (by omega) fun hp872 Hhp872 fhp872 rhp872 ehp872 qhp872 nhp872 => ?_
                                                have Fhp872 := sf_fr_tr Fhp28 (sf_fr_wider (W := [(999, 0, 0), (11, 4, 4), (11, 11, 14), (11, 17, 17)]) rfl fhp872)
                                                have h873 : sf_rd hp872 69 4 = some y31 := (ehp872 _ _ (Or.inr (by omega))).trans hy31
                                                have h874 : sf_rd hp872 69 13 = some (0 : Int) := (ehp872 _ _ (Or.inr (by omega))).trans cy31
                                                refine Ev.step (j := 149) (s' := ([some (.ref 69), some (.int z32), none, none], [.ref 69], (0, 0), hp872)) rfl rfl ?_
                                                refine Ev.step (j := 150) (s' := ([some (.ref 69), some (.int z32), none, none], [.int z32, .ref 69], (0, 0), hp872)) rfl rfl ?_
                                                refine bs_putI (W := [(11, 14, 14)]) (g := 11) rfl rfl Hhp872 (bs_R.uq Hhp872 (g := 11) rfl) (by decide) rfl rfl rfl rfl (Or.inl rfl) (by omega) (by omega) fun hp875 Hhp875 fhp875 rhp875 ehp875 qhp875 nhp875 => ?_
                                                have Fhp875 := sf_fr_tr Fhp872 (sf_fr_wider (W := [(999, 0, 0), (11, 4, 4), (11, 11, 14), (11, 17, 17)]) rfl fhp875)
                                                have h876 : sf_rd hp875 69 4 = some y31 := (ehp875 _ _ (Or.inr (by omega))).trans h873
                                                have h877 : sf_rd hp875 69 13 = some (0 : Int) := (ehp875 _ _ (Or.inr (by omega))).trans h874
                                                have h878 : sf_rd hp875 69 11 = some z871.toInt := (ehp875 _ _ (Or.inr (by omega))).trans rhp872
                                                refine Ev.step (j := 154) (s' := ([some (.ref 69), some (.int z32), none, none], [.ref 69], (0, 0), hp875)) rfl rfl ?_
                                                exact by
                                                 refine Ev.step (j := 155) (s' := ([some (.ref 69), some (.int z32), none, none], [.ref 69, .ref 69], (0, 0), hp875)) rfl rfl ?_
                                                 refine bs_getI 11 rfl rfl rfl Hhp875 (bs_R.uq Hhp875 (g := 11) rfl) (by decide) rfl fun z879 hz879 lz879 gz879 => ?_
                                                 have e880 : z879.toInt = y31 := Option.some.inj (hz879.symm.trans h876)
                                                 refine bs_lit (k := 1) rfl rfl fun z881 hz881 => ?_
                                                 first | (refine bs_add rfl (by omega) (by omega) fun z882 hz882 => ?_) | (refine bs_any rfl fun z882 => ?_)
                                                 have rz882 := n_range z882
                                                 refine bs_putI (W := [(11, 4, 4), (999, 0, 0)]) (g := 11) rfl rfl Hhp875 (bs_R.uq Hhp875 (g := 11) rfl) (by decide) rfl rfl rfl rfl (Or.inl rfl) (by omega) (by omega) fun hp883 Hhp883 fhp883 rhp883 ehp883 qhp883 nhp883 => ?_
                                                 have Fhp883 := sf_fr_tr Fhp875 (sf_fr_wider (W := [(999, 0, 0), (11, 4, 4), (11, 11, 14), (11, 17, 17)]) rfl fhp883)
                                                 have h884 : sf_rd hp883 69 13 = some (0 : Int) := (ehp883 _ _ (Or.inr (by omega))).trans h877
                                                 have h885 : sf_rd hp883 69 11 = some z871.toInt := (ehp883 _ _ (Or.inr (by omega))).trans h878
                                                 have h886 : sf_rd hp883 69 14 = some z32.toInt := (ehp883 _ _ (Or.inr (by omega))).trans rhp875
                                                 have A1 := psi_ge rhp883 h885
                                                 have A2 := psi_ge Q4 Q11
                                                 have PS : sf_psi hp883 ≤ sf_psi hp := by omega
                                                 exact Ev.ret rfl rfl (by rw [hQ]; exact ⟨t29, Hhp883, (fr_unmark H Fhp883 PS), bs_anU, sf_S_nil⟩)
                            · skip
                              refine bs_lit (k := 1) rfl rfl fun z887 hz887 => ?_
                              exact by
                               refine Ev.step (j := 17) (s' := ([some (.int z32)], [.int z887], (0, 0), hp28)) rfl rfl ?_
                               refine bs_zret rfl rfl (by omega) (by omega) ?_
                               rw [← hQ660]
                               refine (show Ev _ 106 ([some (.ref 69), some (.int z32), none, none], [.int z887], (0, 0), hp28) _ from ?_)
                               refine bs_ifne rfl (fun c888 => ?_) (fun c888 => ?_)
                               · skip
                                 refine Ev.step (j := 165) (s' := ([some (.ref 69), some (.int z32), none, none], [.int z32], (0, 0), hp28)) rfl rfl ?_
                                 refine Ev.inlS (L := L_X11_isSmall) (nL := 1) rfl rfl (Nat.le_of_ble_eq_true rfl) ?_
                                 generalize hQ889 : (fun (o : ab_O) => Ev _ _ _ _) = Q889
                                 refine (show Ev (ab_T L_X11_isSmall) 0 ([some (.int z32)], [], (0, 0), hp28) Q889 from ?_)
                                 refine Ev.step (j := 1) (s' := ([some (.int z32)], [.int z32], (0, 0), hp28)) rfl rfl ?_
                                 exact by
                                  refine bs_lit (k := 97) rfl rfl fun z890 hz890 => ?_
                                  refine bs_lt rfl (fun c891 => ?_) (fun c891 => ?_)
                                  · skip
                                    refine bs_lit (k := 0) rfl rfl fun z892 hz892 => ?_
                                    refine bs_zret rfl rfl (by omega) (by omega) ?_
                                    rw [← hQ889]
                                    refine (show Ev _ 168 ([some (.ref 69), some (.int z32), none, none], [.int z892], (0, 0), hp28) _ from ?_)
                                    refine Ev.step (j := 169) (s' := ([some (.ref 69), some (.int z32), some (.int z892), none], [], (0, 0), hp28)) rfl rfl ?_
                                    refine bs_lit (k := 1) rfl rfl fun z893 hz893 => ?_
                                    have INV : ∃ v : Int, sf_rd hp28 69 4 = some v ∧ sf_rd hp28 69 13 = some 0 ∧ P0 ≤ v ∧ v ≤ 940 ∧ ((48 ≤ z32.toInt ∧ z32.toInt ≤ 57) ∨ (97 ≤ z32.toInt ∧ z32.toInt ≤ 122)) ∧ pkR hp28 z32 := ⟨_, hy31, cy31, by omega, by omega, by omega, pz32⟩
                                    refine Ev.step (j := 171) (s' := ([some (.ref 69), some (.int z32), some (.int z892), some (.int z893)], [], (0, 0), hp28)) rfl rfl ?_
                                    exact cut34 z892 z893 hp28 t29 Hhp28 Fhp28 (by exact INV) (by first | omega | assumption)
                                  · skip
                                    refine Ev.step (j := 7) (s' := ([some (.int z32)], [.int z32], (0, 0), hp28)) rfl rfl ?_
                                    exact by
                                     refine bs_lit (k := 122) rfl rfl fun z894 hz894 => ?_
                                     refine bs_gt rfl (fun c895 => ?_) (fun c895 => ?_)
                                     · skip
                                       refine bs_lit (k := 0) rfl rfl fun z896 hz896 => ?_
                                       refine bs_zret rfl rfl (by omega) (by omega) ?_
                                       rw [← hQ889]
                                       refine (show Ev _ 168 ([some (.ref 69), some (.int z32), none, none], [.int z896], (0, 0), hp28) _ from ?_)
                                       refine Ev.step (j := 169) (s' := ([some (.ref 69), some (.int z32), some (.int z896), none], [], (0, 0), hp28)) rfl rfl ?_
                                       refine bs_lit (k := 1) rfl rfl fun z897 hz897 => ?_
                                       have INV : ∃ v : Int, sf_rd hp28 69 4 = some v ∧ sf_rd hp28 69 13 = some 0 ∧ P0 ≤ v ∧ v ≤ 940 ∧ ((48 ≤ z32.toInt ∧ z32.toInt ≤ 57) ∨ (97 ≤ z32.toInt ∧ z32.toInt ≤ 122)) ∧ pkR hp28 z32 := ⟨_, hy31, cy31, by omega, by omega, by omega, pz32⟩
                                       refine Ev.step (j := 171) (s' := ([some (.ref 69), some (.int z32), some (.int z896), some (.int z897)], [], (0, 0), hp28)) rfl rfl ?_
                                       exact cut34 z896 z897 hp28 t29 Hhp28 Fhp28 (by exact INV) (by first | omega | assumption)
                                     · skip
                                       refine bs_lit (k := 1) rfl rfl fun z898 hz898 => ?_
                                       exact by
                                        refine Ev.step (j := 17) (s' := ([some (.int z32)], [.int z898], (0, 0), hp28)) rfl rfl ?_
                                        refine bs_zret rfl rfl (by omega) (by omega) ?_
                                        rw [← hQ889]
                                        refine (show Ev _ 168 ([some (.ref 69), some (.int z32), none, none], [.int z898], (0, 0), hp28) _ from ?_)
                                        refine Ev.step (j := 169) (s' := ([some (.ref 69), some (.int z32), some (.int z898), none], [], (0, 0), hp28)) rfl rfl ?_
                                        refine bs_lit (k := 1) rfl rfl fun z899 hz899 => ?_
                                        have INV : ∃ v : Int, sf_rd hp28 69 4 = some v ∧ sf_rd hp28 69 13 = some 0 ∧ P0 ≤ v ∧ v ≤ 940 ∧ ((48 ≤ z32.toInt ∧ z32.toInt ≤ 57) ∨ (97 ≤ z32.toInt ∧ z32.toInt ≤ 122)) ∧ pkR hp28 z32 := ⟨_, hy31, cy31, by omega, by omega, by omega, pz32⟩
                                        refine Ev.step (j := 171) (s' := ([some (.ref 69), some (.int z32), some (.int z898), some (.int z899)], [], (0, 0), hp28)) rfl rfl ?_
                                        exact cut34 z898 z899 hp28 t29 Hhp28 Fhp28 (by exact INV) (by first | omega | assumption)
                               · exfalso; omega
                    · skip
                      refine bs_lit (k := 1) rfl rfl fun z900 hz900 => ?_
                      exact by
                       refine Ev.step (j := 17) (s' := ([some (.int z32)], [.int z900], (0, 0), hp28)) rfl rfl ?_
                       refine bs_zret rfl rfl (by omega) (by omega) ?_
                       rw [← hQ411]
                       refine (show Ev _ 99 ([some (.ref 69), some (.int z32), none, none], [.int z900], (0, 0), hp28) _ from ?_)
                       refine bs_ifne rfl (fun c901 => ?_) (fun c901 => ?_)
                       · skip
                         refine Ev.step (j := 165) (s' := ([some (.ref 69), some (.int z32), none, none], [.int z32], (0, 0), hp28)) rfl rfl ?_
                         refine Ev.inlS (L := L_X11_isSmall) (nL := 1) rfl rfl (Nat.le_of_ble_eq_true rfl) ?_
                         generalize hQ902 : (fun (o : ab_O) => Ev _ _ _ _) = Q902
                         refine (show Ev (ab_T L_X11_isSmall) 0 ([some (.int z32)], [], (0, 0), hp28) Q902 from ?_)
                         refine Ev.step (j := 1) (s' := ([some (.int z32)], [.int z32], (0, 0), hp28)) rfl rfl ?_
                         exact by
                          refine bs_lit (k := 97) rfl rfl fun z903 hz903 => ?_
                          refine bs_lt rfl (fun c904 => ?_) (fun c904 => ?_)
                          · skip
                            refine bs_lit (k := 0) rfl rfl fun z905 hz905 => ?_
                            refine bs_zret rfl rfl (by omega) (by omega) ?_
                            rw [← hQ902]
                            refine (show Ev _ 168 ([some (.ref 69), some (.int z32), none, none], [.int z905], (0, 0), hp28) _ from ?_)
                            refine Ev.step (j := 169) (s' := ([some (.ref 69), some (.int z32), some (.int z905), none], [], (0, 0), hp28)) rfl rfl ?_
                            refine bs_lit (k := 1) rfl rfl fun z906 hz906 => ?_
                            have INV : ∃ v : Int, sf_rd hp28 69 4 = some v ∧ sf_rd hp28 69 13 = some 0 ∧ P0 ≤ v ∧ v ≤ 940 ∧ ((48 ≤ z32.toInt ∧ z32.toInt ≤ 57) ∨ (97 ≤ z32.toInt ∧ z32.toInt ≤ 122)) ∧ pkR hp28 z32 := ⟨_, hy31, cy31, by omega, by omega, by omega, pz32⟩
                            refine Ev.step (j := 171) (s' := ([some (.ref 69), some (.int z32), some (.int z905), some (.int z906)], [], (0, 0), hp28)) rfl rfl ?_
                            exact cut34 z905 z906 hp28 t29 Hhp28 Fhp28 (by exact INV) (by first | omega | assumption)
                          · skip
                            refine Ev.step (j := 7) (s' := ([some (.int z32)], [.int z32], (0, 0), hp28)) rfl rfl ?_
                            exact by
                             refine bs_lit (k := 122) rfl rfl fun z907 hz907 => ?_
                             refine bs_gt rfl (fun c908 => ?_) (fun c908 => ?_)
                             · skip
                               refine bs_lit (k := 0) rfl rfl fun z909 hz909 => ?_
                               refine bs_zret rfl rfl (by omega) (by omega) ?_
                               rw [← hQ902]
                               refine (show Ev _ 168 ([some (.ref 69), some (.int z32), none, none], [.int z909], (0, 0), hp28) _ from ?_)
                               refine Ev.step (j := 169) (s' := ([some (.ref 69), some (.int z32), some (.int z909), none], [], (0, 0), hp28)) rfl rfl ?_
                               refine bs_lit (k := 1) rfl rfl fun z910 hz910 => ?_
                               have INV : ∃ v : Int, sf_rd hp28 69 4 = some v ∧ sf_rd hp28 69 13 = some 0 ∧ P0 ≤ v ∧ v ≤ 940 ∧ ((48 ≤ z32.toInt ∧ z32.toInt ≤ 57) ∨ (97 ≤ z32.toInt ∧ z32.toInt ≤ 122)) ∧ pkR hp28 z32 := ⟨_, hy31, cy31, by omega, by omega, by omega, pz32⟩
                               refine Ev.step (j := 171) (s' := ([some (.ref 69), some (.int z32), some (.int z909), some (.int z910)], [], (0, 0), hp28)) rfl rfl ?_
                               exact cut34 z909 z910 hp28 t29 Hhp28 Fhp28 (by exact INV) (by first | omega | assumption)
                             · skip
                               refine bs_lit (k := 1) rfl rfl fun z911 hz911 => ?_
                               exact by
                                refine Ev.step (j := 17) (s' := ([some (.int z32)], [.int z911], (0, 0), hp28)) rfl rfl ?_
                                refine bs_zret rfl rfl (by omega) (by omega) ?_
                                rw [← hQ902]
                                refine (show Ev _ 168 ([some (.ref 69), some (.int z32), none, none], [.int z911], (0, 0), hp28) _ from ?_)
                                refine Ev.step (j := 169) (s' := ([some (.ref 69), some (.int z32), some (.int z911), none], [], (0, 0), hp28)) rfl rfl ?_
                                refine bs_lit (k := 1) rfl rfl fun z912 hz912 => ?_
                                have INV : ∃ v : Int, sf_rd hp28 69 4 = some v ∧ sf_rd hp28 69 13 = some 0 ∧ P0 ≤ v ∧ v ≤ 940 ∧ ((48 ≤ z32.toInt ∧ z32.toInt ≤ 57) ∨ (97 ≤ z32.toInt ∧ z32.toInt ≤ 122)) ∧ pkR hp28 z32 := ⟨_, hy31, cy31, by omega, by omega, by omega, pz32⟩
                                refine Ev.step (j := 171) (s' := ([some (.ref 69), some (.int z32), some (.int z911), some (.int z912)], [], (0, 0), hp28)) rfl rfl ?_
                                exact cut34 z911 z912 hp28 t29 Hhp28 Fhp28 (by exact INV) (by first | omega | assumption)
                       · exfalso; omega
              · skip
                refine Ev.step (j := 90) (s' := ([some (.ref 69), some (.int z32), none, none], [.ref 69], (0, 0), hp28)) rfl rfl ?_
                exact by
                 refine bs_lit (k := 0) rfl rfl fun z913 hz913 => ?_
                 refine bs_putI (W := [(11, 11, 11), (999, 0, 0)]) (g := 11) rfl rfl Hhp28 (bs_R.uq Hhp28 (g := 11) rfl) (by decide) rfl rfl rfl rfl (Or.inl rfl) (by omega) (by omega) fun hp914 Hhp914 fhp914 rhp914 ehp914 qhp914 nhp914 => ?_
                 have Fhp914 := sf_fr_tr Fhp28 (sf_fr_wider (W := [(999, 0, 0), (11, 4, 4), (11, 11, 14), (11, 17, 17)]) rfl fhp914)
                 have h915 : sf_rd hp914 69 4 = some y31 := (ehp914 _ _ (Or.inr (by omega))).trans hy31
                 have h916 : sf_rd hp914 69 13 = some (0 : Int) := (ehp914 _ _ (Or.inr (by omega))).trans cy31
                 have A1 := psi_ge h915 rhp914
                 have A2 := psi_ge Q4 Q11
                 have PS : sf_psi hp914 ≤ sf_psi hp := by omega
                 exact Ev.ret rfl rfl (by rw [hQ]; exact ⟨t29, Hhp914, (fr_unmark H Fhp914 PS), bs_anU, sf_S_nil⟩)
           refine Ev.step (j := 45) (s' := ([some (.ref 69), none, none, none], [.ref 69], (0, 0), hp24)) rfl rfl ?_
           exact by
            refine bs_getI 11 rfl rfl rfl Hhp24 (bs_R.uq Hhp24 (g := 11) rfl) (by decide) rfl fun z917 hz917 lz917 gz917 => ?_
            refine Ev.step (j := 49) (s' := ([some (.ref 69), none, none, none], [.ref 69, .int z917], (0, 0), hp24)) rfl rfl ?_
            refine bs_getI 11 rfl rfl rfl Hhp24 (bs_R.uq Hhp24 (g := 11) rfl) (by decide) rfl fun z918 hz918 lz918 gz918 => ?_
            have INV : ∃ v : Int, sf_rd hp24 69 4 = some v ∧ sf_rd hp24 69 13 = some 0 ∧ P0 ≤ v ∧ v ≤ 940 := ⟨_, h25, by rw [rhp24]; congr 1, by omega, by omega⟩
            refine bs_le rfl (fun c919 => ?_) (fun c919 => ?_)
            · skip
              exact cut27 hp24 t2 Hhp24 Fhp24 (by exact INV)
            · skip
              refine Ev.step (j := 56) (s' := ([some (.ref 69), none, none, none], [.ref 69], (0, 0), hp24)) rfl rfl ?_
              refine bs_getI 11 rfl rfl rfl Hhp24 (bs_R.uq Hhp24 (g := 11) rfl) (by decide) rfl fun z920 hz920 lz920 gz920 => ?_
              have e921 : z920.toInt = y5 := Option.some.inj (hz920.symm.trans h25)
              refine Ev.step (j := 60) (s' := ([some (.ref 69), none, none, none], [.ref 69, .int z920], (0, 0), hp24)) rfl rfl ?_
              exact by
               refine bs_getI 11 rfl rfl rfl Hhp24 (bs_R.uq Hhp24 (g := 11) rfl) (by decide) rfl fun z922 hz922 lz922 gz922 => ?_
               have e923 : z922.toInt = z918.toInt := Option.some.inj (hz922.symm.trans hz918)
               refine bs_lt rfl (fun c924 => ?_) (fun c924 => ?_)
               · skip
                 exact cut27 hp24 t2 Hhp24 Fhp24 (by exact INV)
               · skip
                 refine Ev.step (j := 67) (s' := ([some (.ref 69), none, none, none], [.ref 69], (0, 0), hp24)) rfl rfl ?_
                 refine Ev.step (j := 68) (s' := ([some (.ref 69), none, none, none], [.ref 69, .ref 69], (0, 0), hp24)) rfl rfl ?_
                 refine bs_getI 11 rfl rfl rfl Hhp24 (bs_R.uq Hhp24 (g := 11) rfl) (by decide) rfl fun z925 hz925 lz925 gz925 => ?_
                 have e926 : z925.toInt = z918.toInt := Option.some.inj (hz925.symm.trans hz918)
                 refine bs_putI (W := [(11, 12, 12)]) (g := 11) rfl rfl Hhp24 (bs_R.uq Hhp24 (g := 11) rfl) (by decide) rfl rfl rfl rfl (Or.inl rfl) (by omega) (by omega) fun hp927 Hhp927 fhp927 rhp927 ehp927 qhp927 nhp927 => ?_
                 have Fhp927 := sf_fr_tr Fhp24 (sf_fr_wider (W := [(999, 0, 0), (11, 4, 4), (11, 11, 14), (11, 17, 17)]) rfl fhp927)
                 have h928 : sf_rd hp927 69 4 = some y5 := (ehp927 _ _ (Or.inr (by omega))).trans h25
                 have h929 : sf_rd hp927 69 13 = some z23.toInt := (ehp927 _ _ (Or.inr (by omega))).trans rhp24
                 have h930 : sf_rd hp927 69 3 = some z917.toInt := (ehp927 _ _ (Or.inr (by omega))).trans hz917
                 have h931 : sf_rd hp927 69 5 = some z918.toInt := (ehp927 _ _ (Or.inr (by omega))).trans hz918
                 refine Ev.step (j := 75) (s' := ([some (.ref 69), none, none, none], [.ref 69], (0, 0), hp927)) rfl rfl ?_
                 exact by
                  refine bs_lit (k := 4) rfl rfl fun z932 hz932 => ?_
                  refine bs_putI (W := [(11, 11, 11), (999, 0, 0)]) (g := 11) rfl rfl Hhp927 (bs_R.uq Hhp927 (g := 11) rfl) (by decide) rfl rfl rfl rfl (Or.inl rfl) (by omega) (by omega) fun hp933 Hhp933 fhp933 rhp933 ehp933 qhp933 nhp933 => ?_
                  have Fhp933 := sf_fr_tr Fhp927 (sf_fr_wider (W := [(999, 0, 0), (11, 4, 4), (11, 11, 14), (11, 17, 17)]) rfl fhp933)
                  have h934 : sf_rd hp933 69 4 = some y5 := (ehp933 _ _ (Or.inr (by omega))).trans h928
                  have h935 : sf_rd hp933 69 13 = some z23.toInt := (ehp933 _ _ (Or.inr (by omega))).trans h929
                  have h936 : sf_rd hp933 69 3 = some z917.toInt := (ehp933 _ _ (Or.inr (by omega))).trans h930
                  have h937 : sf_rd hp933 69 5 = some z918.toInt := (ehp933 _ _ (Or.inr (by omega))).trans h931
                  have h938 : sf_rd hp933 69 12 = some z925.toInt := (ehp933 _ _ (Or.inr (by omega))).trans rhp927
                  have A1 := psi_ge h934 rhp933
                  have A2 := psi_ge Q4 Q11
                  have PS : sf_psi hp933 ≤ sf_psi hp := by omega
                  exact Ev.ret rfl rfl (by rw [hQ]; exact ⟨t2, Hhp933, (fr_unmark H Fhp933 PS), bs_anU, sf_S_nil⟩)
        · skip
          have c939 : z15.toInt = 10 := by omega
          refine Ev.step (j := 19) (s' := ([some (.ref 69), none, none, none], [.ref 69], (0, 0), hp1)) rfl rfl ?_
          exact by
           refine Ev.step (j := 20) (s' := ([some (.ref 69), none, none, none], [.ref 69, .ref 69], (0, 0), hp1)) rfl rfl ?_
           refine bs_getI 11 rfl rfl rfl Hhp1 (bs_R.uq Hhp1 (g := 11) rfl) (by decide) rfl fun z940 hz940 lz940 gz940 => ?_
           have e941 : z940.toInt = y5 := Option.some.inj (hz940.symm.trans hy5)
           refine bs_lit (k := 1) rfl rfl fun z942 hz942 => ?_
           first | (refine bs_add rfl (by omega) (by omega) fun z943 hz943 => ?_) | (refine bs_any rfl fun z943 => ?_)
           have rz943 := n_range z943
           refine bs_putI (W := [(11, 4, 4), (999, 0, 0)]) (g := 11) rfl rfl Hhp1 (bs_R.uq Hhp1 (g := 11) rfl) (by decide) rfl rfl rfl rfl (Or.inl rfl) (by omega) (by omega) fun hp944 Hhp944 fhp944 rhp944 ehp944 qhp944 nhp944 => ?_
           have Fhp944 := sf_fr_tr Fhp1 (sf_fr_wider (W := [(999, 0, 0), (11, 4, 4), (11, 11, 14), (11, 17, 17)]) rfl fhp944)
           refine Ev.step (j := 0) (s' := ([some (.ref 69), none, none, none], [], (0, 0), hp944)) rfl rfl ?_
           have INV : ∃ v : Int, sf_rd hp944 69 4 = some v ∧ P0 ≤ v ∧ v ≤ 940 := ⟨_, rhp944, by omega, by omega⟩
           have MS : (940 - (sf_rd hp944 69 4).getD 0).toNat < (940 - (sf_rd hp1 69 4).getD 0).toNat := by
             rw [rhp944, hy5]
             show (940 - z943.toInt).toNat < (940 - y5).toNat
             omega
           refine ih3 (hp944, t2) ⟨Hhp944, Fhp944, (by exact INV)⟩ ?_
           show (940 - (sf_rd hp944 69 4).getD 0).toNat < (940 - (sf_rd hp1 69 4).getD 0).toNat
           exact MS
end
