-- 63.b15.lean.txt
section
def kq_X11_next_x : sf_Q := ([(1, 11, 0)], [], none, [], [(11, 4, 4), (11, 11, 14), (11, 17, 17)])
def ke_X11_next_x : List Value → ab_H → Option Value → ab_H → Prop := fun _ hp _ hp' => ∀ v : Int, sf_rd hp 69 4 = some v → sf_psi hp' ≤ 2 * (940 - v)
set_option maxRecDepth 100000 in
set_option maxHeartbeats 4000000 in
theorem ce_X11_next_x : sf_cE kq_X11_next_x Z_X11_next ke_X11_next_x := by
  intro t hp as H hl hj hpre
  match as, hl with
  | [v0], _ =>
    obtain ⟨a0, rfl, ra0⟩ := bs_aR (hj 0 _ rfl)
    obtain rfl := ra0.eq H (p := 69) rfl
    clear hpre hj
    have F0 : sf_fr [(999, 0, 0), (11, 4, 4), (11, 11, 14), (11, 17, 17)] t hp t hp := sf_fr_rf
    obtain ⟨P0, Q4, LP0, GP0⟩ := bs_fld (k := 4) H (bs_R.uq H (g := 11) rfl) (by decide) rfl
    obtain ⟨K0, Q11, -, -⟩ := bs_fld (k := 11) H (bs_R.uq H (g := 11) rfl) (by decide) rfl
    refine bs_finx (E := ke_X11_next_x) (K := kq_X11_next_x) (L := (L_X11_next Z_X11_peek Z_X11_isSmall Z_X11_isDigit)) (nL := 4) (Nat.le_of_ble_eq_true rfl) ?_
    obtain ⟨Q, hQ⟩ : ∃ Q : ab_O → Prop, Q = (fun o => ∃ t', sf_h t' o.2 ∧ sf_fr (kq_X11_next_x).2.2.2.2 t hp t' o.2 ∧ sf_an t' o.2.1 (kq_X11_next_x).2.2.1 o.1 ∧ sf_S (sf_v1 o.1 [.ref 69] o.2) (kq_X11_next_x).2.2.2.1 ∧ ke_X11_next_x [.ref 69] hp o.1 o.2) := ⟨_, rfl⟩
    rw [← hQ]
    refine (show Ev (ab_T (L_X11_next Z_X11_peek Z_X11_isSmall Z_X11_isDigit)) 0 ([some (.ref 69), none, none, none], [], (0, 0), hp) Q from ?_)
    have INV : ∃ v : Int, sf_rd hp 69 4 = some v ∧ P0 ≤ v ∧ v ≤ 940 := ⟨_, Q4, by omega, by omega⟩
    refine bs_loop (ι := ab_H × (Nat → Nat)) (fun ⟨hp1, t2⟩ => ([some (.ref 69), none, none, none], [], (0, 0), hp1)) (fun ⟨hp1, t2⟩ => (sf_h t2 hp1) ∧ (sf_fr [(999, 0, 0), (11, 4, 4), (11, 11, 14), (11, 17, 17)] t hp t2 hp1) ∧ (∃ v : Int, sf_rd hp1 69 4 = some v ∧ P0 ≤ v ∧ v ≤ 940)) (fun ⟨hp1, t2⟩ => (940 - (sf_rd hp1 69 4).getD 0).toNat) ?_ (hp, t) ⟨H, F0, (by exact INV)⟩
    rintro ⟨hp1, t2⟩ ⟨Hhp1, Fhp1, i4⟩ ih3
    refine (show Ev _ 0 ([some (.ref 69), none, none, none], [], (0, 0), hp1) _ from ?_)
    obtain ⟨y5, hy5, ly5, gy5⟩ := i4
    refine Ev.step (j := 1) (s' := ([some (.ref 69), none, none, none], [.ref 69], (0, 0), hp1)) rfl rfl ?_
    exact by
     refine pk_ev rfl Hhp1 rfl fun z6 pz6 oz6 mz6 => ?_
     replace mz6 := mz6 _ hy5
     refine (show Ev _ 4 ([some (.ref 69), none, none, none], [.int z6], (0, 0), hp1) _ from ?_)
     refine bs_lit (k := 32) rfl rfl fun z7 hz7 => ?_
     refine bs_eq rfl (fun c8 => ?_) (fun c8 => ?_)
     · skip
       have c9 : z6.toInt = 32 := by omega
       refine Ev.step (j := 19) (s' := ([some (.ref 69), none, none, none], [.ref 69], (0, 0), hp1)) rfl rfl ?_
       refine Ev.step (j := 20) (s' := ([some (.ref 69), none, none, none], [.ref 69, .ref 69], (0, 0), hp1)) rfl rfl ?_
       exact by
        refine bs_getI 11 rfl rfl rfl Hhp1 (bs_R.uq Hhp1 (g := 11) rfl) (by decide) rfl fun z10 hz10 lz10 gz10 => ?_
        have e11 : z10.toInt = y5 := Option.some.inj (hz10.symm.trans hy5)
        refine bs_lit (k := 1) rfl rfl fun z12 hz12 => ?_
        first | (refine bs_add rfl (by omega) (by omega) fun z13 hz13 => ?_) | (refine bs_any rfl fun z13 => ?_)
        have rz13 := n_range z13
        refine bs_putI (W := [(11, 4, 4), (999, 0, 0)]) (g := 11) rfl rfl Hhp1 (bs_R.uq Hhp1 (g := 11) rfl) (by decide) rfl rfl rfl rfl (Or.inl rfl) (by omega) (by omega) fun hp14 Hhp14 fhp14 rhp14 ehp14 qhp14 nhp14 => ?_
        have Fhp14 := sf_fr_tr Fhp1 (sf_fr_wider (W := [(999, 0, 0), (11, 4, 4), (11, 11, 14), (11, 17, 17)]) rfl fhp14)
        refine Ev.step (j := 0) (s' := ([some (.ref 69), none, none, none], [], (0, 0), hp14)) rfl rfl ?_
        have INV : ∃ v : Int, sf_rd hp14 69 4 = some v ∧ P0 ≤ v ∧ v ≤ 940 := ⟨_, rhp14, by omega, by omega⟩
        have MS : (940 - (sf_rd hp14 69 4).getD 0).toNat < (940 - (sf_rd hp1 69 4).getD 0).toNat := by
          rw [rhp14, hy5]
          show (940 - z13.toInt).toNat < (940 - y5).toNat
          omega
        refine ih3 (hp14, t2) ⟨Hhp14, Fhp14, (by exact INV)⟩ ?_
        show (940 - (sf_rd hp14 69 4).getD 0).toNat < (940 - (sf_rd hp1 69 4).getD 0).toNat
        exact MS
     · skip
       refine Ev.step (j := 10) (s' := ([some (.ref 69), none, none, none], [.ref 69], (0, 0), hp1)) rfl rfl ?_
       exact by
        refine pk_ev rfl Hhp1 rfl fun z15 pz15 oz15 mz15 => ?_
        replace mz15 := mz15 _ hy5
        have e16 : z15.toInt = z6.toInt := pz15.same pz6
        refine (show Ev _ 13 ([some (.ref 69), none, none, none], [.int z15], (0, 0), hp1) _ from ?_)
        refine bs_lit (k := 10) rfl rfl fun z17 hz17 => ?_
        refine bs_ne rfl (fun c18 => ?_) (fun c18 => ?_)
        · skip
          refine Ev.step (j := 32) (s' := ([some (.ref 69), none, none, none], [.ref 69], (0, 0), hp1)) rfl rfl ?_
          refine Ev.step (j := 33) (s' := ([some (.ref 69), none, none, none], [.ref 69, .ref 69], (0, 0), hp1)) rfl rfl ?_
          exact by
           refine bs_getI 11 rfl rfl rfl Hhp1 (bs_R.uq Hhp1 (g := 11) rfl) (by decide) rfl fun z19 hz19 lz19 gz19 => ?_
           have e20 : z19.toInt = y5 := Option.some.inj (hz19.symm.trans hy5)
           refine bs_putI (W := [(11, 12, 12)]) (g := 11) rfl rfl Hhp1 (bs_R.uq Hhp1 (g := 11) rfl) (by decide) rfl rfl rfl rfl (Or.inl rfl) (by omega) (by omega) fun hp21 Hhp21 fhp21 rhp21 ehp21 qhp21 nhp21 => ?_
           have Fhp21 := sf_fr_tr Fhp1 (sf_fr_wider (W := [(999, 0, 0), (11, 4, 4), (11, 11, 14), (11, 17, 17)]) rfl fhp21)
           have h22 : sf_rd hp21 69 4 = some y5 := (ehp21 _ _ (Or.inr (by omega))).trans hy5
           refine Ev.step (j := 40) (s' := ([some (.ref 69), none, none, none], [.ref 69], (0, 0), hp21)) rfl rfl ?_
           refine bs_lit (k := 0) rfl rfl fun z23 hz23 => ?_
           refine bs_putI (W := [(11, 13, 13)]) (g := 11) rfl rfl Hhp21 (bs_R.uq Hhp21 (g := 11) rfl) (by decide) rfl rfl rfl rfl (Or.inl rfl) (by omega) (by omega) fun hp24 Hhp24 fhp24 rhp24 ehp24 qhp24 nhp24 => ?_
           have Fhp24 := sf_fr_tr Fhp21 (sf_fr_wider (W := [(999, 0, 0), (11, 4, 4), (11, 11, 14), (11, 17, 17)]) rfl fhp24)
           have h25 : sf_rd hp24 69 4 = some y5 := (ehp24 _ _ (Or.inr (by omega))).trans h22
           have h26 : sf_rd hp24 69 12 = some z19.toInt := (ehp24 _ _ (Or.inr (by omega))).trans rhp21
           have cut27 : ∀ (hp28 : ab_H) (t29 : Nat → Nat), sf_h t29 hp28 → sf_fr [(999, 0, 0), (11, 4, 4), (11, 11, 14), (11, 17, 17)] t hp t29 hp28 → (∃ v : Int, sf_rd hp28 69 4 = some v ∧ sf_rd hp28 69 13 = some 0 ∧ P0 ≤ v ∧ v ≤ 940) → Ev (ab_T (L_X11_next Z_X11_peek Z_X11_isSmall Z_X11_isDigit)) 80 ([some (.ref 69), none, none, none], [], (0, 0), hp28) Q := by
             intro hp28 t29 Hhp28 Fhp28 i30
             obtain ⟨y31, hy31, cy31, ly31, gy31⟩ := i30
             refine Ev.step (j := 81) (s' := ([some (.ref 69), none, none, none], [.ref 69], (0, 0), hp28)) rfl rfl ?_
             exact by
              refine pk_ev rfl Hhp28 rfl fun z32 pz32 oz32 mz32 => ?_
              replace mz32 := mz32 _ hy31
              refine (show Ev _ 84 ([some (.ref 69), none, none, none], [.int z32], (0, 0), hp28) _ from ?_)
              refine Ev.step (j := 85) (s' := ([some (.ref 69), some (.int z32), none, none], [], (0, 0), hp28)) rfl rfl ?_
              refine Ev.step (j := 86) (s' := ([some (.ref 69), some (.int z32), none, none], [.int z32], (0, 0), hp28)) rfl rfl ?_
              refine bs_ifge rfl (fun c33 => ?_) (fun c33 => ?_)
              · skip
                have cut34 : ∀ (k35 : Int32) (k36 : Int32) (hp37 : ab_H) (t38 : Nat → Nat), sf_h t38 hp37 → sf_fr [(999, 0, 0), (11, 4, 4), (11, 11, 14), (11, 17, 17)] t hp t38 hp37 → (∃ v : Int, sf_rd hp37 69 4 = some v ∧ sf_rd hp37 69 13 = some 0 ∧ P0 ≤ v ∧ v ≤ 940 ∧ ((48 ≤ z32.toInt ∧ z32.toInt ≤ 57) ∨ (97 ≤ z32.toInt ∧ z32.toInt ≤ 122)) ∧ pkR hp37 z32) → (0 ≤ k35.toInt ∧ k35.toInt ≤ 1) → Ev (ab_T (L_X11_next Z_X11_peek Z_X11_isSmall Z_X11_isDigit)) 171 ([some (.ref 69), some (.int z32), some (.int k35), some (.int k36)], [], (0, 0), hp37) Q := by
                  intro k35 k36 hp37 t38 Hhp37 Fhp37 i39 i40
                  obtain ⟨y41, hy41, cy41, ly41, gy41, dy41, ky41⟩ := i39
                  refine Ev.step (j := 172) (s' := ([some (.ref 69), some (.int z32), some (.int k35), some (.int k36)], [.ref 69], (0, 0), hp37)) rfl rfl ?_
                  exact by
                   refine Ev.step (j := 173) (s' := ([some (.ref 69), some (.int z32), some (.int k35), some (.int k36)], [.long (0), .ref 69], (0, 0), hp37)) rfl rfl ?_
                   refine bs_putL (W := [(11, 17, 17)]) (g := 11) rfl rfl Hhp37 (bs_R.uq Hhp37 (g := 11) rfl) (by decide) rfl rfl rfl rfl fun hp42 Hhp42 fhp42 ehp42 qhp42 => ?_
                   have Fhp42 := sf_fr_tr Fhp37 (sf_fr_wider (W := [(999, 0, 0), (11, 4, 4), (11, 11, 14), (11, 17, 17)]) rfl fhp42)
                   have h43 : sf_rd hp42 69 4 = some y41 := (ehp42 _ _).trans hy41
                   have h44 : sf_rd hp42 69 13 = some (0 : Int) := (ehp42 _ _).trans cy41
                   refine Ev.step (j := 177) (s' := ([some (.ref 69), some (.int z32), some (.int k35), some (.int k36)], [.ref 69], (0, 0), hp42)) rfl rfl ?_
                   refine bs_lit (k := 0) rfl rfl fun z45 hz45 => ?_
                   refine bs_putI (W := [(11, 14, 14)]) (g := 11) rfl rfl Hhp42 (bs_R.uq Hhp42 (g := 11) rfl) (by decide) rfl rfl rfl rfl (Or.inl rfl) (by omega) (by omega) fun hp46 Hhp46 fhp46 rhp46 ehp46 qhp46 nhp46 => ?_
                   have Fhp46 := sf_fr_tr Fhp42 (sf_fr_wider (W := [(999, 0, 0), (11, 4, 4), (11, 11, 14), (11, 17, 17)]) rfl fhp46)
                   have h47 : sf_rd hp46 69 4 = some y41 := (ehp46 _ _ (Or.inr (by omega))).trans h43
                   have h48 : sf_rd hp46 69 13 = some (0 : Int) := (ehp46 _ _ (Or.inr (by omega))).trans h44
                   have P49 := pkR.mv ky41 (ehp42 _ _) (ehp42 _ _) (fun q => ehp42 _ _)
                   have P50 := pkR.mv P49 (ehp46 _ _ (Or.inr (by decide))) (ehp46 _ _ (Or.inr (by decide))) (fun q => ehp46 _ _ (Or.inl (by decide)))
                   have INV : ∃ v c n : Int, sf_rd hp46 69 4 = some v ∧ sf_rd hp46 69 13 = some c ∧ sf_rd hp46 69 14 = some n ∧ P0 ≤ v ∧ v ≤ 940 ∧ 0 ≤ c ∧ c ≤ v ∧ 0 ≤ n ∧ n ≤ 8214 ∧ (c = 0 → n ≤ 0) ∧ (c = 1 → n ≤ 74) ∧ (c = 2 → n ≤ 814) ∧ (P0 + 1 ≤ v ∨ pkR hp46 z32) := ⟨_, _, _, h47, h48, rhp46, by omega, by omega, by omega, by omega, by omega, by omega, by omega, by omega, by omega, Or.inr P50⟩
                   refine bs_loop (ι := Int32 × ab_H × (Nat → Nat)) (fun ⟨k51, hp52, t53⟩ => ([some (.ref 69), some (.int z32), some (.int k35), some (.int k51)], [], (0, 0), hp52)) (fun ⟨k51, hp52, t53⟩ => (sf_h t53 hp52) ∧ (sf_fr [(999, 0, 0), (11, 4, 4), (11, 11, 14), (11, 17, 17)] t hp t53 hp52) ∧ (∃ v c n : Int, sf_rd hp52 69 4 = some v ∧ sf_rd hp52 69 13 = some c ∧ sf_rd hp52 69 14 = some n ∧ P0 ≤ v ∧ v ≤ 940 ∧ 0 ≤ c ∧ c ≤ v ∧ 0 ≤ n ∧ n ≤ 8214 ∧ (c = 0 → n ≤ 0) ∧ (c = 1 → n ≤ 74) ∧ (c = 2 → n ≤ 814) ∧ (P0 + 1 ≤ v ∨ pkR hp52 z32))) (fun ⟨k51, hp52, t53⟩ => (940 - (sf_rd hp52 69 4).getD 0).toNat) ?_ (k36, hp46, t38) ⟨Hhp46, Fhp46, (by exact INV)⟩
                   rintro ⟨k51, hp52, t53⟩ ⟨Hhp52, Fhp52, i55⟩ ih54
                   refine (show Ev _ 181 ([some (.ref 69), some (.int z32), some (.int k35), some (.int k51)], [], (0, 0), hp52) _ from ?_)
                   obtain ⟨y56, y57, y58, hy56, hy57, hy58, ly56, gy56, ly57, gy57, ly58, gy58, dy58, fy58, ky58, jy56⟩ := i55
                   refine Ev.step (j := 182) (s' := ([some (.ref 69), some (.int z32), some (.int k35), some (.int k51)], [.ref 69], (0, 0), hp52)) rfl rfl ?_
                   exact by
                    refine pk_ev rfl Hhp52 rfl fun z59 pz59 oz59 mz59 => ?_
                    replace mz59 := mz59 _ hy56
                    refine (show Ev _ 185 ([some (.ref 69), some (.int z32), some (.int k35), some (.int k51)], [.int z59], (0, 0), hp52) _ from ?_)
                    have cut60 : ∀ (hp61 : ab_H) (t62 : Nat → Nat), sf_h t62 hp61 → sf_fr [(999, 0, 0), (11, 4, 4), (11, 11, 14), (11, 17, 17)] t hp t62 hp61 → (sf_rd hp61 69 4 = some y56) → (sf_rd hp61 69 13 = some y57) → (sf_rd hp61 69 14 = some y58) → ((48 ≤ z59.toInt ∧ z59.toInt ≤ 57) ∨ (97 ≤ z59.toInt ∧ z59.toInt ≤ 122)) → (pkR hp61 z59) → Ev (ab_T (L_X11_next Z_X11_peek Z_X11_isSmall Z_X11_isDigit)) 201 ([some (.ref 69), some (.int z32), some (.int k35), some (.int k51)], [], (0, 0), hp61) Q := by
                      intro hp61 t62 Hhp61 Fhp61 i63 i64 i65 i66 i67
                      have cut68 : ∀ (k69 : Int32) (hp70 : ab_H) (t71 : Nat → Nat), sf_h t71 hp70 → sf_fr [(999, 0, 0), (11, 4, 4), (11, 11, 14), (11, 17, 17)] t hp t71 hp70 → (sf_rd hp70 69 4 = some y56) → (sf_rd hp70 69 13 = some y57) → (sf_rd hp70 69 14 = some y58) → (pkR hp70 z59) → Ev (ab_T (L_X11_next Z_X11_peek Z_X11_isSmall Z_X11_isDigit)) 222 ([some (.ref 69), some (.int z32), some (.int k35), some (.int k69)], [], (0, 0), hp70) Q := by
                        intro k69 hp70 t71 Hhp70 Fhp70 i72 i73 i74 i75
                        refine Ev.step (j := 223) (s' := ([some (.ref 69), some (.int z32), some (.int k35), some (.int k69)], [.ref 69], (0, 0), hp70)) rfl rfl ?_
                        refine bs_getI 11 rfl rfl rfl Hhp70 (bs_R.uq Hhp70 (g := 11) rfl) (by decide) rfl fun z76 hz76 lz76 gz76 => ?_
                        have e77 : z76.toInt = y57 := Option.some.inj (hz76.symm.trans i73)
                        refine bs_lit (k := 7) rfl rfl fun z78 hz78 => ?_
                        exact by
                         refine bs_ge rfl (fun c79 => ?_) (fun c79 => ?_)
                         · skip
                           refine Ev.step (j := 249) (s' := ([some (.ref 69), some (.int z32), some (.int k35), some (.int k69)], [.ref 69], (0, 0), hp70)) rfl rfl ?_
                           refine bs_getI 11 rfl rfl rfl Hhp70 (bs_R.uq Hhp70 (g := 11) rfl) (by decide) rfl fun z80 hz80 lz80 gz80 => ?_
                           have e81 : z80.toInt = y57 := Option.some.inj (hz80.symm.trans i73)
                           refine bs_lit (k := 3) rfl rfl fun z82 hz82 => ?_
                           refine bs_ge rfl (fun c83 => ?_) (fun c83 => ?_)
                           · skip
                             refine Ev.step (j := 276) (s' := ([some (.ref 69), some (.int z32), some (.int k35), some (.int k69)], [.ref 69], (0, 0), hp70)) rfl rfl ?_
                             refine Ev.step (j := 277) (s' := ([some (.ref 69), some (.int z32), some (.int k35), some (.int k69)], [.ref 69, .ref 69], (0, 0), hp70)) rfl rfl ?_
                             exact by
                              refine bs_getI 11 rfl rfl rfl Hhp70 (bs_R.uq Hhp70 (g := 11) rfl) (by decide) rfl fun z84 hz84 lz84 gz84 => ?_
                              have e85 : z84.toInt = y57 := Option.some.inj (hz84.symm.trans i73)
                              refine bs_lit (k := 1) rfl rfl fun z86 hz86 => ?_
                              first | (refine bs_add rfl (by omega) (by omega) fun z87 hz87 => ?_) | (refine bs_any rfl fun z87 => ?_)
                              have rz87 := n_range z87
                              refine bs_putI (W := [(11, 13, 13)]) (g := 11) rfl rfl Hhp70 (bs_R.uq Hhp70 (g := 11) rfl) (by decide) rfl rfl rfl rfl (Or.inl rfl) (by omega) (by omega) fun hp88 Hhp88 fhp88 rhp88 ehp88 qhp88 nhp88 => ?_
                              have Fhp88 := sf_fr_tr Fhp70 (sf_fr_wider (W := [(999, 0, 0), (11, 4, 4), (11, 11, 14), (11, 17, 17)]) rfl fhp88)
                              have h89 : sf_rd hp88 69 4 = some y56 := (ehp88 _ _ (Or.inr (by omega))).trans i72
                              have h90 : sf_rd hp88 69 14 = some y58 := (ehp88 _ _ (Or.inr (by omega))).trans i74
                              refine Ev.step (j := 286) (s' := ([some (.ref 69), some (.int z32), some (.int k35), some (.int k69)], [.ref 69], (0, 0), hp88)) rfl rfl ?_
                              exact by
                               refine Ev.step (j := 287) (s' := ([some (.ref 69), some (.int z32), some (.int k35), some (.int k69)], [.ref 69, .ref 69], (0, 0), hp88)) rfl rfl ?_
                               refine bs_getI 11 rfl rfl rfl Hhp88 (bs_R.uq Hhp88 (g := 11) rfl) (by decide) rfl fun z91 hz91 lz91 gz91 => ?_
                               have e92 : z91.toInt = y56 := Option.some.inj (hz91.symm.trans h89)
                               refine bs_lit (k := 1) rfl rfl fun z93 hz93 => ?_
                               first | (refine bs_add rfl (by omega) (by omega) fun z94 hz94 => ?_) | (refine bs_any rfl fun z94 => ?_)
                               have rz94 := n_range z94
                               refine bs_putI (W := [(11, 4, 4), (999, 0, 0)]) (g := 11) rfl rfl Hhp88 (bs_R.uq Hhp88 (g := 11) rfl) (by decide) rfl rfl rfl rfl (Or.inl rfl) (by omega) (by omega) fun hp95 Hhp95 fhp95 rhp95 ehp95 qhp95 nhp95 => ?_
                               have Fhp95 := sf_fr_tr Fhp88 (sf_fr_wider (W := [(999, 0, 0), (11, 4, 4), (11, 11, 14), (11, 17, 17)]) rfl fhp95)
                               have h96 : sf_rd hp95 69 14 = some y58 := (ehp95 _ _ (Or.inr (by omega))).trans h90
                               have h97 : sf_rd hp95 69 13 = some z87.toInt := (ehp95 _ _ (Or.inr (by omega))).trans rhp88
                               refine Ev.step (j := 181) (s' := ([some (.ref 69), some (.int z32), some (.int k35), some (.int k69)], [], (0, 0), hp95)) rfl rfl ?_
                               have INV : ∃ v c n : Int, sf_rd hp95 69 4 = some v ∧ sf_rd hp95 69 13 = some c ∧ sf_rd hp95 69 14 = some n ∧ P0 ≤ v ∧ v ≤ 940 ∧ 0 ≤ c ∧ c ≤ v ∧ 0 ≤ n ∧ n ≤ 8214 ∧ (c = 0 → n ≤ 0) ∧ (c = 1 → n ≤ 74) ∧ (c = 2 → n ≤ 814) ∧ (P0 + 1 ≤ v ∨ pkR hp95 z32) := ⟨_, _, _, rhp95, h97, h96, by omega, by omega, by omega, by omega, by omega, by omega, by omega, by omega, by omega, Or.inl (by omega)⟩
                               have MS : (940 - (sf_rd hp95 69 4).getD 0).toNat < (940 - (sf_rd hp52 69 4).getD 0).toNat := by
                                 rw [rhp95, hy56]
                                 show (940 - z94.toInt).toNat < (940 - y56).toNat
                                 omega
                               refine ih54 (k69, hp95, t71) ⟨Hhp95, Fhp95, (by exact INV)⟩ ?_
                               show (940 - (sf_rd hp95 69 4).getD 0).toNat < (940 - (sf_rd hp52 69 4).getD 0).toNat
                               exact MS
                           · skip
                             refine Ev.step (j := 257) (s' := ([some (.ref 69), some (.int z32), some (.int k35), some (.int k69)], [.ref 69], (0, 0), hp70)) rfl rfl ?_
                             exact by
                              refine bs_lit (k := 10) rfl rfl fun z98 hz98 => ?_
                              refine Ev.step (j := 260) (s' := ([some (.ref 69), some (.int z32), some (.int k35), some (.int k69)], [.ref 69, .int z98, .ref 69], (0, 0), hp70)) rfl rfl ?_
                              refine bs_getI 11 rfl rfl rfl Hhp70 (bs_R.uq Hhp70 (g := 11) rfl) (by decide) rfl fun z99 hz99 lz99 gz99 => ?_
                              have e100 : z99.toInt = y58 := Option.some.inj (hz99.symm.trans i74)
                              refine bs_mul (10) rfl (Or.inl hz98) (by rw [hz98]; omega) (by rw [hz98]; omega) fun z101 hz101 => ?_
                              rw [hz98] at hz101
                              refine Ev.step (j := 265) (s' := ([some (.ref 69), some (.int z32), some (.int k35), some (.int k69)], [.ref 69, .int z101, .ref 69], (0, 0), hp70)) rfl rfl ?_
                              refine pk_ev rfl Hhp70 rfl fun z102 pz102 oz102 mz102 => ?_
                              replace mz102 := mz102 _ i72
                              have e103 : z102.toInt = z59.toInt := pz102.same i75
                              refine (show Ev _ 268 ([some (.ref 69), some (.int z32), some (.int k35), some (.int k69)], [.int z102, .int z101, .ref 69], (0, 0), hp70) _ from ?_)
                              first | (refine bs_add rfl (by omega) (by omega) fun z104 hz104 => ?_) | (refine bs_any rfl fun z104 => ?_)
                              have rz104 := n_range z104
                              refine bs_lit (k := 48) rfl rfl fun z105 hz105 => ?_
                              first | (refine bs_sub rfl (by omega) (by omega) fun z106 hz106 => ?_) | (refine bs_any rfl fun z106 => ?_)
                              have rz106 := n_range z106
                              refine bs_putI (W := [(11, 14, 14)]) (g := 11) rfl rfl Hhp70 (bs_R.uq Hhp70 (g := 11) rfl) (by decide) rfl rfl rfl rfl (Or.inl rfl) (by omega) (by omega) fun hp107 Hhp107 fhp107 rhp107 ehp107 qhp107 nhp107 => ?_
                              have Fhp107 := sf_fr_tr Fhp70 (sf_fr_wider (W := [(999, 0, 0), (11, 4, 4), (11, 11, 14), (11, 17, 17)]) rfl fhp107)
                              have h108 : sf_rd hp107 69 4 = some y56 := (ehp107 _ _ (Or.inr (by omega))).trans i72
                              have h109 : sf_rd hp107 69 13 = some y57 := (ehp107 _ _ (Or.inr (by omega))).trans i73
                              refine Ev.step (j := 276) (s' := ([some (.ref 69), some (.int z32), some (.int k35), some (.int k69)], [.ref 69], (0, 0), hp107)) rfl rfl ?_
                              exact by
                               refine Ev.step (j := 277) (s' := ([some (.ref 69), some (.int z32), some (.int k35), some (.int k69)], [.ref 69, .ref 69], (0, 0), hp107)) rfl rfl ?_
                               refine bs_getI 11 rfl rfl rfl Hhp107 (bs_R.uq Hhp107 (g := 11) rfl) (by decide) rfl fun z110 hz110 lz110 gz110 => ?_
                               have e111 : z110.toInt = y57 := Option.some.inj (hz110.symm.trans h109)
                               refine bs_lit (k := 1) rfl rfl fun z112 hz112 => ?_
                               first | (refine bs_add rfl (by omega) (by omega) fun z113 hz113 => ?_) | (refine bs_any rfl fun z113 => ?_)
                               have rz113 := n_range z113
                               refine bs_putI (W := [(11, 13, 13)]) (g := 11) rfl rfl Hhp107 (bs_R.uq Hhp107 (g := 11) rfl) (by decide) rfl rfl rfl rfl (Or.inl rfl) (by omega) (by omega) fun hp114 Hhp114 fhp114 rhp114 ehp114 qhp114 nhp114 => ?_
                               have Fhp114 := sf_fr_tr Fhp107 (sf_fr_wider (W := [(999, 0, 0), (11, 4, 4), (11, 11, 14), (11, 17, 17)]) rfl fhp114)
                               have h115 : sf_rd hp114 69 4 = some y56 := (ehp114 _ _ (Or.inr (by omega))).trans h108
                               have h116 : sf_rd hp114 69 14 = some z106.toInt := (ehp114 _ _ (Or.inr (by omega))).trans rhp107
                               refine Ev.step (j := 286) (s' := ([some (.ref 69), some (.int z32), some (.int k35), some (.int k69)], [.ref 69], (0, 0), hp114)) rfl rfl ?_
                               exact by
                                refine Ev.step (j := 287) (s' := ([some (.ref 69), some (.int z32), some (.int k35), some (.int k69)], [.ref 69, .ref 69], (0, 0), hp114)) rfl rfl ?_
                                refine bs_getI 11 rfl rfl rfl Hhp114 (bs_R.uq Hhp114 (g := 11) rfl) (by decide) rfl fun z117 hz117 lz117 gz117 => ?_
                                have e118 : z117.toInt = y56 := Option.some.inj (hz117.symm.trans h115)
                                refine bs_lit (k := 1) rfl rfl fun z119 hz119 => ?_
                                first | (refine bs_add rfl (by omega) (by omega) fun z120 hz120 => ?_) | (refine bs_any rfl fun z120 => ?_)
                                have rz120 := n_range z120
                                refine bs_putI (W := [(11, 4, 4), (999, 0, 0)]) (g := 11) rfl rfl Hhp114 (bs_R.uq Hhp114 (g := 11) rfl) (by decide) rfl rfl rfl rfl (Or.inl rfl) (by omega) (by omega) fun hp121 Hhp121 fhp121 rhp121 ehp121 qhp121 nhp121 => ?_
                                have Fhp121 := sf_fr_tr Fhp114 (sf_fr_wider (W := [(999, 0, 0), (11, 4, 4), (11, 11, 14), (11, 17, 17)]) rfl fhp121)
                                have h122 : sf_rd hp121 69 14 = some z106.toInt := (ehp121 _ _ (Or.inr (by omega))).trans h116
                                have h123 : sf_rd hp121 69 13 = some z113.toInt := (ehp121 _ _ (Or.inr (by omega))).trans rhp114
                                refine Ev.step (j := 181) (s' := ([some (.ref 69), some (.int z32), some (.int k35), some (.int k69)], [], (0, 0), hp121)) rfl rfl ?_
                                have INV : ∃ v c n : Int, sf_rd hp121 69 4 = some v ∧ sf_rd hp121 69 13 = some c ∧ sf_rd hp121 69 14 = some n ∧ P0 ≤ v ∧ v ≤ 940 ∧ 0 ≤ c ∧ c ≤ v ∧ 0 ≤ n ∧ n ≤ 8214 ∧ (c = 0 → n ≤ 0) ∧ (c = 1 → n ≤ 74) ∧ (c = 2 → n ≤ 814) ∧ (P0 + 1 ≤ v ∨ pkR hp121 z32) := ⟨_, _, _, rhp121, h123, h122, by omega, by omega, by omega, by omega, by omega, by omega, by omega, by omega, by omega, Or.inl (by omega)⟩
                                have MS : (940 - (sf_rd hp121 69 4).getD 0).toNat < (940 - (sf_rd hp52 69 4).getD 0).toNat := by
                                  rw [rhp121, hy56]
                                  show (940 - z120.toInt).toNat < (940 - y56).toNat
                                  omega
                                refine ih54 (k69, hp121, t71) ⟨Hhp121, Fhp121, (by exact INV)⟩ ?_
                                show (940 - (sf_rd hp121 69 4).getD 0).toNat < (940 - (sf_rd hp52 69 4).getD 0).toNat
                                exact MS
                         · skip
                           refine Ev.step (j := 232) (s' := ([some (.ref 69), some (.int z32), some (.int k35), some (.int k69)], [.ref 69], (0, 0), hp70)) rfl rfl ?_
                           exact by
                            refine Ev.step (j := 233) (s' := ([some (.ref 69), some (.int z32), some (.int k35), some (.int k69)], [.ref 69, .ref 69], (0, 0), hp70)) rfl rfl ?_
                            refine bs_getL (g := 11) rfl rfl Hhp70 (bs_R.uq Hhp70 (g := 11) rfl) (by decide) rfl fun w124 => ?_
                            refine bs_lit (k := 8) rfl rfl fun z125 hz125 => ?_
                            refine bs_L rfl rfl fun w126 => ?_
                            refine Ev.step (j := 240) (s' := ([some (.ref 69), some (.int z32), some (.int k35), some (.int k69)], [.ref 69, .long w126, .ref 69], (0, 0), hp70)) rfl rfl ?_
                            refine pk_ev rfl Hhp70 rfl fun z127 pz127 oz127 mz127 => ?_
                            replace mz127 := mz127 _ i72
                            have e128 : z127.toInt = z59.toInt := pz127.same i75
                            refine (show Ev _ 243 ([some (.ref 69), some (.int z32), some (.int k35), some (.int k69)], [.int z127, .long w126, .ref 69], (0, 0), hp70) _ from ?_)
                            exact by
                             refine bs_L rfl rfl fun w129 => ?_
                             refine bs_L rfl rfl fun w130 => ?_
                             refine bs_putL (W := [(11, 17, 17)]) (g := 11) rfl rfl Hhp70 (bs_R.uq Hhp70 (g := 11) rfl) (by decide) rfl rfl rfl rfl fun hp131 Hhp131 fhp131 ehp131 qhp131 => ?_
                             have Fhp131 := sf_fr_tr Fhp70 (sf_fr_wider (W := [(999, 0, 0), (11, 4, 4), (11, 11, 14), (11, 17, 17)]) rfl fhp131)
                             have h132 : sf_rd hp131 69 4 = some y56 := (ehp131 _ _).trans i72
                             have h133 : sf_rd hp131 69 13 = some y57 := (ehp131 _ _).trans i73
                             have h134 : sf_rd hp131 69 14 = some y58 := (ehp131 _ _).trans i74
                             refine Ev.step (j := 249) (s' := ([some (.ref 69), some (.int z32), some (.int k35), some (.int k69)], [.ref 69], (0, 0), hp131)) rfl rfl ?_
                             exact by
                              refine bs_getI 11 rfl rfl rfl Hhp131 (bs_R.uq Hhp131 (g := 11) rfl) (by decide) rfl fun z135 hz135 lz135 gz135 => ?_
                              have e136 : z135.toInt = y57 := Option.some.inj (hz135.symm.trans h133)
                              refine bs_lit (k := 3) rfl rfl fun z137 hz137 => ?_
                              refine bs_ge rfl (fun c138 => ?_) (fun c138 => ?_)
                              · skip
                                refine Ev.step (j := 276) (s' := ([some (.ref 69), some (.int z32), some (.int k35), some (.int k69)], [.ref 69], (0, 0), hp131)) rfl rfl ?_
                                refine Ev.step (j := 277) (s' := ([some (.ref 69), some (.int z32), some (.int k35), some (.int k69)], [.ref 69, .ref 69], (0, 0), hp131)) rfl rfl ?_
                                refine bs_getI 11 rfl rfl rfl Hhp131 (bs_R.uq Hhp131 (g := 11) rfl) (by decide) rfl fun z139 hz139 lz139 gz139 => ?_
                                have e140 : z139.toInt = y57 := Option.some.inj (hz139.symm.trans h133)
                                refine bs_lit (k := 1) rfl rfl fun z141 hz141 => ?_
                                first | (refine bs_add rfl (by omega) (by omega) fun z142 hz142 => ?_) | (refine bs_any rfl fun z142 => ?_)
                                have rz142 := n_range z142
                                refine bs_putI (W := [(11, 13, 13)]) (g := 11) rfl rfl Hhp131 (bs_R.uq Hhp131 (g := 11) rfl) (by decide) rfl rfl rfl rfl (Or.inl rfl) (by omega) (by omega) fun hp143 Hhp143 fhp143 rhp143 ehp143 qhp143 nhp143 => ?_
                                have Fhp143 := sf_fr_tr Fhp131 (sf_fr_wider (W := [(999, 0, 0), (11, 4, 4), (11, 11, 14), (11, 17, 17)]) rfl fhp143)
                                have h144 : sf_rd hp143 69 4 = some y56 := (ehp143 _ _ (Or.inr (by omega))).trans h132
                                have h145 : sf_rd hp143 69 14 = some y58 := (ehp143 _ _ (Or.inr (by omega))).trans h134
                                refine Ev.step (j := 286) (s' := ([some (.ref 69), some (.int z32), some (.int k35), some (.int k69)], [.ref 69], (0, 0), hp143)) rfl rfl ?_
                                exact by
                                 refine Ev.step (j := 287) (s' := ([some (.ref 69), some (.int z32), some (.int k35), some (.int k69)], [.ref 69, .ref 69], (0, 0), hp143)) rfl rfl ?_
                                 refine bs_getI 11 rfl rfl rfl Hhp143 (bs_R.uq Hhp143 (g := 11) rfl) (by decide) rfl fun z146 hz146 lz146 gz146 => ?_
                                 have e147 : z146.toInt = y56 := Option.some.inj (hz146.symm.trans h144)
                                 refine bs_lit (k := 1) rfl rfl fun z148 hz148 => ?_
                                 first | (refine bs_add rfl (by omega) (by omega) fun z149 hz149 => ?_) | (refine bs_any rfl fun z149 => ?_)
                                 have rz149 := n_range z149
                                 refine bs_putI (W := [(11, 4, 4), (999, 0, 0)]) (g := 11) rfl rfl Hhp143 (bs_R.uq Hhp143 (g := 11) rfl) (by decide) rfl rfl rfl rfl (Or.inl rfl) (by omega) (by omega) fun hp150 Hhp150 fhp150 rhp150 ehp150 qhp150 nhp150 => ?_
                                 have Fhp150 := sf_fr_tr Fhp143 (sf_fr_wider (W := [(999, 0, 0), (11, 4, 4), (11, 11, 14), (11, 17, 17)]) rfl fhp150)
                                 have h151 : sf_rd hp150 69 14 = some y58 := (ehp150 _ _ (Or.inr (by omega))).trans h145
                                 have h152 : sf_rd hp150 69 13 = some z142.toInt := (ehp150 _ _ (Or.inr (by omega))).trans rhp143
                                 refine Ev.step (j := 181) (s' := ([some (.ref 69), some (.int z32), some (.int k35), some (.int k69)], [], (0, 0), hp150)) rfl rfl ?_
                                 have INV : ∃ v c n : Int, sf_rd hp150 69 4 = some v ∧ sf_rd hp150 69 13 = some c ∧ sf_rd hp150 69 14 = some n ∧ P0 ≤ v ∧ v ≤ 940 ∧ 0 ≤ c ∧ c ≤ v ∧ 0 ≤ n ∧ n ≤ 8214 ∧ (c = 0 → n ≤ 0) ∧ (c = 1 → n ≤ 74) ∧ (c = 2 → n ≤ 814) ∧ (P0 + 1 ≤ v ∨ pkR hp150 z32) := ⟨_, _, _, rhp150, h152, h151, by omega, by omega, by omega, by omega, by omega, by omega, by omega, by omega, by omega, Or.inl (by omega)⟩
                                 have MS : (940 - (sf_rd hp150 69 4).getD 0).toNat < (940 - (sf_rd hp52 69 4).getD 0).toNat := by
                                   rw [rhp150, hy56]
                                   show (940 - z149.toInt).toNat < (940 - y56).toNat
                                   omega
                                 refine ih54 (k69, hp150, t71) ⟨Hhp150, Fhp150, (by exact INV)⟩ ?_
                                 show (940 - (sf_rd hp150 69 4).getD 0).toNat < (940 - (sf_rd hp52 69 4).getD 0).toNat
                                 exact MS
                              · skip
                                refine Ev.step (j := 257) (s' := ([some (.ref 69), some (.int z32), some (.int k35), some (.int k69)], [.ref 69], (0, 0), hp131)) rfl rfl ?_
                                exact by
                                 refine bs_lit (k := 10) rfl rfl fun z153 hz153 => ?_
                                 refine Ev.step (j := 260) (s' := ([some (.ref 69), some (.int z32), some (.int k35), some (.int k69)], [.ref 69, .int z153, .ref 69], (0, 0), hp131)) rfl rfl ?_
                                 refine bs_getI 11 rfl rfl rfl Hhp131 (bs_R.uq Hhp131 (g := 11) rfl) (by decide) rfl fun z154 hz154 lz154 gz154 => ?_
                                 have e155 : z154.toInt = y58 := Option.some.inj (hz154.symm.trans h134)
                                 refine bs_mul (10) rfl (Or.inl hz153) (by rw [hz153]; omega) (by rw [hz153]; omega) fun z156 hz156 => ?_
                                 rw [hz153] at hz156
                                 refine Ev.step (j := 265) (s' := ([some (.ref 69), some (.int z32), some (.int k35), some (.int k69)], [.ref 69, .int z156, .ref 69], (0, 0), hp131)) rfl rfl ?_
                                 refine pk_ev rfl Hhp131 rfl fun z157 pz157 oz157 mz157 => ?_
                                 replace mz157 := mz157 _ h132
                                 have P158 := pkR.mv pz127 (ehp131 _ _) (ehp131 _ _) (fun q => ehp131 _ _)
                                 have e159 : z157.toInt = z127.toInt := pz157.same P158
                                 refine (show Ev _ 268 ([some (.ref 69), some (.int z32), some (.int k35), some (.int k69)], [.int z157, .int z156, .ref 69], (0, 0), hp131) _ from ?_)
                                 first | (refine bs_add rfl (by omega) (by omega) fun z160 hz160 => ?_) | (refine bs_any rfl fun z160 => ?_)
                                 have rz160 := n_range z160
                                 refine bs_lit (k := 48) rfl rfl fun z161 hz161 => ?_
                                 first | (refine bs_sub rfl (by omega) (by omega) fun z162 hz162 => ?_) | (refine bs_any rfl fun z162 => ?_)
                                 have rz162 := n_range z162
                                 refine bs_putI (W := [(11, 14, 14)]) (g := 11) rfl rfl Hhp131 (bs_R.uq Hhp131 (g := 11) rfl) (by decide) rfl rfl rfl rfl (Or.inl rfl) (by omega) (by omega) fun hp163 Hhp163 fhp163 rhp163 ehp163 qhp163 nhp163 => ?_
                                 have Fhp163 := sf_fr_tr Fhp131 (sf_fr_wider (W := [(999, 0, 0), (11, 4, 4), (11, 11, 14), (11, 17, 17)]) rfl fhp163)
                                 have h164 : sf_rd hp163 69 4 = some y56 := (ehp163 _ _ (Or.inr (by omega))).trans h132
                                 have h165 : sf_rd hp163 69 13 = some y57 := (ehp163 _ _ (Or.inr (by omega))).trans h133
                                 refine Ev.step (j := 276) (s' := ([some (.ref 69), some (.int z32), some (.int k35), some (.int k69)], [.ref 69], (0, 0), hp163)) rfl rfl ?_
                                 exact by
                                  refine Ev.step (j := 277) (s' := ([some (.ref 69), some (.int z32), some (.int k35), some (.int k69)], [.ref 69, .ref 69], (0, 0), hp163)) rfl rfl ?_
                                  refine bs_getI 11 rfl rfl rfl Hhp163 (bs_R.uq Hhp163 (g := 11) rfl) (by decide) rfl fun z166 hz166 lz166 gz166 => ?_
                                  have e167 : z166.toInt = y57 := Option.some.inj (hz166.symm.trans h165)
                                  refine bs_lit (k := 1) rfl rfl fun z168 hz168 => ?_
                                  first | (refine bs_add rfl (by omega) (by omega) fun z169 hz169 => ?_) | (refine bs_any rfl fun z169 => ?_)
                                  have rz169 := n_range z169
                                  refine bs_putI (W := [(11, 13, 13)]) (g := 11) rfl rfl Hhp163 (bs_R.uq Hhp163 (g := 11) rfl) (by decide) rfl rfl rfl rfl (Or.inl rfl) (by omega) (by omega) fun hp170 Hhp170 fhp170 rhp170 ehp170 qhp170 nhp170 => ?_
                                  have Fhp170 := sf_fr_tr Fhp163 (sf_fr_wider (W := [(999, 0, 0), (11, 4, 4), (11, 11, 14), (11, 17, 17)]) rfl fhp170)
                                  have h171 : sf_rd hp170 69 4 = some y56 := (ehp170 _ _ (Or.inr (by omega))).trans h164
                                  have h172 : sf_rd hp170 69 14 = some z162.toInt := (ehp170 _ _ (Or.inr (by omega))).trans rhp163
                                  refine Ev.step (j := 286) (s' := ([some (.ref 69), some (.int z32), some (.int k35), some (.int k69)], [.ref 69], (0, 0), hp170)) rfl rfl ?_
                                  exact by
                                   refine Ev.step (j := 287) (s' := ([some (.ref 69), some (.int z32), some (.int k35), some (.int k69)], [.ref 69, .ref 69], (0, 0), hp170)) rfl rfl ?_
                                   refine bs_getI 11 rfl rfl rfl Hhp170 (bs_R.uq Hhp170 (g := 11) rfl) (by decide) rfl fun z173 hz173 lz173 gz173 => ?_
                                   have e174 : z173.toInt = y56 := Option.some.inj (hz173.symm.trans h171)
                                   refine bs_lit (k := 1) rfl rfl fun z175 hz175 => ?_
                                   first | (refine bs_add rfl (by omega) (by omega) fun z176 hz176 => ?_) | (refine bs_any rfl fun z176 => ?_)
                                   have rz176 := n_range z176
                                   refine bs_putI (W := [(11, 4, 4), (999, 0, 0)]) (g := 11) rfl rfl Hhp170 (bs_R.uq Hhp170 (g := 11) rfl) (by decide) rfl rfl rfl rfl (Or.inl rfl) (by omega) (by omega) fun hp177 Hhp177 fhp177 rhp177 ehp177 qhp177 nhp177 => ?_
                                   have Fhp177 := sf_fr_tr Fhp170 (sf_fr_wider (W := [(999, 0, 0), (11, 4, 4), (11, 11, 14), (11, 17, 17)]) rfl fhp177)
                                   have h178 : sf_rd hp177 69 14 = some z162.toInt := (ehp177 _ _ (Or.inr (by omega))).trans h172
                                   have h179 : sf_rd hp177 69 13 = some z169.toInt := (ehp177 _ _ (Or.inr (by omega))).trans rhp170
                                   refine Ev.step (j := 181) (s' := ([some (.ref 69), some (.int z32), some (.int k35), some (.int k69)], [], (0, 0), hp177)) rfl rfl ?_
                                   have INV : ∃ v c n : Int, sf_rd hp177 69 4 = some v ∧ sf_rd hp177 69 13 = some c ∧ sf_rd hp177 69 14 = some n ∧ P0 ≤ v ∧ v ≤ 940 ∧ 0 ≤ c ∧ c ≤ v ∧ 0 ≤ n ∧ n ≤ 8214 ∧ (c = 0 → n ≤ 0) ∧ (c = 1 → n ≤ 74) ∧ (c = 2 → n ≤ 814) ∧ (P0 + 1 ≤ v ∨ pkR hp177 z32) := ⟨_, _, _, rhp177, h179, h178, by omega, by omega, by omega, by omega, by omega, by omega, by omega, by omega, by omega, Or.inl (by omega)⟩
                                   have MS : (940 - (sf_rd hp177 69 4).getD 0).toNat < (940 - (sf_rd hp52 69 4).getD 0).toNat := by
                                     rw [rhp177, hy56]
                                     show (940 - z176.toInt).toNat < (940 - y56).toNat
                                     omega
                                   refine ih54 (k69, hp177, t71) ⟨Hhp177, Fhp177, (by exact INV)⟩ ?_
                                   show (940 - (sf_rd hp177 69 4).getD 0).toNat < (940 - (sf_rd hp52 69 4).getD 0).toNat
                                   exact MS
                      refine Ev.step (j := 202) (s' := ([some (.ref 69), some (.int z32), some (.int k35), some (.int k51)], [.int k51], (0, 0), hp61)) rfl rfl ?_
                      exact by
                       refine bs_ifeq rfl (fun c180 => ?_) (fun c180 => ?_)
                       · skip
                         have c181 : k51.toInt = 0 := by omega
                         refine bs_lit (k := 0) rfl rfl fun z182 hz182 => ?_
                         refine Ev.step (j := 222) (s' := ([some (.ref 69), some (.int z32), some (.int k35), some (.int z182)], [], (0, 0), hp61)) rfl rfl ?_
                         exact cut68 z182 hp61 t62 Hhp61 Fhp61 i63 i64 i65 (by first | omega | assumption)
                       · skip
                         refine Ev.step (j := 206) (s' := ([some (.ref 69), some (.int z32), some (.int k35), some (.int k51)], [.ref 69], (0, 0), hp61)) rfl rfl ?_
                         refine pk_ev rfl Hhp61 rfl fun z183 pz183 oz183 mz183 => ?_
                         replace mz183 := mz183 _ i63
                         have e184 : z183.toInt = z59.toInt := pz183.same i67
                         refine (show Ev _ 209 ([some (.ref 69), some (.int z32), some (.int k35), some (.int k51)], [.int z183], (0, 0), hp61) _ from ?_)
                         exact by
                          refine Ev.inlS (L := L_X11_isSmall) (nL := 1) rfl rfl (Nat.le_of_ble_eq_true rfl) ?_
                          generalize hQ185 : (fun (o : ab_O) => Ev _ _ _ _) = Q185
                          refine (show Ev (ab_T L_X11_isSmall) 0 ([some (.int z183)], [], (0, 0), hp61) Q185 from ?_)
                          refine Ev.step (j := 1) (s' := ([some (.int z183)], [.int z183], (0, 0), hp61)) rfl rfl ?_
                          refine bs_lit (k := 97) rfl rfl fun z186 hz186 => ?_
                          refine bs_lt rfl (fun c187 => ?_) (fun c187 => ?_)
                          · skip
                            refine bs_lit (k := 0) rfl rfl fun z188 hz188 => ?_
                            refine bs_zret rfl rfl (by omega) (by omega) ?_
                            rw [← hQ185]
                            refine (show Ev _ 212 ([some (.ref 69), some (.int z32), some (.int k35), some (.int k51)], [.int z188], (0, 0), hp61) _ from ?_)
                            exact by
                             refine Ev.step (j := 213) (s' := ([some (.ref 69), some (.int z32), some (.int k35), some (.int k51)], [.int k35, .int z188], (0, 0), hp61)) rfl rfl ?_
                             refine bs_ne rfl (fun c189 => ?_) (fun c189 => ?_)
                             · skip
                               refine bs_lit (k := 0) rfl rfl fun z190 hz190 => ?_
                               refine Ev.step (j := 222) (s' := ([some (.ref 69), some (.int z32), some (.int k35), some (.int z190)], [], (0, 0), hp61)) rfl rfl ?_
                               exact cut68 z190 hp61 t62 Hhp61 Fhp61 i63 i64 i65 (by first | omega | assumption)
                             · skip
                               refine bs_lit (k := 1) rfl rfl fun z191 hz191 => ?_
                               refine Ev.step (j := 221) (s' := ([some (.ref 69), some (.int z32), some (.int k35), some (.int k51)], [.int z191], (0, 0), hp61)) rfl rfl ?_
                               refine Ev.step (j := 222) (s' := ([some (.ref 69), some (.int z32), some (.int k35), some (.int z191)], [], (0, 0), hp61)) rfl rfl ?_
                               exact cut68 z191 hp61 t62 Hhp61 Fhp61 i63 i64 i65 (by first | omega | assumption)
                          · skip
                            refine Ev.step (j := 7) (s' := ([some (.int z183)], [.int z183], (0, 0), hp61)) rfl rfl ?_
                            exact by
                             refine bs_lit (k := 122) rfl rfl fun z192 hz192 => ?_
                             refine bs_gt rfl (fun c193 => ?_) (fun c193 => ?_)
                             · skip
                               refine bs_lit (k := 0) rfl rfl fun z194 hz194 => ?_
                               refine bs_zret rfl rfl (by omega) (by omega) ?_
                               rw [← hQ185]
                               refine (show Ev _ 212 ([some (.ref 69), some (.int z32), some (.int k35), some (.int k51)], [.int z194], (0, 0), hp61) _ from ?_)
                               refine Ev.step (j := 213) (s' := ([some (.ref 69), some (.int z32), some (.int k35), some (.int k51)], [.int k35, .int z194], (0, 0), hp61)) rfl rfl ?_
                               refine bs_ne rfl (fun c195 => ?_) (fun c195 => ?_)
                               · skip
                                 refine bs_lit (k := 0) rfl rfl fun z196 hz196 => ?_
                                 exact by
                                  refine Ev.step (j := 222) (s' := ([some (.ref 69), some (.int z32), some (.int k35), some (.int z196)], [], (0, 0), hp61)) rfl rfl ?_
                                  exact cut68 z196 hp61 t62 Hhp61 Fhp61 i63 i64 i65 (by first | omega | assumption)
                               · skip
                                 refine bs_lit (k := 1) rfl rfl fun z197 hz197 => ?_
                                 exact by
                                  refine Ev.step (j := 221) (s' := ([some (.ref 69), some (.int z32), some (.int k35), some (.int k51)], [.int z197], (0, 0), hp61)) rfl rfl ?_
                                  refine Ev.step (j := 222) (s' := ([some (.ref 69), some (.int z32), some (.int k35), some (.int z197)], [], (0, 0), hp61)) rfl rfl ?_
                                  exact cut68 z197 hp61 t62 Hhp61 Fhp61 i63 i64 i65 (by first | omega | assumption)
                             · skip
                               refine bs_lit (k := 1) rfl rfl fun z198 hz198 => ?_
                               exact by
                                refine Ev.step (j := 17) (s' := ([some (.int z183)], [.int z198], (0, 0), hp61)) rfl rfl ?_
                                refine bs_zret rfl rfl (by omega) (by omega) ?_
                                rw [← hQ185]
                                refine (show Ev _ 212 ([some (.ref 69), some (.int z32), some (.int k35), some (.int k51)], [.int z198], (0, 0), hp61) _ from ?_)
                                refine Ev.step (j := 213) (s' := ([some (.ref 69), some (.int z32), some (.int k35), some (.int k51)], [.int k35, .int z198], (0, 0), hp61)) rfl rfl ?_
                                refine bs_ne rfl (fun c199 => ?_) (fun c199 => ?_)
                                · skip
                                  refine bs_lit (k := 0) rfl rfl fun z200 hz200 => ?_
                                  refine Ev.step (j := 222) (s' := ([some (.ref 69), some (.int z32), some (.int k35), some (.int z200)], [], (0, 0), hp61)) rfl rfl ?_
                                  exact cut68 z200 hp61 t62 Hhp61 Fhp61 i63 i64 i65 (by first | omega | assumption)
                                · skip
                                  refine bs_lit (k := 1) rfl rfl fun z201 hz201 => ?_
                                  exact by
                                   refine Ev.step (j := 221) (s' := ([some (.ref 69), some (.int z32), some (.int k35), some (.int k51)], [.int z201], (0, 0), hp61)) rfl rfl ?_
                                   refine Ev.step (j := 222) (s' := ([some (.ref 69), some (.int z32), some (.int k35), some (.int z201)], [], (0, 0), hp61)) rfl rfl ?_
                                   exact cut68 z201 hp61 t62 Hhp61 Fhp61 i63 i64 i65 (by first | omega | assumption)
                    refine Ev.inlS (L := L_X11_isSmall) (nL := 1) rfl rfl (Nat.le_of_ble_eq_true rfl) ?_
                    generalize hQ202 : (fun (o : ab_O) => Ev _ _ _ _) = Q202
                    refine (show Ev (ab_T L_X11_isSmall) 0 ([some (.int z59)], [], (0, 0), hp52) Q202 from ?_)
                    exact by
                     refine Ev.step (j := 1) (s' := ([some (.int z59)], [.int z59], (0, 0), hp52)) rfl rfl ?_
                     refine bs_lit (k := 97) rfl rfl fun z203 hz203 => ?_
                     refine bs_lt rfl (fun c204 => ?_) (fun c204 => ?_)
                     · skip
                       refine bs_lit (k := 0) rfl rfl fun z205 hz205 => ?_
                       refine bs_zret rfl rfl (by omega) (by omega) ?_
                       rw [← hQ202]
                       refine (show Ev _ 188 ([some (.ref 69), some (.int z32), some (.int k35), some (.int k51)], [.int z205], (0, 0), hp52) _ from ?_)
                       refine bs_ifne rfl (fun c206 => ?_) (fun c206 => ?_)
                       · exfalso; omega
                       · skip
                         refine Ev.step (j := 192) (s' := ([some (.ref 69), some (.int z32), some (.int k35), some (.int k51)], [.ref 69], (0, 0), hp52)) rfl rfl ?_
                         exact by
                          refine pk_ev rfl Hhp52 rfl fun z207 pz207 oz207 mz207 => ?_
                          replace mz207 := mz207 _ hy56
                          have e208 : z207.toInt = z59.toInt := pz207.same pz59
                          refine (show Ev _ 195 ([some (.ref 69), some (.int z32), some (.int k35), some (.int k51)], [.int z207], (0, 0), hp52) _ from ?_)
                          refine Ev.inlS (L := L_X11_isDigit) (nL := 1) rfl rfl (Nat.le_of_ble_eq_true rfl) ?_
                          generalize hQ209 : (fun (o : ab_O) => Ev _ _ _ _) = Q209
                          refine (show Ev (ab_T L_X11_isDigit) 0 ([some (.int z207)], [], (0, 0), hp52) Q209 from ?_)
                          refine Ev.step (j := 1) (s' := ([some (.int z207)], [.int z207], (0, 0), hp52)) rfl rfl ?_
                          refine bs_lit (k := 48) rfl rfl fun z210 hz210 => ?_
                          exact by
                           refine bs_lt rfl (fun c211 => ?_) (fun c211 => ?_)
                           · skip
                             refine bs_lit (k := 0) rfl rfl fun z212 hz212 => ?_
                             refine bs_zret rfl rfl (by omega) (by omega) ?_
                             rw [← hQ209]
                             refine (show Ev _ 198 ([some (.ref 69), some (.int z32), some (.int k35), some (.int k51)], [.int z212], (0, 0), hp52) _ from ?_)
                             refine bs_ifeq rfl (fun c213 => ?_) (fun c213 => ?_)
                             · skip
                               have G : P0 + 1 ≤ y56 := by
                                 rcases jy56 with g | g
                                 · exact g
                                 · have e := pz207.same g
                                   omega
                               refine Ev.step (j := 299) (s' := ([some (.ref 69), some (.int z32), some (.int k35), some (.int k51)], [.ref 69], (0, 0), hp52)) rfl rfl ?_
                               refine Ev.step (j := 300) (s' := ([some (.ref 69), some (.int z32), some (.int k35), some (.int k51)], [.int k51, .ref 69], (0, 0), hp52)) rfl rfl ?_
                               exact by
                                refine bs_ifeq rfl (fun c214 => ?_) (fun c214 => ?_)
                                · skip
                                  have c215 : k51.toInt = 0 := by omega
                                  refine bs_lit (k := 4) rfl rfl fun z216 hz216 => ?_
                                  refine Ev.step (j := 333) (s' := ([some (.ref 69), some (.int z32), some (.int k35), some (.int k51)], [.int z216, .ref 69], (0, 0), hp52)) rfl rfl ?_
                                  refine bs_putI (W := [(11, 11, 11), (999, 0, 0)]) (g := 11) rfl rfl Hhp52 (bs_R.uq Hhp52 (g := 11) rfl) (by decide) rfl rfl rfl rfl (Or.inl rfl) (by omega) (by omega) fun hp217 Hhp217 fhp217 rhp217 ehp217 qhp217 nhp217 => ?_
                                  have Fhp217 := sf_fr_tr Fhp52 (sf_fr_wider (W := [(999, 0, 0), (11, 4, 4), (11, 11, 14), (11, 17, 17)]) rfl fhp217)
                                  have h218 : sf_rd hp217 69 4 = some y56 := (ehp217 _ _ (Or.inr (by omega))).trans hy56
                                  have h219 : sf_rd hp217 69 13 = some y57 := (ehp217 _ _ (Or.inr (by omega))).trans hy57
                                  have h220 : sf_rd hp217 69 14 = some y58 := (ehp217 _ _ (Or.inr (by omega))).trans hy58
                                  have A1 := psi_ge h218 rhp217
                                  have A2 := psi_ge Q4 Q11
                                  have PS : sf_psi hp217 ≤ sf_psi hp := by omega
                                  exact Ev.ret rfl rfl (by rw [hQ]; exact ⟨t53, Hhp217, (fr_unmark H Fhp217 PS), bs_anU, sf_S_nil, (fun v hv => by have e : v = P0 := Option.some.inj (hv.symm.trans Q4); show sf_psi hp217 ≤ 2 * (940 - v); rw [e]; omega)⟩)
                                · skip
                                  refine Ev.step (j := 304) (s' := ([some (.ref 69), some (.int z32), some (.int k35), some (.int k51)], [.ref 69, .ref 69], (0, 0), hp52)) rfl rfl ?_
                                  exact by
                                   refine bs_getI 11 rfl rfl rfl Hhp52 (bs_R.uq Hhp52 (g := 11) rfl) (by decide) rfl fun z221 hz221 lz221 gz221 => ?_
                                   have e222 : z221.toInt = y57 := Option.some.inj (hz221.symm.trans hy57)
                                   refine Ev.step (j := 308) (s' := ([some (.ref 69), some (.int z32), some (.int k35), some (.int k51)], [.int k35, .int z221, .ref 69], (0, 0), hp52)) rfl rfl ?_
                                   refine bs_ifeq rfl (fun c223 => ?_) (fun c223 => ?_)
                                   · skip
                                     have c224 : k35.toInt = 0 := by omega
                                     refine bs_lit (k := 3) rfl rfl fun z225 hz225 => ?_
                                     refine bs_le rfl (fun c226 => ?_) (fun c226 => ?_)
                                     · skip
                                       refine Ev.step (j := 325) (s' := ([some (.ref 69), some (.int z32), some (.int k35), some (.int k51)], [.int k35, .ref 69], (0, 0), hp52)) rfl rfl ?_
                                       exact by
                                        refine bs_ifeq rfl (fun c227 => ?_) (fun c227 => ?_)
                                        · skip
                                          refine bs_lit (k := 2) rfl rfl fun z228 hz228 => ?_
                                          refine bs_putI (W := [(11, 11, 11), (999, 0, 0)]) (g := 11) rfl rfl Hhp52 (bs_R.uq Hhp52 (g := 11) rfl) (by decide) rfl rfl rfl rfl (Or.inl rfl) (by omega) (by omega) fun hp229 Hhp229 fhp229 rhp229 ehp229 qhp229 nhp229 => ?_
                                          have Fhp229 := sf_fr_tr Fhp52 (sf_fr_wider (W := [(999, 0, 0), (11, 4, 4), (11, 11, 14), (11, 17, 17)]) rfl fhp229)
                                          have h230 : sf_rd hp229 69 4 = some y56 := (ehp229 _ _ (Or.inr (by omega))).trans hy56
                                          have h231 : sf_rd hp229 69 13 = some y57 := (ehp229 _ _ (Or.inr (by omega))).trans hy57
                                          have h232 : sf_rd hp229 69 14 = some y58 := (ehp229 _ _ (Or.inr (by omega))).trans hy58
                                          have A1 := psi_ge h230 rhp229
                                          have A2 := psi_ge Q4 Q11
                                          have PS : sf_psi hp229 ≤ sf_psi hp := by omega
                                          exact Ev.ret rfl rfl (by rw [hQ]; exact ⟨t53, Hhp229, (fr_unmark H Fhp229 PS), bs_anU, sf_S_nil, (fun v hv => by have e : v = P0 := Option.some.inj (hv.symm.trans Q4); show sf_psi hp229 ≤ 2 * (940 - v); rw [e]; omega)⟩)
                                        · exfalso; omega
                                     · skip
                                       refine bs_lit (k := 4) rfl rfl fun z233 hz233 => ?_
                                       exact by
                                        refine Ev.step (j := 333) (s' := ([some (.ref 69), some (.int z32), some (.int k35), some (.int k51)], [.int z233, .ref 69], (0, 0), hp52)) rfl rfl ?_
                                        refine bs_putI (W := [(11, 11, 11), (999, 0, 0)]) (g := 11) rfl rfl Hhp52 (bs_R.uq Hhp52 (g := 11) rfl) (by decide) rfl rfl rfl rfl (Or.inl rfl) (by omega) (by omega) fun hp234 Hhp234 fhp234 rhp234 ehp234 qhp234 nhp234 => ?_
                                        have Fhp234 := sf_fr_tr Fhp52 (sf_fr_wider (W := [(999, 0, 0), (11, 4, 4), (11, 11, 14), (11, 17, 17)]) rfl fhp234)
                                        have h235 : sf_rd hp234 69 4 = some y56 := (ehp234 _ _ (Or.inr (by omega))).trans hy56
                                        have h236 : sf_rd hp234 69 13 = some y57 := (ehp234 _ _ (Or.inr (by omega))).trans hy57
                                        have h237 : sf_rd hp234 69 14 = some y58 := (ehp234 _ _ (Or.inr (by omega))).trans hy58
                                        have A1 := psi_ge h235 rhp234
                                        have A2 := psi_ge Q4 Q11
                                        have PS : sf_psi hp234 ≤ sf_psi hp := by omega
                                        exact Ev.ret rfl rfl (by rw [hQ]; exact ⟨t53, Hhp234, (fr_unmark H Fhp234 PS), bs_anU, sf_S_nil, (fun v hv => by have e : v = P0 := Option.some.inj (hv.symm.trans Q4); show sf_psi hp234 ≤ 2 * (940 - v); rw [e]; omega)⟩)
                                   · skip
                                     refine bs_lit (k := 7) rfl rfl fun z238 hz238 => ?_
                                     exact by
                                      refine Ev.step (j := 317) (s' := ([some (.ref 69), some (.int z32), some (.int k35), some (.int k51)], [.int z238, .int z221, .ref 69], (0, 0), hp52)) rfl rfl ?_
                                      refine bs_le rfl (fun c239 => ?_) (fun c239 => ?_)
                                      · skip
                                        refine Ev.step (j := 325) (s' := ([some (.ref 69), some (.int z32), some (.int k35), some (.int k51)], [.int k35, .ref 69], (0, 0), hp52)) rfl rfl ?_
                                        refine bs_ifeq rfl (fun c240 => ?_) (fun c240 => ?_)
                                        · exfalso; omega
                                        · skip
                                          refine bs_lit (k := 1) rfl rfl fun z241 hz241 => ?_
                                          refine Ev.step (j := 333) (s' := ([some (.ref 69), some (.int z32), some (.int k35), some (.int k51)], [.int z241, .ref 69], (0, 0), hp52)) rfl rfl ?_
                                          refine bs_putI (W := [(11, 11, 11), (999, 0, 0)]) (g := 11) rfl rfl Hhp52 (bs_R.uq Hhp52 (g := 11) rfl) (by decide) rfl rfl rfl rfl (Or.inl rfl) (by omega) (by omega) fun hp242 Hhp242 fhp242 rhp242 ehp242 qhp242 nhp242 => ?_
                                          have Fhp242 := sf_fr_tr Fhp52 (sf_fr_wider (W := [(999, 0, 0), (11, 4, 4), (11, 11, 14), (11, 17, 17)]) rfl fhp242)
                                          have h243 : sf_rd hp242 69 4 = some y56 := (ehp242 _ _ (Or.inr (by omega))).trans hy56
                                          have h244 : sf_rd hp242 69 13 = some y57 := (ehp242 _ _ (Or.inr (by omega))).trans hy57
                                          have h245 : sf_rd hp242 69 14 = some y58 := (ehp242 _ _ (Or.inr (by omega))).trans hy58
                                          have A1 := psi_ge h243 rhp242
                                          have A2 := psi_ge Q4 Q11
                                          have PS : sf_psi hp242 ≤ sf_psi hp := by omega
                                          exact Ev.ret rfl rfl (by rw [hQ]; exact ⟨t53, Hhp242, (fr_unmark H Fhp242 PS), bs_anU, sf_S_nil, (fun v hv => by have e : v = P0 := Option.some.inj (hv.symm.trans Q4); show sf_psi hp242 ≤ 2 * (940 - v); rw [e]; omega)⟩)
                                      · skip
                                        refine bs_lit (k := 4) rfl rfl fun z246 hz246 => ?_
                                        exact by
                                         refine Ev.step (j := 333) (s' := ([some (.ref 69), some (.int z32), some (.int k35), some (.int k51)], [.int z246, .ref 69], (0, 0), hp52)) rfl rfl ?_
                                         refine bs_putI (W := [(11, 11, 11), (999, 0, 0)]) (g := 11) rfl rfl Hhp52 (bs_R.uq Hhp52 (g := 11) rfl) (by decide) rfl rfl rfl rfl (Or.inl rfl) (by omega) (by omega) fun hp247 Hhp247 fhp247 rhp247 ehp247 qhp247 nhp247 => ?_
                                         have Fhp247 := sf_fr_tr Fhp52 (sf_fr_wider (W := [(999, 0, 0), (11, 4, 4), (11, 11, 14), (11, 17, 17)]) rfl fhp247)
                                         have h248 : sf_rd hp247 69 4 = some y56 := (ehp247 _ _ (Or.inr (by omega))).trans hy56
                                         have h249 : sf_rd hp247 69 13 = some y57 := (ehp247 _ _ (Or.inr (by omega))).trans hy57
                                         have h250 : sf_rd hp247 69 14 = some y58 := (ehp247 _ _ (Or.inr (by omega))).trans hy58
                                         have A1 := psi_ge h248 rhp247
                                         have A2 := psi_ge Q4 Q11
                                         have PS : sf_psi hp247 ≤ sf_psi hp := by omega
                                         exact Ev.ret rfl rfl (by rw [hQ]; exact ⟨t53, Hhp247, (fr_unmark H Fhp247 PS), bs_anU, sf_S_nil, (fun v hv => by have e : v = P0 := Option.some.inj (hv.symm.trans Q4); show sf_psi hp247 ≤ 2 * (940 - v); rw [e]; omega)⟩)
                             · exfalso; omega
                           · skip
                             refine Ev.step (j := 7) (s' := ([some (.int z207)], [.int z207], (0, 0), hp52)) rfl rfl ?_
                             exact by
                              refine bs_lit (k := 57) rfl rfl fun z251 hz251 => ?_
                              refine bs_gt rfl (fun c252 => ?_) (fun c252 => ?_)
                              · skip
                                refine bs_lit (k := 0) rfl rfl fun z253 hz253 => ?_
                                refine bs_zret rfl rfl (by omega) (by omega) ?_
                                rw [← hQ209]
                                refine (show Ev _ 198 ([some (.ref 69), some (.int z32), some (.int k35), some (.int k51)], [.int z253], (0, 0), hp52) _ from ?_)
                                refine bs_ifeq rfl (fun c254 => ?_) (fun c254 => ?_)
                                · skip
                                  have G : P0 + 1 ≤ y56 := by
                                    rcases jy56 with g | g
                                    · exact g
                                    · have e := pz207.same g
                                      omega
                                  refine Ev.step (j := 299) (s' := ([some (.ref 69), some (.int z32), some (.int k35), some (.int k51)], [.ref 69], (0, 0), hp52)) rfl rfl ?_
                                  exact by
                                   refine Ev.step (j := 300) (s' := ([some (.ref 69), some (.int z32), some (.int k35), some (.int k51)], [.int k51, .ref 69], (0, 0), hp52)) rfl rfl ?_
                                   refine bs_ifeq rfl (fun c255 => ?_) (fun c255 => ?_)
                                   · skip
                                     have c256 : k51.toInt = 0 := by omega
                                     refine bs_lit (k := 4) rfl rfl fun z257 hz257 => ?_
                                     refine Ev.step (j := 333) (s' := ([some (.ref 69), some (.int z32), some (.int k35), some (.int k51)], [.int z257, .ref 69], (0, 0), hp52)) rfl rfl ?_
                                     refine bs_putI (W := [(11, 11, 11), (999, 0, 0)]) (g := 11) rfl rfl Hhp52 (bs_R.uq Hhp52 (g := 11) rfl) (by decide) rfl rfl rfl rfl (Or.inl rfl) (by omega) (by omega) fun hp258 Hhp258 fhp258 rhp258 ehp258 qhp258 nhp258 => ?_
                                     have Fhp258 := sf_fr_tr Fhp52 (sf_fr_wider (W := [(999, 0, 0), (11, 4, 4), (11, 11, 14), (11, 17, 17)]) rfl fhp258)
                                     have h259 : sf_rd hp258 69 4 = some y56 := (ehp258 _ _ (Or.inr (by omega))).trans hy56
                                     have h260 : sf_rd hp258 69 13 = some y57 := (ehp258 _ _ (Or.inr (by omega))).trans hy57
                                     have h261 : sf_rd hp258 69 14 = some y58 := (ehp258 _ _ (Or.inr (by omega))).trans hy58
                                     have A1 := psi_ge h259 rhp258
                                     have A2 := psi_ge Q4 Q11
                                     have PS : sf_psi hp258 ≤ sf_psi hp := by omega
                                     exact Ev.ret rfl rfl (by rw [hQ]; exact ⟨t53, Hhp258, (fr_unmark H Fhp258 PS), bs_anU, sf_S_nil, (fun v hv => by have e : v = P0 := Option.some.inj (hv.symm.trans Q4); show sf_psi hp258 ≤ 2 * (940 - v); rw [e]; omega)⟩)
                                   · skip
                                     refine Ev.step (j := 304) (s' := ([some (.ref 69), some (.int z32), some (.int k35), some (.int k51)], [.ref 69, .ref 69], (0, 0), hp52)) rfl rfl ?_
                                     exact by
                                      refine bs_getI 11 rfl rfl rfl Hhp52 (bs_R.uq Hhp52 (g := 11) rfl) (by decide) rfl fun z262 hz262 lz262 gz262 => ?_
                                      have e263 : z262.toInt = y57 := Option.some.inj (hz262.symm.trans hy57)
                                      refine Ev.step (j := 308) (s' := ([some (.ref 69), some (.int z32), some (.int k35), some (.int k51)], [.int k35, .int z262, .ref 69], (0, 0), hp52)) rfl rfl ?_
                                      refine bs_ifeq rfl (fun c264 => ?_) (fun c264 => ?_)
                                      · skip
                                        have c265 : k35.toInt = 0 := by omega
                                        refine bs_lit (k := 3) rfl rfl fun z266 hz266 => ?_
                                        refine bs_le rfl (fun c267 => ?_) (fun c267 => ?_)
                                        · skip
                                          refine Ev.step (j := 325) (s' := ([some (.ref 69), some (.int z32), some (.int k35), some (.int k51)], [.int k35, .ref 69], (0, 0), hp52)) rfl rfl ?_
                                          exact by
                                           refine bs_ifeq rfl (fun c268 => ?_) (fun c268 => ?_)
                                           · skip
                                             refine bs_lit (k := 2) rfl rfl fun z269 hz269 => ?_
                                             refine bs_putI (W := [(11, 11, 11), (999, 0, 0)]) (g := 11) rfl rfl Hhp52 (bs_R.uq Hhp52 (g := 11) rfl) (by decide) rfl rfl rfl rfl (Or.inl rfl) (by omega) (by omega) fun hp270 Hhp270 fhp270 rhp270 ehp270 qhp270 nhp270 => ?_
                                             have Fhp270 := sf_fr_tr Fhp52 (sf_fr_wider (W := [(999, 0, 0), (11, 4, 4), (11, 11, 14), (11, 17, 17)]) rfl fhp270)
                                             have h271 : sf_rd hp270 69 4 = some y56 := (ehp270 _ _ (Or.inr (by omega))).trans hy56
                                             have h272 : sf_rd hp270 69 13 = some y57 := (ehp270 _ _ (Or.inr (by omega))).trans hy57
                                             have h273 : sf_rd hp270 69 14 = some y58 := (ehp270 _ _ (Or.inr (by omega))).trans hy58
                                             have A1 := psi_ge h271 rhp270
                                             have A2 := psi_ge Q4 Q11
                                             have PS : sf_psi hp270 ≤ sf_psi hp := by omega
                                             exact Ev.ret rfl rfl (by rw [hQ]; exact ⟨t53, Hhp270, (fr_unmark H Fhp270 PS), bs_anU, sf_S_nil, (fun v hv => by have e : v = P0 := Option.some.inj (hv.symm.trans Q4); show sf_psi hp270 ≤ 2 * (940 - v); rw [e]; omega)⟩)
                                           · exfalso; omega
                                        · skip
                                          refine bs_lit (k := 4) rfl rfl fun z274 hz274 => ?_
                                          exact by
                                           refine Ev.step (j := 333) (s' := ([some (.ref 69), some (.int z32), some (.int k35), some (.int k51)], [.int z274, .ref 69], (0, 0), hp52)) rfl rfl ?_
                                           refine bs_putI (W := [(11, 11, 11), (999, 0, 0)]) (g := 11) rfl rfl Hhp52 (bs_R.uq Hhp52 (g := 11) rfl) (by decide) rfl rfl rfl rfl (Or.inl rfl) (by omega) (by omega) fun hp275 Hhp275 fhp275 rhp275 ehp275 qhp275 nhp275 => ?_
                                           have Fhp275 := sf_fr_tr Fhp52 (sf_fr_wider (W := [(999, 0, 0), (11, 4, 4), (11, 11, 14), (11, 17, 17)]) rfl fhp275)
                                           have h276 : sf_rd hp275 69 4 = some y56 := (ehp275 _ _ (Or.inr (by omega))).trans hy56
                                           have h277 : sf_rd hp275 69 13 = some y57 := (ehp275 _ _ (Or.inr (by omega))).trans hy57
                                           have h278 : sf_rd hp275 69 14 = some y58 := (ehp275 _ _ (Or.inr (by omega))).trans hy58
                                           have A1 := psi_ge h276 rhp275
                                           have A2 := psi_ge Q4 Q11
                                           have PS : sf_psi hp275 ≤ sf_psi hp := by omega
                                           exact Ev.ret rfl rfl (by rw [hQ]; exact ⟨t53, Hhp275, (fr_unmark H Fhp275 PS), bs_anU, sf_S_nil, (fun v hv => by have e : v = P0 := Option.some.inj (hv.symm.trans Q4); show sf_psi hp275 ≤ 2 * (940 - v); rw [e]; omega)⟩)
                                      · skip
                                        refine bs_lit (k := 7) rfl rfl fun z279 hz279 => ?_
                                        exact by
                                         refine Ev.step (j := 317) (s' := ([some (.ref 69), some (.int z32), some (.int k35), some (.int k51)], [.int z279, .int z262, .ref 69], (0, 0), hp52)) rfl rfl ?_
                                         refine bs_le rfl (fun c280 => ?_) (fun c280 => ?_)
                                         · skip
                                           refine Ev.step (j := 325) (s' := ([some (.ref 69), some (.int z32), some (.int k35), some (.int k51)], [.int k35, .ref 69], (0, 0), hp52)) rfl rfl ?_
                                           refine bs_ifeq rfl (fun c281 => ?_) (fun c281 => ?_)
                                           · exfalso; omega
                                           · skip
                                             refine bs_lit (k := 1) rfl rfl fun z282 hz282 => ?_
                                             refine Ev.step (j := 333) (s' := ([some (.ref 69), some (.int z32), some (.int k35), some (.int k51)], [.int z282, .ref 69], (0, 0), hp52)) rfl rfl ?_
                                             refine bs_putI (W := [(11, 11, 11), (999, 0, 0)]) (g := 11) rfl rfl Hhp52 (bs_R.uq Hhp52 (g := 11) rfl) (by decide) rfl rfl rfl rfl (Or.inl rfl) (by omega) (by omega) fun hp283 Hhp283 fhp283 rhp283 ehp283 qhp283 nhp283 => ?_
                                             have Fhp283 := sf_fr_tr Fhp52 (sf_fr_wider (W := [(999, 0, 0), (11, 4, 4), (11, 11, 14), (11, 17, 17)]) rfl fhp283)
                                             have h284 : sf_rd hp283 69 4 = some y56 := (ehp283 _ _ (Or.inr (by omega))).trans hy56
                                             have h285 : sf_rd hp283 69 13 = some y57 := (ehp283 _ _ (Or.inr (by omega))).trans hy57
                                             have h286 : sf_rd hp283 69 14 = some y58 := (ehp283 _ _ (Or.inr (by omega))).trans hy58
                                             have A1 := psi_ge h284 rhp283
                                             have A2 := psi_ge Q4 Q11
                                             have PS : sf_psi hp283 ≤ sf_psi hp := by omega
                                             exact Ev.ret rfl rfl (by rw [hQ]; exact ⟨t53, Hhp283, (fr_unmark H Fhp283 PS), bs_anU, sf_S_nil, (fun v hv => by have e : v = P0 := Option.some.inj (hv.symm.trans Q4); show sf_psi hp283 ≤ 2 * (940 - v); rw [e]; omega)⟩)
                                         · skip
                                           refine bs_lit (k := 4) rfl rfl fun z287 hz287 => ?_
                                           exact by
                                            refine Ev.step (j := 333) (s' := ([some (.ref 69), some (.int z32), some (.int k35), some (.int k51)], [.int z287, .ref 69], (0, 0), hp52)) rfl rfl ?_
                                            refine bs_putI (W := [(11, 11, 11), (999, 0, 0)]) (g := 11) rfl rfl Hhp52 (bs_R.uq Hhp52 (g := 11) rfl) (by decide) rfl rfl rfl rfl (Or.inl rfl) (by omega) (by omega) fun hp288 Hhp288 fhp288 rhp288 ehp288 qhp288 nhp288 => ?_
                                            have Fhp288 := sf_fr_tr Fhp52 (sf_fr_wider (W := [(999, 0, 0), (11, 4, 4), (11, 11, 14), (11, 17, 17)]) rfl fhp288)
                                            have h289 : sf_rd hp288 69 4 = some y56 := (ehp288 _ _ (Or.inr (by omega))).trans hy56
                                            have h290 : sf_rd hp288 69 13 = some y57 := (ehp288 _ _ (Or.inr (by omega))).trans hy57
                                            have h291 : sf_rd hp288 69 14 = some y58 := (ehp288 _ _ (Or.inr (by omega))).trans hy58
                                            have A1 := psi_ge h289 rhp288
                                            have A2 := psi_ge Q4 Q11
                                            have PS : sf_psi hp288 ≤ sf_psi hp := by omega
                                            exact Ev.ret rfl rfl (by rw [hQ]; exact ⟨t53, Hhp288, (fr_unmark H Fhp288 PS), bs_anU, sf_S_nil, (fun v hv => by have e : v = P0 := Option.some.inj (hv.symm.trans Q4); show sf_psi hp288 ≤ 2 * (940 - v); rw [e]; omega)⟩)
                                · exfalso; omega
                              · skip
                                refine bs_lit (k := 1) rfl rfl fun z292 hz292 => ?_
                                exact by
                                 refine Ev.step (j := 17) (s' := ([some (.int z207)], [.int z292], (0, 0), hp52)) rfl rfl ?_
                                 refine bs_zret rfl rfl (by omega) (by omega) ?_
                                 rw [← hQ209]
                                 refine (show Ev _ 198 ([some (.ref 69), some (.int z32), some (.int k35), some (.int k51)], [.int z292], (0, 0), hp52) _ from ?_)
                                 refine bs_ifeq rfl (fun c293 => ?_) (fun c293 => ?_)
                                 · exfalso; omega
                                 · skip
                                   exact cut60 hp52 t53 Hhp52 Fhp52 hy56 hy57 hy58 (by first | omega | assumption) (by first | omega | assumption)
                     · skip
                       refine Ev.step (j := 7) (s' := ([some (.int z59)], [.int z59], (0, 0), hp52)) rfl rfl ?_
                       exact by
                        refine bs_lit (k := 122) rfl rfl fun z294 hz294 => ?_
                        refine bs_gt rfl (fun c295 => ?_) (fun c295 => ?_)
                        · skip
                          refine bs_lit (k := 0) rfl rfl fun z296 hz296 => ?_
                          refine bs_zret rfl rfl (by omega) (by omega) ?_
                          rw [← hQ202]
                          refine (show Ev _ 188 ([some (.ref 69), some (.int z32), some (.int k35), some (.int k51)], [.int z296], (0, 0), hp52) _ from ?_)
                          refine bs_ifne rfl (fun c297 => ?_) (fun c297 => ?_)
                          · exfalso; omega
                          · skip
                            refine Ev.step (j := 192) (s' := ([some (.ref 69), some (.int z32), some (.int k35), some (.int k51)], [.ref 69], (0, 0), hp52)) rfl rfl ?_
                            refine pk_ev rfl Hhp52 rfl fun z298 pz298 oz298 mz298 => ?_
                            replace mz298 := mz298 _ hy56
                            have e299 : z298.toInt = z59.toInt := pz298.same pz59
                            refine (show Ev _ 195 ([some (.ref 69), some (.int z32), some (.int k35), some (.int k51)], [.int z298], (0, 0), hp52) _ from ?_)
                            exact by
                             refine Ev.inlS (L := L_X11_isDigit) (nL := 1) rfl rfl (Nat.le_of_ble_eq_true rfl) ?_
                             generalize hQ300 : (fun (o : ab_O) => Ev _ _ _ _) = Q300
                             refine (show Ev (ab_T L_X11_isDigit) 0 ([some (.int z298)], [], (0, 0), hp52) Q300 from ?_)
                             refine Ev.step (j := 1) (s' := ([some (.int z298)], [.int z298], (0, 0), hp52)) rfl rfl ?_
                             refine bs_lit (k := 48) rfl rfl fun z301 hz301 => ?_
                             refine bs_lt rfl (fun c302 => ?_) (fun c302 => ?_)
                             · skip
                               refine bs_lit (k := 0) rfl rfl fun z303 hz303 => ?_
                               refine bs_zret rfl rfl (by omega) (by omega) ?_
                               rw [← hQ300]
                               refine (show Ev _ 198 ([some (.ref 69), some (.int z32), some (.int k35), some (.int k51)], [.int z303], (0, 0), hp52) _ from ?_)
                               exact by
                                refine bs_ifeq rfl (fun c304 => ?_) (fun c304 => ?_)
                                · skip
                                  have G : P0 + 1 ≤ y56 := by
                                    rcases jy56 with g | g
                                    · exact g
                                    · have e := pz298.same g
                                      omega
                                  refine Ev.step (j := 299) (s' := ([some (.ref 69), some (.int z32), some (.int k35), some (.int k51)], [.ref 69], (0, 0), hp52)) rfl rfl ?_
                                  refine Ev.step (j := 300) (s' := ([some (.ref 69), some (.int z32), some (.int k35), some (.int k51)], [.int k51, .ref 69], (0, 0), hp52)) rfl rfl ?_
                                  refine bs_ifeq rfl (fun c305 => ?_) (fun c305 => ?_)
                                  · skip
                                    have c306 : k51.toInt = 0 := by omega
                                    refine bs_lit (k := 4) rfl rfl fun z307 hz307 => ?_
                                    refine Ev.step (j := 333) (s' := ([some (.ref 69), some (.int z32), some (.int k35), some (.int k51)], [.int z307, .ref 69], (0, 0), hp52)) rfl rfl ?_
                                    exact by
                                     refine bs_putI (W := [(11, 11, 11), (999, 0, 0)]) (g := 11) rfl rfl Hhp52 (bs_R.uq Hhp52 (g := 11) rfl) (by decide) rfl rfl rfl rfl (Or.inl rfl) (by omega) (by omega) fun hp308 Hhp308 fhp308 rhp308 ehp308 qhp308 nhp308 => ?_
                                     have Fhp308 := sf_fr_tr Fhp52 (sf_fr_wider (W := [(999, 0, 0), (11, 4, 4), (11, 11, 14), (11, 17, 17)]) rfl fhp308)
                                     have h309 : sf_rd hp308 69 4 = some y56 := (ehp308 _ _ (Or.inr (by omega))).trans hy56
                                     have h310 : sf_rd hp308 69 13 = some y57 := (ehp308 _ _ (Or.inr (by omega))).trans hy57
                                     have h311 : sf_rd hp308 69 14 = some y58 := (ehp308 _ _ (Or.inr (by omega))).trans hy58
                                     have A1 := psi_ge h309 rhp308
                                     have A2 := psi_ge Q4 Q11
                                     have PS : sf_psi hp308 ≤ sf_psi hp := by omega
                                     exact Ev.ret rfl rfl (by rw [hQ]; exact ⟨t53, Hhp308, (fr_unmark H Fhp308 PS), bs_anU, sf_S_nil, (fun v hv => by have e : v = P0 := Option.some.inj (hv.symm.trans Q4); show sf_psi hp308 ≤ 2 * (940 - v); rw [e]; omega)⟩)
                                  · skip
                                    refine Ev.step (j := 304) (s' := ([some (.ref 69), some (.int z32), some (.int k35), some (.int k51)], [.ref 69, .ref 69], (0, 0), hp52)) rfl rfl ?_
                                    exact by
                                     refine bs_getI 11 rfl rfl rfl Hhp52 (bs_R.uq Hhp52 (g := 11) rfl) (by decide) rfl fun z312 hz312 lz312 gz312 => ?_
                                     have e313 : z312.toInt = y57 := Option.some.inj (hz312.symm.trans hy57)
                                     refine Ev.step (j := 308) (s' := ([some (.ref 69), some (.int z32), some (.int k35), some (.int k51)], [.int k35, .int z312, .ref 69], (0, 0), hp52)) rfl rfl ?_
                                     refine bs_ifeq rfl (fun c314 => ?_) (fun c314 => ?_)
                                     · skip
                                       have c315 : k35.toInt = 0 := by omega
                                       refine bs_lit (k := 3) rfl rfl fun z316 hz316 => ?_
                                       refine bs_le rfl (fun c317 => ?_) (fun c317 => ?_)
                                       · skip
                                         refine Ev.step (j := 325) (s' := ([some (.ref 69), some (.int z32), some (.int k35), some (.int k51)], [.int k35, .ref 69], (0, 0), hp52)) rfl rfl ?_
                                         exact by
                                          refine bs_ifeq rfl (fun c318 => ?_) (fun c318 => ?_)
                                          · skip
                                            refine bs_lit (k := 2) rfl rfl fun z319 hz319 => ?_
                                            refine bs_putI (W := [(11, 11, 11), (999, 0, 0)]) (g := 11) rfl rfl Hhp52 (bs_R.uq Hhp52 (g := 11) rfl) (by decide) rfl rfl rfl rfl (Or.inl rfl) (by omega) (by omega) fun hp320 Hhp320 fhp320 rhp320 ehp320 qhp320 nhp320 => ?_
                                            have Fhp320 := sf_fr_tr Fhp52 (sf_fr_wider (W := [(999, 0, 0), (11, 4, 4), (11, 11, 14), (11, 17, 17)]) rfl fhp320)
                                            have h321 : sf_rd hp320 69 4 = some y56 := (ehp320 _ _ (Or.inr (by omega))).trans hy56
                                            have h322 : sf_rd hp320 69 13 = some y57 := (ehp320 _ _ (Or.inr (by omega))).trans hy57
                                            have h323 : sf_rd hp320 69 14 = some y58 := (ehp320 _ _ (Or.inr (by omega))).trans hy58
                                            have A1 := psi_ge h321 rhp320
                                            have A2 := psi_ge Q4 Q11
                                            have PS : sf_psi hp320 ≤ sf_psi hp := by omega
                                            exact Ev.ret rfl rfl (by rw [hQ]; exact ⟨t53, Hhp320, (fr_unmark H Fhp320 PS), bs_anU, sf_S_nil, (fun v hv => by have e : v = P0 := Option.some.inj (hv.symm.trans Q4); show sf_psi hp320 ≤ 2 * (940 - v); rw [e]; omega)⟩)
                                          · exfalso; omega
                                       · skip
                                         refine bs_lit (k := 4) rfl rfl fun z324 hz324 => ?_
                                         exact by
                                          refine Ev.step (j := 333) (s' := ([some (.ref 69), some (.int z32), some (.int k35), some (.int k51)], [.int z324, .ref 69], (0, 0), hp52)) rfl rfl ?_
                                          refine bs_putI (W := [(11, 11, 11), (999, 0, 0)]) (g := 11) rfl rfl Hhp52 (bs_R.uq Hhp52 (g := 11) rfl) (by decide) rfl rfl rfl rfl (Or.inl rfl) (by omega) (by omega) fun hp325 Hhp325 fhp325 rhp325 ehp325 qhp325 nhp325 => ?_
                                          have Fhp325 := sf_fr_tr Fhp52 (sf_fr_wider (W := [(999, 0, 0), (11, 4, 4), (11, 11, 14), (11, 17, 17)]) rfl fhp325)
                                          have h326 : sf_rd hp325 69 4 = some y56 := (ehp325 _ _ (Or.inr (by omega))).trans hy56
                                          have h327 : sf_rd hp325 69 13 = some y57 := (ehp325 _ _ (Or.inr (by omega))).trans hy57
                                          have h328 : sf_rd hp325 69 14 = some y58 := (ehp325 _ _ (Or.inr (by omega))).trans hy58
                                          have A1 := psi_ge h326 rhp325
                                          have A2 := psi_ge Q4 Q11
                                          have PS : sf_psi hp325 ≤ sf_psi hp := by omega
                                          exact Ev.ret rfl rfl (by rw [hQ]; exact ⟨t53, Hhp325, (fr_unmark H Fhp325 PS), bs_anU, sf_S_nil, (fun v hv => by have e : v = P0 := Option.some.inj (hv.symm.trans Q4); show sf_psi hp325 ≤ 2 * (940 - v); rw [e]; omega)⟩)
                                     · skip
                                       refine bs_lit (k := 7) rfl rfl fun z329 hz329 => ?_
                                       exact by
                                        refine Ev.step (j := 317) (s' := ([some (.ref 69), some (.int z32), some (.int k35), some (.int k51)], [.int z329, .int z312, .ref 69], (0, 0), hp52)) rfl rfl ?_
                                        refine bs_le rfl (fun c330 => ?_) (fun c330 => ?_)
                                        · skip
                                          refine Ev.step (j := 325) (s' := ([some (.ref 69), some (.int z32), some (.int k35), some (.int k51)], [.int k35, .ref 69], (0, 0), hp52)) rfl rfl ?_
                                          refine bs_ifeq rfl (fun c331 => ?_) (fun c331 => ?_)
                                          · exfalso; omega
                                          · skip
                                            refine bs_lit (k := 1) rfl rfl fun z332 hz332 => ?_
                                            refine Ev.step (j := 333) (s' := ([some (.ref 69), some (.int z32), some (.int k35), some (.int k51)], [.int z332, .ref 69], (0, 0), hp52)) rfl rfl ?_
                                            refine bs_putI (W := [(11, 11, 11), (999, 0, 0)]) (g := 11) rfl rfl Hhp52 (bs_R.uq Hhp52 (g := 11) rfl) (by decide) rfl rfl rfl rfl (Or.inl rfl) (by omega) (by omega) fun hp333 Hhp333 fhp333 rhp333 ehp333 qhp333 nhp333 => ?_
                                            have Fhp333 := sf_fr_tr Fhp52 (sf_fr_wider (W := [(999, 0, 0), (11, 4, 4), (11, 11, 14), (11, 17, 17)]) rfl fhp333)
                                            have h334 : sf_rd hp333 69 4 = some y56 := (ehp333 _ _ (Or.inr (by omega))).trans hy56
                                            have h335 : sf_rd hp333 69 13 = some y57 := (ehp333 _ _ (Or.inr (by omega))).trans hy57
                                            have h336 : sf_rd hp333 69 14 = some y58 := (ehp333 _ _ (Or.inr (by omega))).trans hy58
                                            have A1 := psi_ge h334 rhp333
                                            have A2 := psi_ge Q4 Q11
                                            have PS : sf_psi hp333 ≤ sf_psi hp := by omega
                                            exact Ev.ret rfl rfl (by rw [hQ]; exact ⟨t53, Hhp333, (fr_unmark H Fhp333 PS), bs_anU, sf_S_nil, (fun v hv => by have e : v = P0 := Option.some.inj (hv.symm.trans Q4); show sf_psi hp333 ≤ 2 * (940 - v); rw [e]; omega)⟩)
                                        · skip
                                          refine bs_lit (k := 4) rfl rfl fun z337 hz337 => ?_
                                          exact by
                                           refine Ev.step (j := 333) (s' := ([some (.ref 69), some (.int z32), some (.int k35), some (.int k51)], [.int z337, .ref 69], (0, 0), hp52)) rfl rfl ?_
                                           refine bs_putI (W := [(11, 11, 11), (999, 0, 0)]) (g := 11) rfl rfl Hhp52 (bs_R.uq Hhp52 (g := 11) rfl) (by decide) rfl rfl rfl rfl (Or.inl rfl) (by omega) (by omega) fun hp338 Hhp338 fhp338 rhp338 ehp338 qhp338 nhp338 => ?_
                                           have Fhp338 := sf_fr_tr Fhp52 (sf_fr_wider (W := [(999, 0, 0), (11, 4, 4), (11, 11, 14), (11, 17, 17)]) rfl fhp338)
                                           have h339 : sf_rd hp338 69 4 = some y56 := (ehp338 _ _ (Or.inr (by omega))).trans hy56
                                           have h340 : sf_rd hp338 69 13 = some y57 := (ehp338 _ _ (Or.inr (by omega))).trans hy57
                                           have h341 : sf_rd hp338 69 14 = some y58 := (ehp338 _ _ (Or.inr (by omega))).trans hy58
                                           have A1 := psi_ge h339 rhp338
                                           have A2 := psi_ge Q4 Q11
                                           have PS : sf_psi hp338 ≤ sf_psi hp := by omega
                                           exact Ev.ret rfl rfl (by rw [hQ]; exact ⟨t53, Hhp338, (fr_unmark H Fhp338 PS), bs_anU, sf_S_nil, (fun v hv => by have e : v = P0 := Option.some.inj (hv.symm.trans Q4); show sf_psi hp338 ≤ 2 * (940 - v); rw [e]; omega)⟩)
                                · exfalso; omega
                             · skip
                               refine Ev.step (j := 7) (s' := ([some (.int z298)], [.int z298], (0, 0), hp52)) rfl rfl ?_
                               exact by
                                refine bs_lit (k := 57) rfl rfl fun z342 hz342 => ?_
                                refine bs_gt rfl (fun c343 => ?_) (fun c343 => ?_)
                                · skip
                                  refine bs_lit (k := 0) rfl rfl fun z344 hz344 => ?_
                                  refine bs_zret rfl rfl (by omega) (by omega) ?_
                                  rw [← hQ300]
                                  refine (show Ev _ 198 ([some (.ref 69), some (.int z32), some (.int k35), some (.int k51)], [.int z344], (0, 0), hp52) _ from ?_)
                                  refine bs_ifeq rfl (fun c345 => ?_) (fun c345 => ?_)
                                  · skip
                                    have G : P0 + 1 ≤ y56 := by
                                      rcases jy56 with g | g
                                      · exact g
                                      · have e := pz298.same g
                                        omega
                                    refine Ev.step (j := 299) (s' := ([some (.ref 69), some (.int z32), some (.int k35), some (.int k51)], [.ref 69], (0, 0), hp52)) rfl rfl ?_
                                    exact by
                                     refine Ev.step (j := 300) (s' := ([some (.ref 69), some (.int z32), some (.int k35), some (.int k51)], [.int k51, .ref 69], (0, 0), hp52)) rfl rfl ?_
                                     refine bs_ifeq rfl (fun c346 => ?_) (fun c346 => ?_)
                                     · skip
                                       have c347 : k51.toInt = 0 := by omega
                                       refine bs_lit (k := 4) rfl rfl fun z348 hz348 => ?_
                                       refine Ev.step (j := 333) (s' := ([some (.ref 69), some (.int z32), some (.int k35), some (.int k51)], [.int z348, .ref 69], (0, 0), hp52)) rfl rfl ?_
                                       refine bs_putI (W := [(11, 11, 11), (999, 0, 0)]) (g := 11) rfl rfl Hhp52 (bs_R.uq Hhp52 (g := 11) rfl) (by decide) rfl rfl rfl rfl (Or.inl rfl) (by omega) (by omega) fun hp349 Hhp349 fhp349 rhp349 ehp349 qhp349 nhp349 => ?_
                                       have Fhp349 := sf_fr_tr Fhp52 (sf_fr_wider (W := [(999, 0, 0), (11, 4, 4), (11, 11, 14), (11, 17, 17)]) rfl fhp349)
                                       have h350 : sf_rd hp349 69 4 = some y56 := (ehp349 _ _ (Or.inr (by omega))).trans hy56
                                       have h351 : sf_rd hp349 69 13 = some y57 := (ehp349 _ _ (Or.inr (by omega))).trans hy57
                                       have h352 : sf_rd hp349 69 14 = some y58 := (ehp349 _ _ (Or.inr (by omega))).trans hy58
                                       have A1 := psi_ge h350 rhp349
                                       have A2 := psi_ge Q4 Q11
                                       have PS : sf_psi hp349 ≤ sf_psi hp := by omega
                                       exact Ev.ret rfl rfl (by rw [hQ]; exact ⟨t53, Hhp349, (fr_unmark H Fhp349 PS), bs_anU, sf_S_nil, (fun v hv => by have e : v = P0 := Option.some.inj (hv.symm.trans Q4); show sf_psi hp349 ≤ 2 * (940 - v); rw [e]; omega)⟩)
                                     · skip
                                       refine Ev.step (j := 304) (s' := ([some (.ref 69), some (.int z32), some (.int k35), some (.int k51)], [.ref 69, .ref 69], (0, 0), hp52)) rfl rfl ?_
                                       exact by
                                        refine bs_getI 11 rfl rfl rfl Hhp52 (bs_R.uq Hhp52 (g := 11) rfl) (by decide) rfl fun z353 hz353 lz353 gz353 => ?_
                                        have e354 : z353.toInt = y57 := Option.some.inj (hz353.symm.trans hy57)
                                        refine Ev.step (j := 308) (s' := ([some (.ref 69), some (.int z32), some (.int k35), some (.int k51)], [.int k35, .int z353, .ref 69], (0, 0), hp52)) rfl rfl ?_
                                        refine bs_ifeq rfl (fun c355 => ?_) (fun c355 => ?_)
                                        · skip
                                          have c356 : k35.toInt = 0 := by omega
                                          refine bs_lit (k := 3) rfl rfl fun z357 hz357 => ?_
                                          refine bs_le rfl (fun c358 => ?_) (fun c358 => ?_)
                                          · skip
                                            refine Ev.step (j := 325) (s' := ([some (.ref 69), some (.int z32), some (.int k35), some (.int k51)], [.int k35, .ref 69], (0, 0), hp52)) rfl rfl ?_
                                            exact by
                                             refine bs_ifeq rfl (fun c359 => ?_) (fun c359 => ?_)
                                             · skip
                                               refine bs_lit (k := 2) rfl rfl fun z360 hz360 => ?_
                                               refine bs_putI (W := [(11, 11, 11), (999, 0, 0)]) (g := 11) rfl rfl Hhp52 (bs_R.uq Hhp52 (g := 11) rfl) (by decide) rfl rfl rfl rfl (Or.inl rfl) (by omega) (by omega) fun hp361 Hhp361 fhp361 rhp361 ehp361 qhp361 nhp361 => ?_
                                               have Fhp361 := sf_fr_tr Fhp52 (sf_fr_wider (W := [(999, 0, 0), (11, 4, 4), (11, 11, 14), (11, 17, 17)]) rfl fhp361)
                                               have h362 : sf_rd hp361 69 4 = some y56 := (ehp361 _ _ (Or.inr (by omega))).trans hy56
                                               have h363 : sf_rd hp361 69 13 = some y57 := (ehp361 _ _ (Or.inr (by omega))).trans hy57
                                               have h364 : sf_rd hp361 69 14 = some y58 := (ehp361 _ _ (Or.inr (by omega))).trans hy58
                                               have A1 := psi_ge h362 rhp361
                                               have A2 := psi_ge Q4 Q11
                                               have PS : sf_psi hp361 ≤ sf_psi hp := by omega
                                               exact Ev.ret rfl rfl (by rw [hQ]; exact ⟨t53, Hhp361, (fr_unmark H Fhp361 PS), bs_anU, sf_S_nil, (fun v hv => by have e : v = P0 := Option.some.inj (hv.symm.trans Q4); show sf_psi hp361 ≤ 2 * (940 - v); rw [e]; omega)⟩)
                                             · exfalso; omega
                                          · skip
                                            refine bs_lit (k := 4) rfl rfl fun z365 hz365 => ?_
                                            exact by
                                             refine Ev.step (j := 333) (s' := ([some (.ref 69), some (.int z32), some (.int k35), some (.int k51)], [.int z365, .ref 69], (0, 0), hp52)) rfl rfl ?_
                                             refine bs_putI (W := [(11, 11, 11), (999, 0, 0)]) (g := 11) rfl rfl Hhp52 (bs_R.uq Hhp52 (g := 11) rfl) (by decide) rfl rfl rfl rfl (Or.inl rfl) (by omega) (by omega) fun hp366 Hhp366 fhp366 rhp366 ehp366 qhp366 nhp366 => ?_
                                             have Fhp366 := sf_fr_tr Fhp52 (sf_fr_wider (W := [(999, 0, 0), (11, 4, 4), (11, 11, 14), (11, 17, 17)]) rfl fhp366)
                                             have h367 : sf_rd hp366 69 4 = some y56 := (ehp366 _ _ (Or.inr (by omega))).trans hy56
                                             have h368 : sf_rd hp366 69 13 = some y57 := (ehp366 _ _ (Or.inr (by omega))).trans hy57
                                             have h369 : sf_rd hp366 69 14 = some y58 := (ehp366 _ _ (Or.inr (by omega))).trans hy58
                                             have A1 := psi_ge h367 rhp366
                                             have A2 := psi_ge Q4 Q11
                                             have PS : sf_psi hp366 ≤ sf_psi hp := by omega
                                             exact Ev.ret rfl rfl (by rw [hQ]; exact ⟨t53, Hhp366, (fr_unmark H Fhp366 PS), bs_anU, sf_S_nil, (fun v hv => by have e : v = P0 := Option.some.inj (hv.symm.trans Q4); show sf_psi hp366 ≤ 2 * (940 - v); rw [e]; omega)⟩)
                                        · skip
                                          refine bs_lit (k := 7) rfl rfl fun z370 hz370 => ?_
                                          exact by
                                           refine Ev.step (j := 317) (s' := ([some (.ref 69), some (.int z32), some (.int k35), some (.int k51)], [.int z370, .int z353, .ref 69], (0, 0), hp52)) rfl rfl ?_
                                           refine bs_le rfl (fun c371 => ?_) (fun c371 => ?_)
                                           · skip
                                             refine Ev.step (j := 325) (s' := ([some (.ref 69), some (.int z32), some (.int k35), some (.int k51)], [.int k35, .ref 69], (0, 0), hp52)) rfl rfl ?_
                                             refine bs_ifeq rfl (fun c372 => ?_) (fun c372 => ?_)
                                             · exfalso; omega
                                             · skip
                                               refine bs_lit (k := 1) rfl rfl fun z373 hz373 => ?_
                                               refine Ev.step (j := 333) (s' := ([some (.ref 69), some (.int z32), some (.int k35), some (.int k51)], [.int z373, .ref 69], (0, 0), hp52)) rfl rfl ?_
                                               refine bs_putI (W := [(11, 11, 11), (999, 0, 0)]) (g := 11) rfl rfl Hhp52 (bs_R.uq Hhp52 (g := 11) rfl) (by decide) rfl rfl rfl rfl (Or.inl rfl) (by omega) (by omega) fun hp374 Hhp374 fhp374 rhp374 ehp374 qhp374 nhp374 => ?_
                                               have Fhp374 := sf_fr_tr Fhp52 (sf_fr_wider (W := [(999, 0, 0), (11, 4, 4), (11, 11, 14), (11, 17, 17)]) rfl fhp374)
                                               have h375 : sf_rd hp374 69 4 = some y56 := (ehp374 _ _ (Or.inr (by omega))).trans hy56
                                               have h376 : sf_rd hp374 69 13 = some y57 := (ehp374 _ _ (Or.inr (by omega))).trans hy57
                                               have h377 : sf_rd hp374 69 14 = some y58 := (ehp374 _ _ (Or.inr (by omega))).trans hy58
                                               have A1 := psi_ge h375 rhp374
                                               have A2 := psi_ge Q4 Q11
                                               have PS : sf_psi hp374 ≤ sf_psi hp := by omega
                                               exact Ev.ret rfl rfl (by rw [hQ]; exact ⟨t53, Hhp374, (fr_unmark H Fhp374 PS), bs_anU, sf_S_nil, (fun v hv => by have e : v = P0 := Option.some.inj (hv.symm.trans Q4); show sf_psi hp374 ≤ 2 * (940 - v); rw [e]; omega)⟩)
                                           · skip
                                             refine bs_lit (k := 4) rfl rfl fun z378 hz378 => ?_
                                             exact by
                                              refine Ev.step (j := 333) (s' := ([some (.ref 69), some (.int z32), some (.int k35), some (.int k51)], [.int z378, .ref 69], (0, 0), hp52)) rfl rfl ?_
                                              refine bs_putI (W := [(11, 11, 11), (999, 0, 0)]) (g := 11) rfl rfl Hhp52 (bs_R.uq Hhp52 (g := 11) rfl) (by decide) rfl rfl rfl rfl (Or.inl rfl) (by omega) (by omega) fun hp379 Hhp379 fhp379 rhp379 ehp379 qhp379 nhp379 => ?_
                                              have Fhp379 := sf_fr_tr Fhp52 (sf_fr_wider (W := [(999, 0, 0), (11, 4, 4), (11, 11, 14), (11, 17, 17)]) rfl fhp379)
                                              have h380 : sf_rd hp379 69 4 = some y56 := (ehp379 _ _ (Or.inr (by omega))).trans hy56
                                              have h381 : sf_rd hp379 69 13 = some y57 := (ehp379 _ _ (Or.inr (by omega))).trans hy57
                                              have h382 : sf_rd hp379 69 14 = some y58 := (ehp379 _ _ (Or.inr (by omega))).trans hy58
                                              have A1 := psi_ge h380 rhp379
                                              have A2 := psi_ge Q4 Q11
                                              have PS : sf_psi hp379 ≤ sf_psi hp := by omega
                                              exact Ev.ret rfl rfl (by rw [hQ]; exact ⟨t53, Hhp379, (fr_unmark H Fhp379 PS), bs_anU, sf_S_nil, (fun v hv => by have e : v = P0 := Option.some.inj (hv.symm.trans Q4); show sf_psi hp379 ≤ 2 * (940 - v); rw [e]; omega)⟩)
                                  · exfalso; omega
                                · skip
                                  refine bs_lit (k := 1) rfl rfl fun z383 hz383 => ?_
                                  exact by
                                   refine Ev.step (j := 17) (s' := ([some (.int z298)], [.int z383], (0, 0), hp52)) rfl rfl ?_
                                   refine bs_zret rfl rfl (by omega) (by omega) ?_
                                   rw [← hQ300]
                                   refine (show Ev _ 198 ([some (.ref 69), some (.int z32), some (.int k35), some (.int k51)], [.int z383], (0, 0), hp52) _ from ?_)
                                   refine bs_ifeq rfl (fun c384 => ?_) (fun c384 => ?_)
                                   · exfalso; omega
                                   · skip
                                     exact cut60 hp52 t53 Hhp52 Fhp52 hy56 hy57 hy58 (by first | omega | assumption) (by first | omega | assumption)
                        · skip
                          refine bs_lit (k := 1) rfl rfl fun z385 hz385 => ?_
                          exact by
                           refine Ev.step (j := 17) (s' := ([some (.int z59)], [.int z385], (0, 0), hp52)) rfl rfl ?_
                           refine bs_zret rfl rfl (by omega) (by omega) ?_
                           rw [← hQ202]
                           refine (show Ev _ 188 ([some (.ref 69), some (.int z32), some (.int k35), some (.int k51)], [.int z385], (0, 0), hp52) _ from ?_)
                           refine bs_ifne rfl (fun c386 => ?_) (fun c386 => ?_)
                           · skip
                             exact cut60 hp52 t53 Hhp52 Fhp52 hy56 hy57 hy58 (by first | omega | assumption) (by first | omega | assumption)
                           · exfalso; omega
                refine Ev.step (j := 96) (s' := ([some (.ref 69), some (.int z32), none, none], [.int z32], (0, 0), hp28)) rfl rfl ?_
                exact by
                 refine Ev.inlS (L := L_X11_isSmall) (nL := 1) rfl rfl (Nat.le_of_ble_eq_true rfl) ?_
                 generalize hQ387 : (fun (o : ab_O) => Ev _ _ _ _) = Q387
                 refine (show Ev (ab_T L_X11_isSmall) 0 ([some (.int z32)], [], (0, 0), hp28) Q387 from ?_)
                 refine Ev.step (j := 1) (s' := ([some (.int z32)], [.int z32], (0, 0), hp28)) rfl rfl ?_
                 refine bs_lit (k := 97) rfl rfl fun z388 hz388 => ?_
                 refine bs_lt rfl (fun c389 => ?_) (fun c389 => ?_)
                 · skip
                   refine bs_lit (k := 0) rfl rfl fun z390 hz390 => ?_
                   refine bs_zret rfl rfl (by omega) (by omega) ?_
                   rw [← hQ387]
                   refine (show Ev _ 99 ([some (.ref 69), some (.int z32), none, none], [.int z390], (0, 0), hp28) _ from ?_)
                   exact by
                    refine bs_ifne rfl (fun c391 => ?_) (fun c391 => ?_)
                    · exfalso; omega
                    · skip
                      refine Ev.step (j := 103) (s' := ([some (.ref 69), some (.int z32), none, none], [.int z32], (0, 0), hp28)) rfl rfl ?_
                      refine Ev.inlS (L := L_X11_isDigit) (nL := 1) rfl rfl (Nat.le_of_ble_eq_true rfl) ?_
                      generalize hQ392 : (fun (o : ab_O) => Ev _ _ _ _) = Q392
                      refine (show Ev (ab_T L_X11_isDigit) 0 ([some (.int z32)], [], (0, 0), hp28) Q392 from ?_)
                      refine Ev.step (j := 1) (s' := ([some (.int z32)], [.int z32], (0, 0), hp28)) rfl rfl ?_
                      refine bs_lit (k := 48) rfl rfl fun z393 hz393 => ?_
                      refine bs_lt rfl (fun c394 => ?_) (fun c394 => ?_)
                      · skip
                        refine bs_lit (k := 0) rfl rfl fun z395 hz395 => ?_
                        exact by
                         refine bs_zret rfl rfl (by omega) (by omega) ?_
                         rw [← hQ392]
                         refine (show Ev _ 106 ([some (.ref 69), some (.int z32), none, none], [.int z395], (0, 0), hp28) _ from ?_)
                         refine bs_ifne rfl (fun c396 => ?_) (fun c396 => ?_)
                         · exfalso; omega
                         · skip
                           refine Ev.step (j := 110) (s' := ([some (.ref 69), some (.int z32), none, none], [.ref 69], (0, 0), hp28)) rfl rfl ?_
                           refine Ev.step (j := 111) (s' := ([some (.ref 69), some (.int z32), none, none], [.int z32, .ref 69], (0, 0), hp28)) rfl rfl ?_
                           refine bs_lit (k := 59) rfl rfl fun z397 hz397 => ?_
                           refine bs_eq rfl (fun c398 => ?_) (fun c398 => ?_)
                           · skip
                             have c399 : z32.toInt = 59 := by omega
                             refine bs_lit (k := 3) rfl rfl fun z400 hz400 => ?_
                             exact by
                              refine Ev.step (j := 145) (s' := ([some (.ref 69), some (.int z32), none, none], [.int z400, .ref 69], (0, 0), hp28)) rfl rfl ?_
                              refine bs_putI (W := [(11, 11, 11), (999, 0, 0)]) (g := 11) rfl rfl Hhp28 (bs_R.uq Hhp28 (g := 11) rfl) (by decide) rfl rfl rfl rfl (Or.inl rfl) (by omega) (by omega) fun hp401 Hhp401 fhp401 rhp401 ehp401 qhp401 nhp401 => ?_
                              have Fhp401 := sf_fr_tr Fhp28 (sf_fr_wider (W := [(999, 0, 0), (11, 4, 4), (11, 11, 14), (11, 17, 17)]) rfl fhp401)
                              have h402 : sf_rd hp401 69 4 = some y31 := (ehp401 _ _ (Or.inr (by omega))).trans hy31
                              have h403 : sf_rd hp401 69 13 = some (0 : Int) := (ehp401 _ _ (Or.inr (by omega))).trans cy31
                              refine Ev.step (j := 149) (s' := ([some (.ref 69), some (.int z32), none, none], [.ref 69], (0, 0), hp401)) rfl rfl ?_
                              refine Ev.step (j := 150) (s' := ([some (.ref 69), some (.int z32), none, none], [.int z32, .ref 69], (0, 0), hp401)) rfl rfl ?_
                              refine bs_putI (W := [(11, 14, 14)]) (g := 11) rfl rfl Hhp401 (bs_R.uq Hhp401 (g := 11) rfl) (by decide) rfl rfl rfl rfl (Or.inl rfl) (by omega) (by omega) fun hp404 Hhp404 fhp404 rhp404 ehp404 qhp404 nhp404 => ?_
                              have Fhp404 := sf_fr_tr Fhp401 (sf_fr_wider (W := [(999, 0, 0), (11, 4, 4), (11, 11, 14), (11, 17, 17)]) rfl fhp404)
                              have h405 : sf_rd hp404 69 4 = some y31 := (ehp404 _ _ (Or.inr (by omega))).trans h402
                              have h406 : sf_rd hp404 69 13 = some (0 : Int) := (ehp404 _ _ (Or.inr (by omega))).trans h403
                              have h407 : sf_rd hp404 69 11 = some z400.toInt := (ehp404 _ _ (Or.inr (by omega))).trans rhp401
                              refine Ev.step (j := 154) (s' := ([some (.ref 69), some (.int z32), none, none], [.ref 69], (0, 0), hp404)) rfl rfl ?_
                              exact by
                               refine Ev.step (j := 155) (s' := ([some (.ref 69), some (.int z32), none, none], [.ref 69, .ref 69], (0, 0), hp404)) rfl rfl ?_
                               refine bs_getI 11 rfl rfl rfl Hhp404 (bs_R.uq Hhp404 (g := 11) rfl) (by decide) rfl fun z408 hz408 lz408 gz408 => ?_
                               have e409 : z408.toInt = y31 := Option.some.inj (hz408.symm.trans h405)
                               refine bs_lit (k := 1) rfl rfl fun z410 hz410 => ?_
                               first | (refine bs_add rfl (by omega) (by omega) fun z411 hz411 => ?_) | (refine bs_any rfl fun z411 => ?_)
                               have rz411 := n_range z411
                               refine bs_putI (W := [(11, 4, 4), (999, 0, 0)]) (g := 11) rfl rfl Hhp404 (bs_R.uq Hhp404 (g := 11) rfl) (by decide) rfl rfl rfl rfl (Or.inl rfl) (by omega) (by omega) fun hp412 Hhp412 fhp412 rhp412 ehp412 qhp412 nhp412 => ?_
                               have Fhp412 := sf_fr_tr Fhp404 (sf_fr_wider (W := [(999, 0, 0), (11, 4, 4), (11, 11, 14), (11, 17, 17)]) rfl fhp412)
                               have h413 : sf_rd hp412 69 13 = some (0 : Int) := (ehp412 _ _ (Or.inr (by omega))).trans h406
                               have h414 : sf_rd hp412 69 11 = some z400.toInt := (ehp412 _ _ (Or.inr (by omega))).trans h407
                               have h415 : sf_rd hp412 69 14 = some z32.toInt := (ehp412 _ _ (Or.inr (by omega))).trans rhp404
                               have A1 := psi_ge rhp412 h414
                               have A2 := psi_ge Q4 Q11
                               have PS : sf_psi hp412 ≤ sf_psi hp := by omega
                               exact Ev.ret rfl rfl (by rw [hQ]; exact ⟨t29, Hhp412, (fr_unmark H Fhp412 PS), bs_anU, sf_S_nil, (fun v hv => by have e : v = P0 := Option.some.inj (hv.symm.trans Q4); show sf_psi hp412 ≤ 2 * (940 - v); rw [e]; omega)⟩)
                           · skip
                             refine Ev.step (j := 117) (s' := ([some (.ref 69), some (.int z32), none, none], [.int z32, .ref 69], (0, 0), hp28)) rfl rfl ?_
                             exact by
                              refine bs_lit (k := 40) rfl rfl fun z416 hz416 => ?_
                              refine bs_eq rfl (fun c417 => ?_) (fun c417 => ?_)
                              · skip
                                have c418 : z32.toInt = 40 := by omega
                                refine bs_lit (k := 3) rfl rfl fun z419 hz419 => ?_
                                refine Ev.step (j := 145) (s' := ([some (.ref 69), some (.int z32), none, none], [.int z419, .ref 69], (0, 0), hp28)) rfl rfl ?_
                                refine bs_putI (W := [(11, 11, 11), (999, 0, 0)]) (g := 11) rfl rfl Hhp28 (bs_R.uq Hhp28 (g := 11) rfl) (by decide) rfl rfl rfl rfl (Or.inl rfl) (by omega) (by omega) fun hp420 Hhp420 fhp420 rhp420 ehp420 qhp420 nhp420 => ?_
                                have Fhp420 := sf_fr_tr Fhp28 (sf_fr_wider (W := [(999, 0, 0), (11, 4, 4), (11, 11, 14), (11, 17, 17)]) rfl fhp420)
                                have h421 : sf_rd hp420 69 4 = some y31 := (ehp420 _ _ (Or.inr (by omega))).trans hy31
                                have h422 : sf_rd hp420 69 13 = some (0 : Int) := (ehp420 _ _ (Or.inr (by omega))).trans cy31
                                refine Ev.step (j := 149) (s' := ([some (.ref 69), some (.int z32), none, none], [.ref 69], (0, 0), hp420)) rfl rfl ?_
                                exact by
                                 refine Ev.step (j := 150) (s' := ([some (.ref 69), some (.int z32), none, none], [.int z32, .ref 69], (0, 0), hp420)) rfl rfl ?_
                                 refine bs_putI (W := [(11, 14, 14)]) (g := 11) rfl rfl Hhp420 (bs_R.uq Hhp420 (g := 11) rfl) (by decide) rfl rfl rfl rfl (Or.inl rfl) (by omega) (by omega) fun hp423 Hhp423 fhp423 rhp423 ehp423 qhp423 nhp423 => ?_
                                 have Fhp423 := sf_fr_tr Fhp420 (sf_fr_wider (W := [(999, 0, 0), (11, 4, 4), (11, 11, 14), (11, 17, 17)]) rfl fhp423)
                                 have h424 : sf_rd hp423 69 4 = some y31 := (ehp423 _ _ (Or.inr (by omega))).trans h421
                                 have h425 : sf_rd hp423 69 13 = some (0 : Int) := (ehp423 _ _ (Or.inr (by omega))).trans h422
                                 have h426 : sf_rd hp423 69 11 = some z419.toInt := (ehp423 _ _ (Or.inr (by omega))).trans rhp420
                                 refine Ev.step (j := 154) (s' := ([some (.ref 69), some (.int z32), none, none], [.ref 69], (0, 0), hp423)) rfl rfl ?_
                                 refine Ev.step (j := 155) (s' := ([some (.ref 69), some (.int z32), none, none], [.ref 69, .ref 69], (0, 0), hp423)) rfl rfl ?_
                                 exact by
                                  refine bs_getI 11 rfl rfl rfl Hhp423 (bs_R.uq Hhp423 (g := 11) rfl) (by decide) rfl fun z427 hz427 lz427 gz427 => ?_
                                  have e428 : z427.toInt = y31 := Option.some.inj (hz427.symm.trans h424)
                                  refine bs_lit (k := 1) rfl rfl fun z429 hz429 => ?_
                                  first | (refine bs_add rfl (by omega) (by omega) fun z430 hz430 => ?_) | (refine bs_any rfl fun z430 => ?_)
                                  have rz430 := n_range z430
                                  refine bs_putI (W := [(11, 4, 4), (999, 0, 0)]) (g := 11) rfl rfl Hhp423 (bs_R.uq Hhp423 (g := 11) rfl) (by decide) rfl rfl rfl rfl (Or.inl rfl) (by omega) (by omega) fun hp431 Hhp431 fhp431 rhp431 ehp431 qhp431 nhp431 => ?_
                                  have Fhp431 := sf_fr_tr Fhp423 (sf_fr_wider (W := [(999, 0, 0), (11, 4, 4), (11, 11, 14), (11, 17, 17)]) rfl fhp431)
                                  have h432 : sf_rd hp431 69 13 = some (0 : Int) := (ehp431 _ _ (Or.inr (by omega))).trans h425
                                  have h433 : sf_rd hp431 69 11 = some z419.toInt := (ehp431 _ _ (Or.inr (by omega))).trans h426
                                  have h434 : sf_rd hp431 69 14 = some z32.toInt := (ehp431 _ _ (Or.inr (by omega))).trans rhp423
                                  have A1 := psi_ge rhp431 h433
                                  have A2 := psi_ge Q4 Q11
                                  have PS : sf_psi hp431 ≤ sf_psi hp := by omega
                                  exact Ev.ret rfl rfl (by rw [hQ]; exact ⟨t29, Hhp431, (fr_unmark H Fhp431 PS), bs_anU, sf_S_nil, (fun v hv => by have e : v = P0 := Option.some.inj (hv.symm.trans Q4); show sf_psi hp431 ≤ 2 * (940 - v); rw [e]; omega)⟩)
                              · skip
                                refine Ev.step (j := 123) (s' := ([some (.ref 69), some (.int z32), none, none], [.int z32, .ref 69], (0, 0), hp28)) rfl rfl ?_
                                exact by
                                 refine bs_lit (k := 41) rfl rfl fun z435 hz435 => ?_
                                 refine bs_eq rfl (fun c436 => ?_) (fun c436 => ?_)
                                 · skip
                                   have c437 : z32.toInt = 41 := by omega
                                   refine bs_lit (k := 3) rfl rfl fun z438 hz438 => ?_
                                   refine Ev.step (j := 145) (s' := ([some (.ref 69), some (.int z32), none, none], [.int z438, .ref 69], (0, 0), hp28)) rfl rfl ?_
                                   refine bs_putI (W := [(11, 11, 11), (999, 0, 0)]) (g := 11) rfl rfl Hhp28 (bs_R.uq Hhp28 (g := 11) rfl) (by decide) rfl rfl rfl rfl (Or.inl rfl) (by omega) (by omega) fun hp439 Hhp439 fhp439 rhp439 ehp439 qhp439 nhp439 => ?_
                                   have Fhp439 := sf_fr_tr Fhp28 (sf_fr_wider (W := [(999, 0, 0), (11, 4, 4), (11, 11, 14), (11, 17, 17)]) rfl fhp439)
                                   have h440 : sf_rd hp439 69 4 = some y31 := (ehp439 _ _ (Or.inr (by omega))).trans hy31
                                   have h441 : sf_rd hp439 69 13 = some (0 : Int) := (ehp439 _ _ (Or.inr (by omega))).trans cy31
                                   refine Ev.step (j := 149) (s' := ([some (.ref 69), some (.int z32), none, none], [.ref 69], (0, 0), hp439)) rfl rfl ?_
                                   exact by
                                    refine Ev.step (j := 150) (s' := ([some (.ref 69), some (.int z32), none, none], [.int z32, .ref 69], (0, 0), hp439)) rfl rfl ?_
                                    refine bs_putI (W := [(11, 14, 14)]) (g := 11) rfl rfl Hhp439 (bs_R.uq Hhp439 (g := 11) rfl) (by decide) rfl rfl rfl rfl (Or.inl rfl) (by omega) (by omega) fun hp442 Hhp442 fhp442 rhp442 ehp442 qhp442 nhp442 => ?_
                                    have Fhp442 := sf_fr_tr Fhp439 (sf_fr_wider (W := [(999, 0, 0), (11, 4, 4), (11, 11, 14), (11, 17, 17)]) rfl fhp442)
                                    have h443 : sf_rd hp442 69 4 = some y31 := (ehp442 _ _ (Or.inr (by omega))).trans h440
                                    have h444 : sf_rd hp442 69 13 = some (0 : Int) := (ehp442 _ _ (Or.inr (by omega))).trans h441
                                    have h445 : sf_rd hp442 69 11 = some z438.toInt := (ehp442 _ _ (Or.inr (by omega))).trans rhp439
                                    refine Ev.step (j := 154) (s' := ([some (.ref 69), some (.int z32), none, none], [.ref 69], (0, 0), hp442)) rfl rfl ?_
                                    refine Ev.step (j := 155) (s' := ([some (.ref 69), some (.int z32), none, none], [.ref 69, .ref 69], (0, 0), hp442)) rfl rfl ?_
                                    exact by
                                     refine bs_getI 11 rfl rfl rfl Hhp442 (bs_R.uq Hhp442 (g := 11) rfl) (by decide) rfl fun z446 hz446 lz446 gz446 => ?_
                                     have e447 : z446.toInt = y31 := Option.some.inj (hz446.symm.trans h443)
                                     refine bs_lit (k := 1) rfl rfl fun z448 hz448 => ?_
                                     first | (refine bs_add rfl (by omega) (by omega) fun z449 hz449 => ?_) | (refine bs_any rfl fun z449 => ?_)
                                     have rz449 := n_range z449
                                     refine bs_putI (W := [(11, 4, 4), (999, 0, 0)]) (g := 11) rfl rfl Hhp442 (bs_R.uq Hhp442 (g := 11) rfl) (by decide) rfl rfl rfl rfl (Or.inl rfl) (by omega) (by omega) fun hp450 Hhp450 fhp450 rhp450 ehp450 qhp450 nhp450 => ?_
                                     have Fhp450 := sf_fr_tr Fhp442 (sf_fr_wider (W := [(999, 0, 0), (11, 4, 4), (11, 11, 14), (11, 17, 17)]) rfl fhp450)
                                     have h451 : sf_rd hp450 69 13 = some (0 : Int) := (ehp450 _ _ (Or.inr (by omega))).trans h444
                                     have h452 : sf_rd hp450 69 11 = some z438.toInt := (ehp450 _ _ (Or.inr (by omega))).trans h445
                                     have h453 : sf_rd hp450 69 14 = some z32.toInt := (ehp450 _ _ (Or.inr (by omega))).trans rhp442
                                     have A1 := psi_ge rhp450 h452
                                     have A2 := psi_ge Q4 Q11
                                     have PS : sf_psi hp450 ≤ sf_psi hp := by omega
                                     exact Ev.ret rfl rfl (by rw [hQ]; exact ⟨t29, Hhp450, (fr_unmark H Fhp450 PS), bs_anU, sf_S_nil, (fun v hv => by have e : v = P0 := Option.some.inj (hv.symm.trans Q4); show sf_psi hp450 ≤ 2 * (940 - v); rw [e]; omega)⟩)
                                 · skip
                                   refine Ev.step (j := 129) (s' := ([some (.ref 69), some (.int z32), none, none], [.int z32, .ref 69], (0, 0), hp28)) rfl rfl ?_
                                   exact by
                                    refine bs_lit (k := 60) rfl rfl fun z454 hz454 => ?_
                                    refine bs_lt rfl (fun c455 => ?_) (fun c455 => ?_)
                                    · skip
                                      refine bs_lit (k := 4) rfl rfl fun z456 hz456 => ?_
                                      refine bs_putI (W := [(11, 11, 11), (999, 0, 0)]) (g := 11) rfl rfl Hhp28 (bs_R.uq Hhp28 (g := 11) rfl) (by decide) rfl rfl rfl rfl (Or.inl rfl) (by omega) (by omega) fun hp457 Hhp457 fhp457 rhp457 ehp457 qhp457 nhp457 => ?_
                                      have Fhp457 := sf_fr_tr Fhp28 (sf_fr_wider (W := [(999, 0, 0), (11, 4, 4), (11, 11, 14), (11, 17, 17)]) rfl fhp457)
                                      have h458 : sf_rd hp457 69 4 = some y31 := (ehp457 _ _ (Or.inr (by omega))).trans hy31
                                      have h459 : sf_rd hp457 69 13 = some (0 : Int) := (ehp457 _ _ (Or.inr (by omega))).trans cy31
                                      refine Ev.step (j := 149) (s' := ([some (.ref 69), some (.int z32), none, none], [.ref 69], (0, 0), hp457)) rfl rfl ?_
                                      exact by
                                       refine Ev.step (j := 150) (s' := ([some (.ref 69), some (.int z32), none, none], [.int z32, .ref 69], (0, 0), hp457)) rfl rfl ?_
                                       refine bs_putI (W := [(11, 14, 14)]) (g := 11) rfl rfl Hhp457 (bs_R.uq Hhp457 (g := 11) rfl) (by decide) rfl rfl rfl rfl (Or.inl rfl) (by omega) (by omega) fun hp460 Hhp460 fhp460 rhp460 ehp460 qhp460 nhp460 => ?_
                                       have Fhp460 := sf_fr_tr Fhp457 (sf_fr_wider (W := [(999, 0, 0), (11, 4, 4), (11, 11, 14), (11, 17, 17)]) rfl fhp460)
                                       have h461 : sf_rd hp460 69 4 = some y31 := (ehp460 _ _ (Or.inr (by omega))).trans h458
                                       have h462 : sf_rd hp460 69 13 = some (0 : Int) := (ehp460 _ _ (Or.inr (by omega))).trans h459
                                       have h463 : sf_rd hp460 69 11 = some z456.toInt := (ehp460 _ _ (Or.inr (by omega))).trans rhp457
                                       refine Ev.step (j := 154) (s' := ([some (.ref 69), some (.int z32), none, none], [.ref 69], (0, 0), hp460)) rfl rfl ?_
                                       refine Ev.step (j := 155) (s' := ([some (.ref 69), some (.int z32), none, none], [.ref 69, .ref 69], (0, 0), hp460)) rfl rfl ?_
                                       exact by
                                        refine bs_getI 11 rfl rfl rfl Hhp460 (bs_R.uq Hhp460 (g := 11) rfl) (by decide) rfl fun z464 hz464 lz464 gz464 => ?_
                                        have e465 : z464.toInt = y31 := Option.some.inj (hz464.symm.trans h461)
                                        refine bs_lit (k := 1) rfl rfl fun z466 hz466 => ?_
                                        first | (refine bs_add rfl (by omega) (by omega) fun z467 hz467 => ?_) | (refine bs_any rfl fun z467 => ?_)
                                        have rz467 := n_range z467
                                        refine bs_putI (W := [(11, 4, 4), (999, 0, 0)]) (g := 11) rfl rfl Hhp460 (bs_R.uq Hhp460 (g := 11) rfl) (by decide) rfl rfl rfl rfl (Or.inl rfl) (by omega) (by omega) fun hp468 Hhp468 fhp468 rhp468 ehp468 qhp468 nhp468 => ?_
                                        have Fhp468 := sf_fr_tr Fhp460 (sf_fr_wider (W := [(999, 0, 0), (11, 4, 4), (11, 11, 14), (11, 17, 17)]) rfl fhp468)
                                        have h469 : sf_rd hp468 69 13 = some (0 : Int) := (ehp468 _ _ (Or.inr (by omega))).trans h462
                                        have h470 : sf_rd hp468 69 11 = some z456.toInt := (ehp468 _ _ (Or.inr (by omega))).trans h463
                                        have h471 : sf_rd hp468 69 14 = some z32.toInt := (ehp468 _ _ (Or.inr (by omega))).trans rhp460
                                        have A1 := psi_ge rhp468 h470
                                        have A2 := psi_ge Q4 Q11
                                        have PS : sf_psi hp468 ≤ sf_psi hp := by omega
                                        exact Ev.ret rfl rfl (by rw [hQ]; exact ⟨t29, Hhp468, (fr_unmark H Fhp468 PS), bs_anU, sf_S_nil, (fun v hv => by have e : v = P0 := Option.some.inj (hv.symm.trans Q4); show sf_psi hp468 ≤ 2 * (940 - v); rw [e]; omega)⟩)
                                    · skip
                                      refine Ev.step (j := 135) (s' := ([some (.ref 69), some (.int z32), none, none], [.int z32, .ref 69], (0, 0), hp28)) rfl rfl ?_
                                      exact by
                                       refine bs_lit (k := 62) rfl rfl fun z472 hz472 => ?_
                                       refine bs_gt rfl (fun c473 => ?_) (fun c473 => ?_)
                                       · skip
                                         refine bs_lit (k := 4) rfl rfl fun z474 hz474 => ?_
                                         refine bs_putI (W := [(11, 11, 11), (999, 0, 0)]) (g := 11) rfl rfl Hhp28 (bs_R.uq Hhp28 (g := 11) rfl) (by decide) rfl rfl rfl rfl (Or.inl rfl) (by omega) (by omega) fun hp475 Hhp475 fhp475 rhp475 ehp475 qhp475 nhp475 => ?_
                                         have Fhp475 := sf_fr_tr Fhp28 (sf_fr_wider (W := [(999, 0, 0), (11, 4, 4), (11, 11, 14), (11, 17, 17)]) rfl fhp475)
                                         have h476 : sf_rd hp475 69 4 = some y31 := (ehp475 _ _ (Or.inr (by omega))).trans hy31
                                         have h477 : sf_rd hp475 69 13 = some (0 : Int) := (ehp475 _ _ (Or.inr (by omega))).trans cy31
                                         refine Ev.step (j := 149) (s' := ([some (.ref 69), some (.int z32), none, none], [.ref 69], (0, 0), hp475)) rfl rfl ?_
                                         exact by
                                          refine Ev.step (j := 150) (s' := ([some (.ref 69), some (.int z32), none, none], [.int z32, .ref 69], (0, 0), hp475)) rfl rfl ?_
                                          refine bs_putI (W := [(11, 14, 14)]) (g := 11) rfl rfl Hhp475 (bs_R.uq Hhp475 (g := 11) rfl) (by decide) rfl rfl rfl rfl (Or.inl rfl) (by omega) (by omega) fun hp478 Hhp478 fhp478 rhp478 ehp478 qhp478 nhp478 => ?_
                                          have Fhp478 := sf_fr_tr Fhp475 (sf_fr_wider (W := [(999, 0, 0), (11, 4, 4), (11, 11, 14), (11, 17, 17)]) rfl fhp478)
                                          have h479 : sf_rd hp478 69 4 = some y31 := (ehp478 _ _ (Or.inr (by omega))).trans h476
                                          have h480 : sf_rd hp478 69 13 = some (0 : Int) := (ehp478 _ _ (Or.inr (by omega))).trans h477
                                          have h481 : sf_rd hp478 69 11 = some z474.toInt := (ehp478 _ _ (Or.inr (by omega))).trans rhp475
                                          refine Ev.step (j := 154) (s' := ([some (.ref 69), some (.int z32), none, none], [.ref 69], (0, 0), hp478)) rfl rfl ?_
                                          refine Ev.step (j := 155) (s' := ([some (.ref 69), some (.int z32), none, none], [.ref 69, .ref 69], (0, 0), hp478)) rfl rfl ?_
                                          exact by
                                           refine bs_getI 11 rfl rfl rfl Hhp478 (bs_R.uq Hhp478 (g := 11) rfl) (by decide) rfl fun z482 hz482 lz482 gz482 => ?_
                                           have e483 : z482.toInt = y31 := Option.some.inj (hz482.symm.trans h479)
                                           refine bs_lit (k := 1) rfl rfl fun z484 hz484 => ?_
                                           first | (refine bs_add rfl (by omega) (by omega) fun z485 hz485 => ?_) | (refine bs_any rfl fun z485 => ?_)
                                           have rz485 := n_range z485
                                           refine bs_putI (W := [(11, 4, 4), (999, 0, 0)]) (g := 11) rfl rfl Hhp478 (bs_R.uq Hhp478 (g := 11) rfl) (by decide) rfl rfl rfl rfl (Or.inl rfl) (by omega) (by omega) fun hp486 Hhp486 fhp486 rhp486 ehp486 qhp486 nhp486 => ?_
                                           have Fhp486 := sf_fr_tr Fhp478 (sf_fr_wider (W := [(999, 0, 0), (11, 4, 4), (11, 11, 14), (11, 17, 17)]) rfl fhp486)
                                           have h487 : sf_rd hp486 69 13 = some (0 : Int) := (ehp486 _ _ (Or.inr (by omega))).trans h480
                                           have h488 : sf_rd hp486 69 11 = some z474.toInt := (ehp486 _ _ (Or.inr (by omega))).trans h481
                                           have h489 : sf_rd hp486 69 14 = some z32.toInt := (ehp486 _ _ (Or.inr (by omega))).trans rhp478
                                           have A1 := psi_ge rhp486 h488
                                           have A2 := psi_ge Q4 Q11
                                           have PS : sf_psi hp486 ≤ sf_psi hp := by omega
                                           exact Ev.ret rfl rfl (by rw [hQ]; exact ⟨t29, Hhp486, (fr_unmark H Fhp486 PS), bs_anU, sf_S_nil, (fun v hv => by have e : v = P0 := Option.some.inj (hv.symm.trans Q4); show sf_psi hp486 ≤ 2 * (940 - v); rw [e]; omega)⟩)
                                       · skip
                                         refine bs_lit (k := 3) rfl rfl fun z490 hz490 => ?_
                                         exact by
                                          refine Ev.step (j := 145) (s' := ([some (.ref 69), some (.int z32), none, none], [.int z490, .ref 69], (0, 0), hp28)) rfl rfl ?_
                                          refine bs_putI (W := [(11, 11, 11), (999, 0, 0)]) (g := 11) rfl rfl Hhp28 (bs_R.uq Hhp28 (g := 11) rfl) (by decide) rfl rfl rfl rfl (Or.inl rfl) (by omega) (by omega) fun hp491 Hhp491 fhp491 rhp491 ehp491 qhp491 nhp491 => ?_
                                          have Fhp491 := sf_fr_tr Fhp28 (sf_fr_wider (W := [(999, 0, 0), (11, 4, 4), (11, 11, 14), (11, 17, 17)]) rfl fhp491)
                                          have h492 : sf_rd hp491 69 4 = some y31 := (ehp491 _ _ (Or.inr (by omega))).trans hy31
                                          have h493 : sf_rd hp491 69 13 = some (0 : Int) := (ehp491 _ _ (Or.inr (by omega))).trans cy31
                                          refine Ev.step (j := 149) (s' := ([some (.ref 69), some (.int z32), none, none], [.ref 69], (0, 0), hp491)) rfl rfl ?_
                                          refine Ev.step (j := 150) (s' := ([some (.ref 69), some (.int z32), none, none], [.int z32, .ref 69], (0, 0), hp491)) rfl rfl ?_
                                          refine bs_putI (W := [(11, 14, 14)]) (g := 11) rfl rfl Hhp491 (bs_R.uq Hhp491 (g := 11) rfl) (by decide) rfl rfl rfl rfl (Or.inl rfl) (by omega) (by omega) fun hp494 Hhp494 fhp494 rhp494 ehp494 qhp494 nhp494 => ?_
                                          have Fhp494 := sf_fr_tr Fhp491 (sf_fr_wider (W := [(999, 0, 0), (11, 4, 4), (11, 11, 14), (11, 17, 17)]) rfl fhp494)
                                          have h495 : sf_rd hp494 69 4 = some y31 := (ehp494 _ _ (Or.inr (by omega))).trans h492
                                          have h496 : sf_rd hp494 69 13 = some (0 : Int) := (ehp494 _ _ (Or.inr (by omega))).trans h493
                                          have h497 : sf_rd hp494 69 11 = some z490.toInt := (ehp494 _ _ (Or.inr (by omega))).trans rhp491
                                          refine Ev.step (j := 154) (s' := ([some (.ref 69), some (.int z32), none, none], [.ref 69], (0, 0), hp494)) rfl rfl ?_
                                          exact by
                                           refine Ev.step (j := 155) (s' := ([some (.ref 69), some (.int z32), none, none], [.ref 69, .ref 69], (0, 0), hp494)) rfl rfl ?_
                                           refine bs_getI 11 rfl rfl rfl Hhp494 (bs_R.uq Hhp494 (g := 11) rfl) (by decide) rfl fun z498 hz498 lz498 gz498 => ?_
                                           have e499 : z498.toInt = y31 := Option.some.inj (hz498.symm.trans h495)
                                           refine bs_lit (k := 1) rfl rfl fun z500 hz500 => ?_
                                           first | (refine bs_add rfl (by omega) (by omega) fun z501 hz501 => ?_) | (refine bs_any rfl fun z501 => ?_)
                                           have rz501 := n_range z501
                                           refine bs_putI (W := [(11, 4, 4), (999, 0, 0)]) (g := 11) rfl rfl Hhp494 (bs_R.uq Hhp494 (g := 11) rfl) (by decide) rfl rfl rfl rfl (Or.inl rfl) (by omega) (by omega) fun hp502 Hhp502 fhp502 rhp502 ehp502 qhp502 nhp502 => ?_
                                           have Fhp502 := sf_fr_tr Fhp494 (sf_fr_wider (W := [(999, 0, 0), (11, 4, 4), (11, 11, 14), (11, 17, 17)]) rfl fhp502)
                                           have h503 : sf_rd hp502 69 13 = some (0 : Int) := (ehp502 _ _ (Or.inr (by omega))).trans h496
                                           have h504 : sf_rd hp502 69 11 = some z490.toInt := (ehp502 _ _ (Or.inr (by omega))).trans h497
                                           have h505 : sf_rd hp502 69 14 = some z32.toInt := (ehp502 _ _ (Or.inr (by omega))).trans rhp494
                                           have A1 := psi_ge rhp502 h504
                                           have A2 := psi_ge Q4 Q11
                                           have PS : sf_psi hp502 ≤ sf_psi hp := by omega
                                           exact Ev.ret rfl rfl (by rw [hQ]; exact ⟨t29, Hhp502, (fr_unmark H Fhp502 PS), bs_anU, sf_S_nil, (fun v hv => by have e : v = P0 := Option.some.inj (hv.symm.trans Q4); show sf_psi hp502 ≤ 2 * (940 - v); rw [e]; omega)⟩)
                      · skip
                        refine Ev.step (j := 7) (s' := ([some (.int z32)], [.int z32], (0, 0), hp28)) rfl rfl ?_
                        exact by
                         refine bs_lit (k := 57) rfl rfl fun z506 hz506 => ?_
                         refine bs_gt rfl (fun c507 => ?_) (fun c507 => ?_)
                         · skip
                           refine bs_lit (k := 0) rfl rfl fun z508 hz508 => ?_
                           refine bs_zret rfl rfl (by omega) (by omega) ?_
                           rw [← hQ392]
                           refine (show Ev _ 106 ([some (.ref 69), some (.int z32), none, none], [.int z508], (0, 0), hp28) _ from ?_)
                           refine bs_ifne rfl (fun c509 => ?_) (fun c509 => ?_)
                           · exfalso; omega
                           · skip
                             refine Ev.step (j := 110) (s' := ([some (.ref 69), some (.int z32), none, none], [.ref 69], (0, 0), hp28)) rfl rfl ?_
                             refine Ev.step (j := 111) (s' := ([some (.ref 69), some (.int z32), none, none], [.int z32, .ref 69], (0, 0), hp28)) rfl rfl ?_
                             exact by
                              refine bs_lit (k := 59) rfl rfl fun z510 hz510 => ?_
                              refine bs_eq rfl (fun c511 => ?_) (fun c511 => ?_)
                              · skip
                                have c512 : z32.toInt = 59 := by omega
                                refine bs_lit (k := 3) rfl rfl fun z513 hz513 => ?_
                                refine Ev.step (j := 145) (s' := ([some (.ref 69), some (.int z32), none, none], [.int z513, .ref 69], (0, 0), hp28)) rfl rfl ?_
                                refine bs_putI (W := [(11, 11, 11), (999, 0, 0)]) (g := 11) rfl rfl Hhp28 (bs_R.uq Hhp28 (g := 11) rfl) (by decide) rfl rfl rfl rfl (Or.inl rfl) (by omega) (by omega) fun hp514 Hhp514 fhp514 rhp514 ehp514 qhp514 nhp514 => ?_
                                have Fhp514 := sf_fr_tr Fhp28 (sf_fr_wider (W := [(999, 0, 0), (11, 4, 4), (11, 11, 14), (11, 17, 17)]) rfl fhp514)
                                have h515 : sf_rd hp514 69 4 = some y31 := (ehp514 _ _ (Or.inr (by omega))).trans hy31
                                have h516 : sf_rd hp514 69 13 = some (0 : Int) := (ehp514 _ _ (Or.inr (by omega))).trans cy31
                                refine Ev.step (j := 149) (s' := ([some (.ref 69), some (.int z32), none, none], [.ref 69], (0, 0), hp514)) rfl rfl ?_
                                exact by
                                 refine Ev.step (j := 150) (s' := ([some (.ref 69), some (.int z32), none, none], [.int z32, .ref 69], (0, 0), hp514)) rfl rfl ?_
                                 refine bs_putI (W := [(11, 14, 14)]) (g := 11) rfl rfl Hhp514 (bs_R.uq Hhp514 (g := 11) rfl) (by decide) rfl rfl rfl rfl (Or.inl rfl) (by omega) (by omega) fun hp517 Hhp517 fhp517 rhp517 ehp517 qhp517 nhp517 => ?_
                                 have Fhp517 := sf_fr_tr Fhp514 (sf_fr_wider (W := [(999, 0, 0), (11, 4, 4), (11, 11, 14), (11, 17, 17)]) rfl fhp517)
                                 have h518 : sf_rd hp517 69 4 = some y31 := (ehp517 _ _ (Or.inr (by omega))).trans h515
                                 have h519 : sf_rd hp517 69 13 = some (0 : Int) := (ehp517 _ _ (Or.inr (by omega))).trans h516
                                 have h520 : sf_rd hp517 69 11 = some z513.toInt := (ehp517 _ _ (Or.inr (by omega))).trans rhp514
                                 refine Ev.step (j := 154) (s' := ([some (.ref 69), some (.int z32), none, none], [.ref 69], (0, 0), hp517)) rfl rfl ?_
                                 refine Ev.step (j := 155) (s' := ([some (.ref 69), some (.int z32), none, none], [.ref 69, .ref 69], (0, 0), hp517)) rfl rfl ?_
                                 exact by
                                  refine bs_getI 11 rfl rfl rfl Hhp517 (bs_R.uq Hhp517 (g := 11) rfl) (by decide) rfl fun z521 hz521 lz521 gz521 => ?_
                                  have e522 : z521.toInt = y31 := Option.some.inj (hz521.symm.trans h518)
                                  refine bs_lit (k := 1) rfl rfl fun z523 hz523 => ?_
                                  first | (refine bs_add rfl (by omega) (by omega) fun z524 hz524 => ?_) | (refine bs_any rfl fun z524 => ?_)
                                  have rz524 := n_range z524
                                  refine bs_putI (W := [(11, 4, 4), (999, 0, 0)]) (g := 11) rfl rfl Hhp517 (bs_R.uq Hhp517 (g := 11) rfl) (by decide) rfl rfl rfl rfl (Or.inl rfl) (by omega) (by omega) fun hp525 Hhp525 fhp525 rhp525 ehp525 qhp525 nhp525 => ?_
                                  have Fhp525 := sf_fr_tr Fhp517 (sf_fr_wider (W := [(999, 0, 0), (11, 4, 4), (11, 11, 14), (11, 17, 17)]) rfl fhp525)
                                  have h526 : sf_rd hp525 69 13 = some (0 : Int) := (ehp525 _ _ (Or.inr (by omega))).trans h519
                                  have h527 : sf_rd hp525 69 11 = some z513.toInt := (ehp525 _ _ (Or.inr (by omega))).trans h520
                                  have h528 : sf_rd hp525 69 14 = some z32.toInt := (ehp525 _ _ (Or.inr (by omega))).trans rhp517
                                  have A1 := psi_ge rhp525 h527
                                  have A2 := psi_ge Q4 Q11
                                  have PS : sf_psi hp525 ≤ sf_psi hp := by omega
                                  exact Ev.ret rfl rfl (by rw [hQ]; exact ⟨t29, Hhp525, (fr_unmark H Fhp525 PS), bs_anU, sf_S_nil, (fun v hv => by have e : v = P0 := Option.some.inj (hv.symm.trans Q4); show sf_psi hp525 ≤ 2 * (940 - v); rw [e]; omega)⟩)
                              · skip
                                refine Ev.step (j := 117) (s' := ([some (.ref 69), some (.int z32), none, none], [.int z32, .ref 69], (0, 0), hp28)) rfl rfl ?_
                                exact by
                                 refine bs_lit (k := 40) rfl rfl fun z529 hz529 => ?_
                                 refine bs_eq rfl (fun c530 => ?_) (fun c530 => ?_)
                                 · skip
                                   have c531 : z32.toInt = 40 := by omega
                                   refine bs_lit (k := 3) rfl rfl fun z532 hz532 => ?_
                                   refine Ev.step (j := 145) (s' := ([some (.ref 69), some (.int z32), none, none], [.int z532, .ref 69], (0, 0), hp28)) rfl rfl ?_
                                   refine bs_putI (W := [(11, 11, 11), (999, 0, 0)]) (g := 11) rfl rfl Hhp28 (bs_R.uq Hhp28 (g := 11) rfl) (by decide) rfl rfl rfl rfl (Or.inl rfl) (by omega) (by omega) fun hp533 Hhp533 fhp533 rhp533 ehp533 qhp533 nhp533 => ?_
                                   have Fhp533 := sf_fr_tr Fhp28 (sf_fr_wider (W := [(999, 0, 0), (11, 4, 4), (11, 11, 14), (11, 17, 17)]) rfl fhp533)
                                   have h534 : sf_rd hp533 69 4 = some y31 := (ehp533 _ _ (Or.inr (by omega))).trans hy31
                                   have h535 : sf_rd hp533 69 13 = some (0 : Int) := (ehp533 _ _ (Or.inr (by omega))).trans cy31
                                   refine Ev.step (j := 149) (s' := ([some (.ref 69), some (.int z32), none, none], [.ref 69], (0, 0), hp533)) rfl rfl ?_
                                   exact by
                                    refine Ev.step (j := 150) (s' := ([some (.ref 69), some (.int z32), none, none], [.int z32, .ref 69], (0, 0), hp533)) rfl rfl ?_
                                    refine bs_putI (W := [(11, 14, 14)]) (g := 11) rfl rfl Hhp533 (bs_R.uq Hhp533 (g := 11) rfl) (by decide) rfl rfl rfl rfl (Or.inl rfl) (by omega) (by omega) fun hp536 Hhp536 fhp536 rhp536 ehp536 qhp536 nhp536 => ?_
                                    have Fhp536 := sf_fr_tr Fhp533 (sf_fr_wider (W := [(999, 0, 0), (11, 4, 4), (11, 11, 14), (11, 17, 17)]) rfl fhp536)
                                    have h537 : sf_rd hp536 69 4 = some y31 := (ehp536 _ _ (Or.inr (by omega))).trans h534
                                    have h538 : sf_rd hp536 69 13 = some (0 : Int) := (ehp536 _ _ (Or.inr (by omega))).trans h535
                                    have h539 : sf_rd hp536 69 11 = some z532.toInt := (ehp536 _ _ (Or.inr (by omega))).trans rhp533
                                    refine Ev.step (j := 154) (s' := ([some (.ref 69), some (.int z32), none, none], [.ref 69], (0, 0), hp536)) rfl rfl ?_
                                    refine Ev.step (j := 155) (s' := ([some (.ref 69), some (.int z32), none, none], [.ref 69, .ref 69], (0, 0), hp536)) rfl rfl ?_
                                    exact by
                                     refine bs_getI 11 rfl rfl rfl Hhp536 (bs_R.uq Hhp536 (g := 11) rfl) (by decide) rfl fun z540 hz540 lz540 gz540 => ?_
                                     have e541 : z540.toInt = y31 := Option.some.inj (hz540.symm.trans h537)
                                     refine bs_lit (k := 1) rfl rfl fun z542 hz542 => ?_
                                     first | (refine bs_add rfl (by omega) (by omega) fun z543 hz543 => ?_) | (refine bs_any rfl fun z543 => ?_)
                                     have rz543 := n_range z543
                                     refine bs_putI (W := [(11, 4, 4), (999, 0, 0)]) (g := 11) rfl rfl Hhp536 (bs_R.uq Hhp536 (g := 11) rfl) (by decide) rfl rfl rfl rfl (Or.inl rfl) (by omega) (by omega) fun hp544 Hhp544 fhp544 rhp544 ehp544 qhp544 nhp544 => ?_
                                     have Fhp544 := sf_fr_tr Fhp536 (sf_fr_wider (W := [(999, 0, 0), (11, 4, 4), (11, 11, 14), (11, 17, 17)]) rfl fhp544)
                                     have h545 : sf_rd hp544 69 13 = some (0 : Int) := (ehp544 _ _ (Or.inr (by omega))).trans h538
                                     have h546 : sf_rd hp544 69 11 = some z532.toInt := (ehp544 _ _ (Or.inr (by omega))).trans h539
                                     have h547 : sf_rd hp544 69 14 = some z32.toInt := (ehp544 _ _ (Or.inr (by omega))).trans rhp536
                                     have A1 := psi_ge rhp544 h546
                                     have A2 := psi_ge Q4 Q11
                                     have PS : sf_psi hp544 ≤ sf_psi hp := by omega
                                     exact Ev.ret rfl rfl (by rw [hQ]; exact ⟨t29, Hhp544, (fr_unmark H Fhp544 PS), bs_anU, sf_S_nil, (fun v hv => by have e : v = P0 := Option.some.inj (hv.symm.trans Q4); show sf_psi hp544 ≤ 2 * (940 - v); rw [e]; omega)⟩)
                                 · skip
                                   refine Ev.step (j := 123) (s' := ([some (.ref 69), some (.int z32), none, none], [.int z32, .ref 69], (0, 0), hp28)) rfl rfl ?_
                                   exact by
                                    refine bs_lit (k := 41) rfl rfl fun z548 hz548 => ?_
                                    refine bs_eq rfl (fun c549 => ?_) (fun c549 => ?_)
                                    · skip
                                      have c550 : z32.toInt = 41 := by omega
                                      refine bs_lit (k := 3) rfl rfl fun z551 hz551 => ?_
                                      refine Ev.step (j := 145) (s' := ([some (.ref 69), some (.int z32), none, none], [.int z551, .ref 69], (0, 0), hp28)) rfl rfl ?_
                                      refine bs_putI (W := [(11, 11, 11), (999, 0, 0)]) (g := 11) rfl rfl Hhp28 (bs_R.uq Hhp28 (g := 11) rfl) (by decide) rfl rfl rfl rfl (Or.inl rfl) (by omega) (by omega) fun hp552 Hhp552 fhp552 rhp552 ehp552 qhp552 nhp552 => ?_
                                      have Fhp552 := sf_fr_tr Fhp28 (sf_fr_wider (W := [(999, 0, 0), (11, 4, 4), (11, 11, 14), (11, 17, 17)]) rfl fhp552)
                                      have h553 : sf_rd hp552 69 4 = some y31 := (ehp552 _ _ (Or.inr (by omega))).trans hy31
                                      have h554 : sf_rd hp552 69 13 = some (0 : Int) := (ehp552 _ _ (Or.inr (by omega))).trans cy31
                                      refine Ev.step (j := 149) (s' := ([some (.ref 69), some (.int z32), none, none], [.ref 69], (0, 0), hp552)) rfl rfl ?_
                                      exact by
                                       refine Ev.step (j := 150) (s' := ([some (.ref 69), some (.int z32), none, none], [.int z32, .ref 69], (0, 0), hp552)) rfl rfl ?_
                                       refine bs_putI (W := [(11, 14, 14)]) (g := 11) rfl rfl Hhp552 (bs_R.uq Hhp552 (g := 11) rfl) (by decide) rfl rfl rfl rfl (Or.inl rfl) (by omega) (by omega) fun hp555 Hhp555 fhp555 rhp555 ehp555 qhp555 nhp555 => ?_
                                       have Fhp555 := sf_fr_tr Fhp552 (sf_fr_wider (W := [(999, 0, 0), (11, 4, 4), (11, 11, 14), (11, 17, 17)]) rfl fhp555)
                                       have h556 : sf_rd hp555 69 4 = some y31 := (ehp555 _ _ (Or.inr (by omega))).trans h553
                                       have h557 : sf_rd hp555 69 13 = some (0 : Int) := (ehp555 _ _ (Or.inr (by omega))).trans h554
                                       have h558 : sf_rd hp555 69 11 = some z551.toInt := (ehp555 _ _ (Or.inr (by omega))).trans rhp552
                                       refine Ev.step (j := 154) (s' := ([some (.ref 69), some (.int z32), none, none], [.ref 69], (0, 0), hp555)) rfl rfl ?_
                                       refine Ev.step (j := 155) (s' := ([some (.ref 69), some (.int z32), none, none], [.ref 69, .ref 69], (0, 0), hp555)) rfl rfl ?_
                                       exact by
                                        refine bs_getI 11 rfl rfl rfl Hhp555 (bs_R.uq Hhp555 (g := 11) rfl) (by decide) rfl fun z559 hz559 lz559 gz559 => ?_
                                        have e560 : z559.toInt = y31 := Option.some.inj (hz559.symm.trans h556)
                                        refine bs_lit (k := 1) rfl rfl fun z561 hz561 => ?_
                                        first | (refine bs_add rfl (by omega) (by omega) fun z562 hz562 => ?_) | (refine bs_any rfl fun z562 => ?_)
                                        have rz562 := n_range z562
                                        refine bs_putI (W := [(11, 4, 4), (999, 0, 0)]) (g := 11) rfl rfl Hhp555 (bs_R.uq Hhp555 (g := 11) rfl) (by decide) rfl rfl rfl rfl (Or.inl rfl) (by omega) (by omega) fun hp563 Hhp563 fhp563 rhp563 ehp563 qhp563 nhp563 => ?_
                                        have Fhp563 := sf_fr_tr Fhp555 (sf_fr_wider (W := [(999, 0, 0), (11, 4, 4), (11, 11, 14), (11, 17, 17)]) rfl fhp563)
                                        have h564 : sf_rd hp563 69 13 = some (0 : Int) := (ehp563 _ _ (Or.inr (by omega))).trans h557
                                        have h565 : sf_rd hp563 69 11 = some z551.toInt := (ehp563 _ _ (Or.inr (by omega))).trans h558
                                        have h566 : sf_rd hp563 69 14 = some z32.toInt := (ehp563 _ _ (Or.inr (by omega))).trans rhp555
                                        have A1 := psi_ge rhp563 h565
                                        have A2 := psi_ge Q4 Q11
                                        have PS : sf_psi hp563 ≤ sf_psi hp := by omega
                                        exact Ev.ret rfl rfl (by rw [hQ]; exact ⟨t29, Hhp563, (fr_unmark H Fhp563 PS), bs_anU, sf_S_nil, (fun v hv => by have e : v = P0 := Option.some.inj (hv.symm.trans Q4); show sf_psi hp563 ≤ 2 * (940 - v); rw [e]; omega)⟩)
                                    · skip
                                      refine Ev.step (j := 129) (s' := ([some (.ref 69), some (.int z32), none, none], [.int z32, .ref 69], (0, 0), hp28)) rfl rfl ?_
                                      exact by
                                       refine bs_lit (k := 60) rfl rfl fun z567 hz567 => ?_
                                       refine bs_lt rfl (fun c568 => ?_) (fun c568 => ?_)
                                       · skip
                                         refine bs_lit (k := 4) rfl rfl fun z569 hz569 => ?_
                                         refine bs_putI (W := [(11, 11, 11), (999, 0, 0)]) (g := 11) rfl rfl Hhp28 (bs_R.uq Hhp28 (g := 11) rfl) (by decide) rfl rfl rfl rfl (Or.inl rfl) (by omega) (by omega) fun hp570 Hhp570 fhp570 rhp570 ehp570 qhp570 nhp570 => ?_
                                         have Fhp570 := sf_fr_tr Fhp28 (sf_fr_wider (W := [(999, 0, 0), (11, 4, 4), (11, 11, 14), (11, 17, 17)]) rfl fhp570)
                                         have h571 : sf_rd hp570 69 4 = some y31 := (ehp570 _ _ (Or.inr (by omega))).trans hy31
                                         have h572 : sf_rd hp570 69 13 = some (0 : Int) := (ehp570 _ _ (Or.inr (by omega))).trans cy31
                                         refine Ev.step (j := 149) (s' := ([some (.ref 69), some (.int z32), none, none], [.ref 69], (0, 0), hp570)) rfl rfl ?_
                                         exact by
                                          refine Ev.step (j := 150) (s' := ([some (.ref 69), some (.int z32), none, none], [.int z32, .ref 69], (0, 0), hp570)) rfl rfl ?_
                                          refine bs_putI (W := [(11, 14, 14)]) (g := 11) rfl rfl Hhp570 (bs_R.uq Hhp570 (g := 11) rfl) (by decide) rfl rfl rfl rfl (Or.inl rfl) (by omega) (by omega) fun hp573 Hhp573 fhp573 rhp573 ehp573 qhp573 nhp573 => ?_
                                          have Fhp573 := sf_fr_tr Fhp570 (sf_fr_wider (W := [(999, 0, 0), (11, 4, 4), (11, 11, 14), (11, 17, 17)]) rfl fhp573)
                                          have h574 : sf_rd hp573 69 4 = some y31 := (ehp573 _ _ (Or.inr (by omega))).trans h571
                                          have h575 : sf_rd hp573 69 13 = some (0 : Int) := (ehp573 _ _ (Or.inr (by omega))).trans h572
                                          have h576 : sf_rd hp573 69 11 = some z569.toInt := (ehp573 _ _ (Or.inr (by omega))).trans rhp570
                                          refine Ev.step (j := 154) (s' := ([some (.ref 69), some (.int z32), none, none], [.ref 69], (0, 0), hp573)) rfl rfl ?_
                                          refine Ev.step (j := 155) (s' := ([some (.ref 69), some (.int z32), none, none], [.ref 69, .ref 69], (0, 0), hp573)) rfl rfl ?_
                                          exact by
                                           refine bs_getI 11 rfl rfl rfl Hhp573 (bs_R.uq Hhp573 (g := 11) rfl) (by decide) rfl fun z577 hz577 lz577 gz577 => ?_
                                           have e578 : z577.toInt = y31 := Option.some.inj (hz577.symm.trans h574)
                                           refine bs_lit (k := 1) rfl rfl fun z579 hz579 => ?_
                                           first | (refine bs_add rfl (by omega) (by omega) fun z580 hz580 => ?_) | (refine bs_any rfl fun z580 => ?_)
                                           have rz580 := n_range z580
                                           refine bs_putI (W := [(11, 4, 4), (999, 0, 0)]) (g := 11) rfl rfl Hhp573 (bs_R.uq Hhp573 (g := 11) rfl) (by decide) rfl rfl rfl rfl (Or.inl rfl) (by omega) (by omega) fun hp581 Hhp581 fhp581 rhp581 ehp581 qhp581 nhp581 => ?_
                                           have Fhp581 := sf_fr_tr Fhp573 (sf_fr_wider (W := [(999, 0, 0), (11, 4, 4), (11, 11, 14), (11, 17, 17)]) rfl fhp581)
                                           have h582 : sf_rd hp581 69 13 = some (0 : Int) := (ehp581 _ _ (Or.inr (by omega))).trans h575
                                           have h583 : sf_rd hp581 69 11 = some z569.toInt := (ehp581 _ _ (Or.inr (by omega))).trans h576
                                           have h584 : sf_rd hp581 69 14 = some z32.toInt := (ehp581 _ _ (Or.inr (by omega))).trans rhp573
                                           have A1 := psi_ge rhp581 h583
                                           have A2 := psi_ge Q4 Q11
                                           have PS : sf_psi hp581 ≤ sf_psi hp := by omega
                                           exact Ev.ret rfl rfl (by rw [hQ]; exact ⟨t29, Hhp581, (fr_unmark H Fhp581 PS), bs_anU, sf_S_nil, (fun v hv => by have e : v = P0 := Option.some.inj (hv.symm.trans Q4); show sf_psi hp581 ≤ 2 * (940 - v); rw [e]; omega)⟩)
                                       · skip
                                         refine Ev.step (j := 135) (s' := ([some (.ref 69), some (.int z32), none, none], [.int z32, .ref 69], (0, 0), hp28)) rfl rfl ?_
                                         exact by
                                          refine bs_lit (k := 62) rfl rfl fun z585 hz585 => ?_
                                          refine bs_gt rfl (fun c586 => ?_) (fun c586 => ?_)
                                          · skip
                                            refine bs_lit (k := 4) rfl rfl fun z587 hz587 => ?_
                                            refine bs_putI (W := [(11, 11, 11), (999, 0, 0)]) (g := 11) rfl rfl Hhp28 (bs_R.uq Hhp28 (g := 11) rfl) (by decide) rfl rfl rfl rfl (Or.inl rfl) (by omega) (by omega) fun hp588 Hhp588 fhp588 rhp588 ehp588 qhp588 nhp588 => ?_
                                            have Fhp588 := sf_fr_tr Fhp28 (sf_fr_wider (W := [(999, 0, 0), (11, 4, 4), (11, 11, 14), (11, 17, 17)]) rfl fhp588)
                                            have h589 : sf_rd hp588 69 4 = some y31 := (ehp588 _ _ (Or.inr (by omega))).trans hy31
                                            have h590 : sf_rd hp588 69 13 = some (0 : Int) := (ehp588 _ _ (Or.inr (by omega))).trans cy31
                                            refine Ev.step (j := 149) (s' := ([some (.ref 69), some (.int z32), none, none], [.ref 69], (0, 0), hp588)) rfl rfl ?_
                                            exact by
                                             refine Ev.step (j := 150) (s' := ([some (.ref 69), some (.int z32), none, none], [.int z32, .ref 69], (0, 0), hp588)) rfl rfl ?_
                                             refine bs_putI (W := [(11, 14, 14)]) (g := 11) rfl rfl Hhp588 (bs_R.uq Hhp588 (g := 11) rfl) (by decide) rfl rfl rfl rfl (Or.inl rfl) (by omega) (by omega) fun hp591 Hhp591 fhp591 rhp591 ehp591 qhp591 nhp591 => ?_
                                             have Fhp591 := sf_fr_tr Fhp588 (sf_fr_wider (W := [(999, 0, 0), (11, 4, 4), (11, 11, 14), (11, 17, 17)]) rfl fhp591)
                                             have h592 : sf_rd hp591 69 4 = some y31 := (ehp591 _ _ (Or.inr (by omega))).trans h589
                                             have h593 : sf_rd hp591 69 13 = some (0 : Int) := (ehp591 _ _ (Or.inr (by omega))).trans h590
                                             have h594 : sf_rd hp591 69 11 = some z587.toInt := (ehp591 _ _ (Or.inr (by omega))).trans rhp588
                                             refine Ev.step (j := 154) (s' := ([some (.ref 69), some (.int z32), none, none], [.ref 69], (0, 0), hp591)) rfl rfl ?_
                                             refine Ev.step (j := 155) (s' := ([some (.ref 69), some (.int z32), none, none], [.ref 69, .ref 69], (0, 0), hp591)) rfl rfl ?_
                                             exact by
                                              refine bs_getI 11 rfl rfl rfl Hhp591 (bs_R.uq Hhp591 (g := 11) rfl) (by decide) rfl fun z595 hz595 lz595 gz595 => ?_
                                              have e596 : z595.toInt = y31 := Option.some.inj (hz595.symm.trans h592)
                                              refine bs_lit (k := 1) rfl rfl fun z597 hz597 => ?_
                                              first | (refine bs_add rfl (by omega) (by omega) fun z598 hz598 => ?_) | (refine bs_any rfl fun z598 => ?_)
                                              have rz598 := n_range z598
                                              refine bs_putI (W := [(11, 4, 4), (999, 0, 0)]) (g := 11) rfl rfl Hhp591 (bs_R.uq Hhp591 (g := 11) rfl) (by decide) rfl rfl rfl rfl (Or.inl rfl) (by omega) (by omega) fun hp599 Hhp599 fhp599 rhp599 ehp599 qhp599 nhp599 => ?_
                                              have Fhp599 := sf_fr_tr Fhp591 (sf_fr_wider (W := [(999, 0, 0), (11, 4, 4), (11, 11, 14), (11, 17, 17)]) rfl fhp599)
                                              have h600 : sf_rd hp599 69 13 = some (0 : Int) := (ehp599 _ _ (Or.inr (by omega))).trans h593
                                              have h601 : sf_rd hp599 69 11 = some z587.toInt := (ehp599 _ _ (Or.inr (by omega))).trans h594
                                              have h602 : sf_rd hp599 69 14 = some z32.toInt := (ehp599 _ _ (Or.inr (by omega))).trans rhp591
                                              have A1 := psi_ge rhp599 h601
                                              have A2 := psi_ge Q4 Q11
                                              have PS : sf_psi hp599 ≤ sf_psi hp := by omega
                                              exact Ev.ret rfl rfl (by rw [hQ]; exact ⟨t29, Hhp599, (fr_unmark H Fhp599 PS), bs_anU, sf_S_nil, (fun v hv => by have e : v = P0 := Option.some.inj (hv.symm.trans Q4); show sf_psi hp599 ≤ 2 * (940 - v); rw [e]; omega)⟩)
                                          · skip
                                            refine bs_lit (k := 3) rfl rfl fun z603 hz603 => ?_
                                            exact by
                                             refine Ev.step (j := 145) (s' := ([some (.ref 69), some (.int z32), none, none], [.int z603, .ref 69], (0, 0), hp28)) rfl rfl ?_
                                             refine bs_putI (W := [(11, 11, 11), (999, 0, 0)]) (g := 11) rfl rfl Hhp28 (bs_R.uq Hhp28 (g := 11) rfl) (by decide) rfl rfl rfl rfl (Or.inl rfl) (by omega) (by omega) fun hp604 Hhp604 fhp604 rhp604 ehp604 qhp604 nhp604 => ?_
                                             have Fhp604 := sf_fr_tr Fhp28 (sf_fr_wider (W := [(999, 0, 0), (11, 4, 4), (11, 11, 14), (11, 17, 17)]) rfl fhp604)
                                             have h605 : sf_rd hp604 69 4 = some y31 := (ehp604 _ _ (Or.inr (by omega))).trans hy31
                                             have h606 : sf_rd hp604 69 13 = some (0 : Int) := (ehp604 _ _ (Or.inr (by omega))).trans cy31
                                             refine Ev.step (j := 149) (s' := ([some (.ref 69), some (.int z32), none, none], [.ref 69], (0, 0), hp604)) rfl rfl ?_
                                             refine Ev.step (j := 150) (s' := ([some (.ref 69), some (.int z32), none, none], [.int z32, .ref 69], (0, 0), hp604)) rfl rfl ?_
                                             refine bs_putI (W := [(11, 14, 14)]) (g := 11) rfl rfl Hhp604 (bs_R.uq Hhp604 (g := 11) rfl) (by decide) rfl rfl rfl rfl (Or.inl rfl) (by omega) (by omega) fun hp607 Hhp607 fhp607 rhp607 ehp607 qhp607 nhp607 => ?_
                                             have Fhp607 := sf_fr_tr Fhp604 (sf_fr_wider (W := [(999, 0, 0), (11, 4, 4), (11, 11, 14), (11, 17, 17)]) rfl fhp607)
                                             have h608 : sf_rd hp607 69 4 = some y31 := (ehp607 _ _ (Or.inr (by omega))).trans h605
                                             have h609 : sf_rd hp607 69 13 = some (0 : Int) := (ehp607 _ _ (Or.inr (by omega))).trans h606
                                             have h610 : sf_rd hp607 69 11 = some z603.toInt := (ehp607 _ _ (Or.inr (by omega))).trans rhp604
                                             refine Ev.step (j := 154) (s' := ([some (.ref 69), some (.int z32), none, none], [.ref 69], (0, 0), hp607)) rfl rfl ?_
                                             exact by
                                              refine Ev.step (j := 155) (s' := ([some (.ref 69), some (.int z32), none, none], [.ref 69, .ref 69], (0, 0), hp607)) rfl rfl ?_
                                              refine bs_getI 11 rfl rfl rfl Hhp607 (bs_R.uq Hhp607 (g := 11) rfl) (by decide) rfl fun z611 hz611 lz611 gz611 => ?_
                                              have e612 : z611.toInt = y31 := Option.some.inj (hz611.symm.trans h608)
                                              refine bs_lit (k := 1) rfl rfl fun z613 hz613 => ?_
                                              first | (refine bs_add rfl (by omega) (by omega) fun z614 hz614 => ?_) | (refine bs_any rfl fun z614 => ?_)
                                              have rz614 := n_range z614
                                              refine bs_putI (W := [(11, 4, 4), (999, 0, 0)]) (g := 11) rfl rfl Hhp607 (bs_R.uq Hhp607 (g := 11) rfl) (by decide) rfl rfl rfl rfl (Or.inl rfl) (by omega) (by omega) fun hp615 Hhp615 fhp615 rhp615 ehp615 qhp615 nhp615 => ?_
                                              have Fhp615 := sf_fr_tr Fhp607 (sf_fr_wider (W := [(999, 0, 0), (11, 4, 4), (11, 11, 14), (11, 17, 17)]) rfl fhp615)
                                              have h616 : sf_rd hp615 69 13 = some (0 : Int) := (ehp615 _ _ (Or.inr (by omega))).trans h609
                                              have h617 : sf_rd hp615 69 11 = some z603.toInt := (ehp615 _ _ (Or.inr (by omega))).trans h610
                                              have h618 : sf_rd hp615 69 14 = some z32.toInt := (ehp615 _ _ (Or.inr (by omega))).trans rhp607
                                              have A1 := psi_ge rhp615 h617
                                              have A2 := psi_ge Q4 Q11
                                              have PS : sf_psi hp615 ≤ sf_psi hp := by omega
                                              exact Ev.ret rfl rfl (by rw [hQ]; exact ⟨t29, Hhp615, (fr_unmark H Fhp615 PS), bs_anU, sf_S_nil, (fun v hv => by have e : v = P0 := Option.some.inj (hv.symm.trans Q4); show sf_psi hp615 ≤ 2 * (940 - v); rw [e]; omega)⟩)
                         · skip
                           refine bs_lit (k := 1) rfl rfl fun z619 hz619 => ?_
                           exact by
                            refine Ev.step (j := 17) (s' := ([some (.int z32)], [.int z619], (0, 0), hp28)) rfl rfl ?_
                            refine bs_zret rfl rfl (by omega) (by omega) ?_
                            rw [← hQ392]
                            refine (show Ev _ 106 ([some (.ref 69), some (.int z32), none, none], [.int z619], (0, 0), hp28) _ from ?_)
                            refine bs_ifne rfl (fun c620 => ?_) (fun c620 => ?_)
                            · skip
                              refine Ev.step (j := 165) (s' := ([some (.ref 69), some (.int z32), none, none], [.int z32], (0, 0), hp28)) rfl rfl ?_
                              refine Ev.inlS (L := L_X11_isSmall) (nL := 1) rfl rfl (Nat.le_of_ble_eq_true rfl) ?_
                              generalize hQ621 : (fun (o : ab_O) => Ev _ _ _ _) = Q621
                              refine (show Ev (ab_T L_X11_isSmall) 0 ([some (.int z32)], [], (0, 0), hp28) Q621 from ?_)
                              refine Ev.step (j := 1) (s' := ([some (.int z32)], [.int z32], (0, 0), hp28)) rfl rfl ?_
                              exact by
                               refine bs_lit (k := 97) rfl rfl fun z622 hz622 => ?_
                               refine bs_lt rfl (fun c623 => ?_) (fun c623 => ?_)
                               · skip
                                 refine bs_lit (k := 0) rfl rfl fun z624 hz624 => ?_
                                 refine bs_zret rfl rfl (by omega) (by omega) ?_
                                 rw [← hQ621]
                                 refine (show Ev _ 168 ([some (.ref 69), some (.int z32), none, none], [.int z624], (0, 0), hp28) _ from ?_)
                                 refine Ev.step (j := 169) (s' := ([some (.ref 69), some (.int z32), some (.int z624), none], [], (0, 0), hp28)) rfl rfl ?_
                                 refine bs_lit (k := 1) rfl rfl fun z625 hz625 => ?_
                                 have INV : ∃ v : Int, sf_rd hp28 69 4 = some v ∧ sf_rd hp28 69 13 = some 0 ∧ P0 ≤ v ∧ v ≤ 940 ∧ ((48 ≤ z32.toInt ∧ z32.toInt ≤ 57) ∨ (97 ≤ z32.toInt ∧ z32.toInt ≤ 122)) ∧ pkR hp28 z32 := ⟨_, hy31, cy31, by omega, by omega, by omega, pz32⟩
                                 refine Ev.step (j := 171) (s' := ([some (.ref 69), some (.int z32), some (.int z624), some (.int z625)], [], (0, 0), hp28)) rfl rfl ?_
                                 exact cut34 z624 z625 hp28 t29 Hhp28 Fhp28 (by exact INV) (by first | omega | assumption)
                               · skip
                                 refine Ev.step (j := 7) (s' := ([some (.int z32)], [.int z32], (0, 0), hp28)) rfl rfl ?_
                                 exact by
                                  refine bs_lit (k := 122) rfl rfl fun z626 hz626 => ?_
                                  refine bs_gt rfl (fun c627 => ?_) (fun c627 => ?_)
                                  · skip
                                    refine bs_lit (k := 0) rfl rfl fun z628 hz628 => ?_
                                    refine bs_zret rfl rfl (by omega) (by omega) ?_
                                    rw [← hQ621]
                                    refine (show Ev _ 168 ([some (.ref 69), some (.int z32), none, none], [.int z628], (0, 0), hp28) _ from ?_)
                                    refine Ev.step (j := 169) (s' := ([some (.ref 69), some (.int z32), some (.int z628), none], [], (0, 0), hp28)) rfl rfl ?_
                                    refine bs_lit (k := 1) rfl rfl fun z629 hz629 => ?_
                                    have INV : ∃ v : Int, sf_rd hp28 69 4 = some v ∧ sf_rd hp28 69 13 = some 0 ∧ P0 ≤ v ∧ v ≤ 940 ∧ ((48 ≤ z32.toInt ∧ z32.toInt ≤ 57) ∨ (97 ≤ z32.toInt ∧ z32.toInt ≤ 122)) ∧ pkR hp28 z32 := ⟨_, hy31, cy31, by omega, by omega, by omega, pz32⟩
                                    refine Ev.step (j := 171) (s' := ([some (.ref 69), some (.int z32), some (.int z628), some (.int z629)], [], (0, 0), hp28)) rfl rfl ?_
                                    exact cut34 z628 z629 hp28 t29 Hhp28 Fhp28 (by exact INV) (by first | omega | assumption)
                                  · skip
                                    refine bs_lit (k := 1) rfl rfl fun z630 hz630 => ?_
                                    exact by
                                     refine Ev.step (j := 17) (s' := ([some (.int z32)], [.int z630], (0, 0), hp28)) rfl rfl ?_
                                     refine bs_zret rfl rfl (by omega) (by omega) ?_
                                     rw [← hQ621]
                                     refine (show Ev _ 168 ([some (.ref 69), some (.int z32), none, none], [.int z630], (0, 0), hp28) _ from ?_)
                                     refine Ev.step (j := 169) (s' := ([some (.ref 69), some (.int z32), some (.int z630), none], [], (0, 0), hp28)) rfl rfl ?_
                                     refine bs_lit (k := 1) rfl rfl fun z631 hz631 => ?_
                                     have INV : ∃ v : Int, sf_rd hp28 69 4 = some v ∧ sf_rd hp28 69 13 = some 0 ∧ P0 ≤ v ∧ v ≤ 940 ∧ ((48 ≤ z32.toInt ∧ z32.toInt ≤ 57) ∨ (97 ≤ z32.toInt ∧ z32.toInt ≤ 122)) ∧ pkR hp28 z32 := ⟨_, hy31, cy31, by omega, by omega, by omega, pz32⟩
                                     refine Ev.step (j := 171) (s' := ([some (.ref 69), some (.int z32), some (.int z630), some (.int z631)], [], (0, 0), hp28)) rfl rfl ?_
                                     exact cut34 z630 z631 hp28 t29 Hhp28 Fhp28 (by exact INV) (by first | omega | assumption)
                            · exfalso; omega
                 · skip
                   refine Ev.step (j := 7) (s' := ([some (.int z32)], [.int z32], (0, 0), hp28)) rfl rfl ?_
                   exact by
                    refine bs_lit (k := 122) rfl rfl fun z632 hz632 => ?_
                    refine bs_gt rfl (fun c633 => ?_) (fun c633 => ?_)
                    · skip
                      refine bs_lit (k := 0) rfl rfl fun z634 hz634 => ?_
                      refine bs_zret rfl rfl (by omega) (by omega) ?_
                      rw [← hQ387]
                      refine (show Ev _ 99 ([some (.ref 69), some (.int z32), none, none], [.int z634], (0, 0), hp28) _ from ?_)
                      refine bs_ifne rfl (fun c635 => ?_) (fun c635 => ?_)
                      · exfalso; omega
                      · skip
                        refine Ev.step (j := 103) (s' := ([some (.ref 69), some (.int z32), none, none], [.int z32], (0, 0), hp28)) rfl rfl ?_
                        refine Ev.inlS (L := L_X11_isDigit) (nL := 1) rfl rfl (Nat.le_of_ble_eq_true rfl) ?_
                        generalize hQ636 : (fun (o : ab_O) => Ev _ _ _ _) = Q636
                        refine (show Ev (ab_T L_X11_isDigit) 0 ([some (.int z32)], [], (0, 0), hp28) Q636 from ?_)
                        exact by
                         refine Ev.step (j := 1) (s' := ([some (.int z32)], [.int z32], (0, 0), hp28)) rfl rfl ?_
                         refine bs_lit (k := 48) rfl rfl fun z637 hz637 => ?_
                         refine bs_lt rfl (fun c638 => ?_) (fun c638 => ?_)
                         · skip
                           refine bs_lit (k := 0) rfl rfl fun z639 hz639 => ?_
                           refine bs_zret rfl rfl (by omega) (by omega) ?_
                           rw [← hQ636]
                           refine (show Ev _ 106 ([some (.ref 69), some (.int z32), none, none], [.int z639], (0, 0), hp28) _ from ?_)
                           refine bs_ifne rfl (fun c640 => ?_) (fun c640 => ?_)
                           · exfalso; omega
                           · skip
                             refine Ev.step (j := 110) (s' := ([some (.ref 69), some (.int z32), none, none], [.ref 69], (0, 0), hp28)) rfl rfl ?_
                             exact by
                              refine Ev.step (j := 111) (s' := ([some (.ref 69), some (.int z32), none, none], [.int z32, .ref 69], (0, 0), hp28)) rfl rfl ?_
                              refine bs_lit (k := 59) rfl rfl fun z641 hz641 => ?_
                              refine bs_eq rfl (fun c642 => ?_) (fun c642 => ?_)
                              · skip
                                have c643 : z32.toInt = 59 := by omega
                                refine bs_lit (k := 3) rfl rfl fun z644 hz644 => ?_
                                refine Ev.step (j := 145) (s' := ([some (.ref 69), some (.int z32), none, none], [.int z644, .ref 69], (0, 0), hp28)) rfl rfl ?_
                                refine bs_putI (W := [(11, 11, 11), (999, 0, 0)]) (g := 11) rfl rfl Hhp28 (bs_R.uq Hhp28 (g := 11) rfl) (by decide) rfl rfl rfl rfl (Or.inl rfl) (by omega) (by omega) fun hp645 Hhp645 fhp645 rhp645 ehp645 qhp645 nhp645 => ?_
                                have Fhp645 := sf_fr_tr Fhp28 (sf_fr_wider (W := [(999, 0, 0), (11, 4, 4), (11, 11, 14), (11, 17, 17)]) rfl fhp645)
                                have h646 : sf_rd hp645 69 4 = some y31 := (ehp645 _ _ (Or.inr (by omega))).trans hy31
                                have h647 : sf_rd hp645 69 13 = some (0 : Int) := (ehp645 _ _ (Or.inr (by omega))).trans cy31
                                refine Ev.step (j := 149) (s' := ([some (.ref 69), some (.int z32), none, none], [.ref 69], (0, 0), hp645)) rfl rfl ?_
                                exact by
                                 refine Ev.step (j := 150) (s' := ([some (.ref 69), some (.int z32), none, none], [.int z32, .ref 69], (0, 0), hp645)) rfl rfl ?_
                                 refine bs_putI (W := [(11, 14, 14)]) (g := 11) rfl rfl Hhp645 (bs_R.uq Hhp645 (g := 11) rfl) (by decide) rfl rfl rfl rfl (Or.inl rfl) (by omega) (by omega) fun hp648 Hhp648 fhp648 rhp648 ehp648 qhp648 nhp648 => ?_
                                 have Fhp648 := sf_fr_tr Fhp645 (sf_fr_wider (W := [(999, 0, 0), (11, 4, 4), (11, 11, 14), (11, 17, 17)]) rfl fhp648)
                                 have h649 : sf_rd hp648 69 4 = some y31 := (ehp648 _ _ (Or.inr (by omega))).trans h646
                                 have h650 : sf_rd hp648 69 13 = some (0 : Int) := (ehp648 _ _ (Or.inr (by omega))).trans h647
                                 have h651 : sf_rd hp648 69 11 = some z644.toInt := (ehp648 _ _ (Or.inr (by omega))).trans rhp645
                                 refine Ev.step (j := 154) (s' := ([some (.ref 69), some (.int z32), none, none], [.ref 69], (0, 0), hp648)) rfl rfl ?_
                                 refine Ev.step (j := 155) (s' := ([some (.ref 69), some (.int z32), none, none], [.ref 69, .ref 69], (0, 0), hp648)) rfl rfl ?_
                                 exact by
                                  refine bs_getI 11 rfl rfl rfl Hhp648 (bs_R.uq Hhp648 (g := 11) rfl) (by decide) rfl fun z652 hz652 lz652 gz652 => ?_
                                  have e653 : z652.toInt = y31 := Option.some.inj (hz652.symm.trans h649)
                                  refine bs_lit (k := 1) rfl rfl fun z654 hz654 => ?_
                                  first | (refine bs_add rfl (by omega) (by omega) fun z655 hz655 => ?_) | (refine bs_any rfl fun z655 => ?_)
                                  have rz655 := n_range z655
                                  refine bs_putI (W := [(11, 4, 4), (999, 0, 0)]) (g := 11) rfl rfl Hhp648 (bs_R.uq Hhp648 (g := 11) rfl) (by decide) rfl rfl rfl rfl (Or.inl rfl) (by omega) (by omega) fun hp656 Hhp656 fhp656 rhp656 ehp656 qhp656 nhp656 => ?_
                                  have Fhp656 := sf_fr_tr Fhp648 (sf_fr_wider (W := [(999, 0, 0), (11, 4, 4), (11, 11, 14), (11, 17, 17)]) rfl fhp656)
                                  have h657 : sf_rd hp656 69 13 = some (0 : Int) := (ehp656 _ _ (Or.inr (by omega))).trans h650
                                  have h658 : sf_rd hp656 69 11 = some z644.toInt := (ehp656 _ _ (Or.inr (by omega))).trans h651
                                  have h659 : sf_rd hp656 69 14 = some z32.toInt := (ehp656 _ _ (Or.inr (by omega))).trans rhp648
                                  have A1 := psi_ge rhp656 h658
                                  have A2 := psi_ge Q4 Q11
                                  have PS : sf_psi hp656 ≤ sf_psi hp := by omega
                                  exact Ev.ret rfl rfl (by rw [hQ]; exact ⟨t29, Hhp656, (fr_unmark H Fhp656 PS), bs_anU, sf_S_nil, (fun v hv => by have e : v = P0 := Option.some.inj (hv.symm.trans Q4); show sf_psi hp656 ≤ 2 * (940 - v); rw [e]; omega)⟩)
                              · skip
                                refine Ev.step (j := 117) (s' := ([some (.ref 69), some (.int z32), none, none], [.int z32, .ref 69], (0, 0), hp28)) rfl rfl ?_
                                exact by
                                 refine bs_lit (k := 40) rfl rfl fun z660 hz660 => ?_
                                 refine bs_eq rfl (fun c661 => ?_) (fun c661 => ?_)
                                 · skip
                                   have c662 : z32.toInt = 40 := by omega
                                   refine bs_lit (k := 3) rfl rfl fun z663 hz663 => ?_
                                   refine Ev.step (j := 145) (s' := ([some (.ref 69), some (.int z32), none, none], [.int z663, .ref 69], (0, 0), hp28)) rfl rfl ?_
                                   refine bs_putI (W := [(11, 11, 11), (999, 0, 0)]) (g := 11) rfl rfl Hhp28 (bs_R.uq Hhp28 (g := 11) rfl) (by decide) rfl rfl rfl rfl (Or.inl rfl) (by omega) (by omega) fun hp664 Hhp664 fhp664 rhp664 ehp664 qhp664 nhp664 => ?_
                                   have Fhp664 := sf_fr_tr Fhp28 (sf_fr_wider (W := [(999, 0, 0), (11, 4, 4), (11, 11, 14), (11, 17, 17)]) rfl fhp664)
                                   have h665 : sf_rd hp664 69 4 = some y31 := (ehp664 _ _ (Or.inr (by omega))).trans hy31
                                   have h666 : sf_rd hp664 69 13 = some (0 : Int) := (ehp664 _ _ (Or.inr (by omega))).trans cy31
                                   refine Ev.step (j := 149) (s' := ([some (.ref 69), some (.int z32), none, none], [.ref 69], (0, 0), hp664)) rfl rfl ?_
                                   exact by
                                    refine Ev.step (j := 150) (s' := ([some (.ref 69), some (.int z32), none, none], [.int z32, .ref 69], (0, 0), hp664)) rfl rfl ?_
                                    refine bs_putI (W := [(11, 14, 14)]) (g := 11) rfl rfl Hhp664 (bs_R.uq Hhp664 (g := 11) rfl) (by decide) rfl rfl rfl rfl (Or.inl rfl) (by omega) (by omega) fun hp667 Hhp667 fhp667 rhp667 ehp667 qhp667 nhp667 => ?_
                                    have Fhp667 := sf_fr_tr Fhp664 (sf_fr_wider (W := [(999, 0, 0), (11, 4, 4), (11, 11, 14), (11, 17, 17)]) rfl fhp667)
                                    have h668 : sf_rd hp667 69 4 = some y31 := (ehp667 _ _ (Or.inr (by omega))).trans h665
                                    have h669 : sf_rd hp667 69 13 = some (0 : Int) := (ehp667 _ _ (Or.inr (by omega))).trans h666
                                    have h670 : sf_rd hp667 69 11 = some z663.toInt := (ehp667 _ _ (Or.inr (by omega))).trans rhp664
                                    refine Ev.step (j := 154) (s' := ([some (.ref 69), some (.int z32), none, none], [.ref 69], (0, 0), hp667)) rfl rfl ?_
                                    refine Ev.step (j := 155) (s' := ([some (.ref 69), some (.int z32), none, none], [.ref 69, .ref 69], (0, 0), hp667)) rfl rfl ?_
                                    exact by
                                     refine bs_getI 11 rfl rfl rfl Hhp667 (bs_R.uq Hhp667 (g := 11) rfl) (by decide) rfl fun z671 hz671 lz671 gz671 => ?_
                                     have e672 : z671.toInt = y31 := Option.some.inj (hz671.symm.trans h668)
                                     refine bs_lit (k := 1) rfl rfl fun z673 hz673 => ?_
                                     first | (refine bs_add rfl (by omega) (by omega) fun z674 hz674 => ?_) | (refine bs_any rfl fun z674 => ?_)
                                     have rz674 := n_range z674
                                     refine bs_putI (W := [(11, 4, 4), (999, 0, 0)]) (g := 11) rfl rfl Hhp667 (bs_R.uq Hhp667 (g := 11) rfl) (by decide) rfl rfl rfl rfl (Or.inl rfl) (by omega) (by omega) fun hp675 Hhp675 fhp675 rhp675 ehp675 qhp675 nhp675 => ?_
                                     have Fhp675 := sf_fr_tr Fhp667 (sf_fr_wider (W := [(999, 0, 0), (11, 4, 4), (11, 11, 14), (11, 17, 17)]) rfl fhp675)
                                     have h676 : sf_rd hp675 69 13 = some (0 : Int) := (ehp675 _ _ (Or.inr (by omega))).trans h669
                                     have h677 : sf_rd hp675 69 11 = some z663.toInt := (ehp675 _ _ (Or.inr (by omega))).trans h670
                                     have h678 : sf_rd hp675 69 14 = some z32.toInt := (ehp675 _ _ (Or.inr (by omega))).trans rhp667
                                     have A1 := psi_ge rhp675 h677
                                     have A2 := psi_ge Q4 Q11
                                     have PS : sf_psi hp675 ≤ sf_psi hp := by omega
                                     exact Ev.ret rfl rfl (by rw [hQ]; exact ⟨t29, Hhp675, (fr_unmark H Fhp675 PS), bs_anU, sf_S_nil, (fun v hv => by have e : v = P0 := Option.some.inj (hv.symm.trans Q4); show sf_psi hp675 ≤ 2 * (940 - v); rw [e]; omega)⟩)
                                 · skip
                                   refine Ev.step (j := 123) (s' := ([some (.ref 69), some (.int z32), none, none], [.int z32, .ref 69], (0, 0), hp28)) rfl rfl ?_
                                   exact by
                                    refine bs_lit (k := 41) rfl rfl fun z679 hz679 => ?_
                                    refine bs_eq rfl (fun c680 => ?_) (fun c680 => ?_)
                                    · skip
                                      have c681 : z32.toInt = 41 := by omega
                                      refine bs_lit (k := 3) rfl rfl fun z682 hz682 => ?_
                                      refine Ev.step (j := 145) (s' := ([some (.ref 69), some (.int z32), none, none], [.int z682, .ref 69], (0, 0), hp28)) rfl rfl ?_
                                      refine bs_putI (W := [(11, 11, 11), (999, 0, 0)]) (g := 11) rfl rfl Hhp28 (bs_R.uq Hhp28 (g := 11) rfl) (by decide) rfl rfl rfl rfl (Or.inl rfl) (by omega) (by omega) fun hp683 Hhp683 fhp683 rhp683 ehp683 qhp683 nhp683 => ?_
                                      have Fhp683 := sf_fr_tr Fhp28 (sf_fr_wider (W := [(999, 0, 0), (11, 4, 4), (11, 11, 14), (11, 17, 17)]) rfl fhp683)
                                      have h684 : sf_rd hp683 69 4 = some y31 := (ehp683 _ _ (Or.inr (by omega))).trans hy31
                                      have h685 : sf_rd hp683 69 13 = some (0 : Int) := (ehp683 _ _ (Or.inr (by omega))).trans cy31
                                      refine Ev.step (j := 149) (s' := ([some (.ref 69), some (.int z32), none, none], [.ref 69], (0, 0), hp683)) rfl rfl ?_
                                      exact by
                                       refine Ev.step (j := 150) (s' := ([some (.ref 69), some (.int z32), none, none], [.int z32, .ref 69], (0, 0), hp683)) rfl rfl ?_
                                       refine bs_putI (W := [(11, 14, 14)]) (g := 11) rfl rfl Hhp683 (bs_R.uq Hhp683 (g := 11) rfl) (by decide) rfl rfl rfl rfl (Or.inl rfl) (by omega) (by omega) fun hp686 Hhp686 fhp686 rhp686 ehp686 qhp686 nhp686 => ?_
                                       have Fhp686 := sf_fr_tr Fhp683 (sf_fr_wider (W := [(999, 0, 0), (11, 4, 4), (11, 11, 14), (11, 17, 17)]) rfl fhp686)
                                       have h687 : sf_rd hp686 69 4 = some y31 := (ehp686 _ _ (Or.inr (by omega))).trans h684
                                       have h688 : sf_rd hp686 69 13 = some (0 : Int) := (ehp686 _ _ (Or.inr (by omega))).trans h685
                                       have h689 : sf_rd hp686 69 11 = some z682.toInt := (ehp686 _ _ (Or.inr (by omega))).trans rhp683
                                       refine Ev.step (j := 154) (s' := ([some (.ref 69), some (.int z32), none, none], [.ref 69], (0, 0), hp686)) rfl rfl ?_
                                       refine Ev.step (j := 155) (s' := ([some (.ref 69), some (.int z32), none, none], [.ref 69, .ref 69], (0, 0), hp686)) rfl rfl ?_
                                       exact by
                                        refine bs_getI 11 rfl rfl rfl Hhp686 (bs_R.uq Hhp686 (g := 11) rfl) (by decide) rfl fun z690 hz690 lz690 gz690 => ?_
                                        have e691 : z690.toInt = y31 := Option.some.inj (hz690.symm.trans h687)
                                        refine bs_lit (k := 1) rfl rfl fun z692 hz692 => ?_
                                        first | (refine bs_add rfl (by omega) (by omega) fun z693 hz693 => ?_) | (refine bs_any rfl fun z693 => ?_)
                                        have rz693 := n_range z693
                                        refine bs_putI (W := [(11, 4, 4), (999, 0, 0)]) (g := 11) rfl rfl Hhp686 (bs_R.uq Hhp686 (g := 11) rfl) (by decide) rfl rfl rfl rfl (Or.inl rfl) (by omega) (by omega) fun hp694 Hhp694 fhp694 rhp694 ehp694 qhp694 nhp694 => ?_
                                        have Fhp694 := sf_fr_tr Fhp686 (sf_fr_wider (W := [(999, 0, 0), (11, 4, 4), (11, 11, 14), (11, 17, 17)]) rfl fhp694)
                                        have h695 : sf_rd hp694 69 13 = some (0 : Int) := (ehp694 _ _ (Or.inr (by omega))).trans h688
                                        have h696 : sf_rd hp694 69 11 = some z682.toInt := (ehp694 _ _ (Or.inr (by omega))).trans h689
                                        have h697 : sf_rd hp694 69 14 = some z32.toInt := (ehp694 _ _ (Or.inr (by omega))).trans rhp686
                                        have A1 := psi_ge rhp694 h696
                                        have A2 := psi_ge Q4 Q11
                                        have PS : sf_psi hp694 ≤ sf_psi hp := by omega
                                        exact Ev.ret rfl rfl (by rw [hQ]; exact ⟨t29, Hhp694, (fr_unmark H Fhp694 PS), bs_anU, sf_S_nil, (fun v hv => by have e : v = P0 := Option.some.inj (hv.symm.trans Q4); show sf_psi hp694 ≤ 2 * (940 - v); rw [e]; omega)⟩)
                                    · skip
                                      refine Ev.step (j := 129) (s' := ([some (.ref 69), some (.int z32), none, none], [.int z32, .ref 69], (0, 0), hp28)) rfl rfl ?_
                                      exact by
                                       refine bs_lit (k := 60) rfl rfl fun z698 hz698 => ?_
                                       refine bs_lt rfl (fun c699 => ?_) (fun c699 => ?_)
                                       · skip
                                         refine bs_lit (k := 4) rfl rfl fun z700 hz700 => ?_
                                         refine bs_putI (W := [(11, 11, 11), (999, 0, 0)]) (g := 11) rfl rfl Hhp28 (bs_R.uq Hhp28 (g := 11) rfl) (by decide) rfl rfl rfl rfl (Or.inl rfl) (by omega) (by omega) fun hp701 Hhp701 fhp701 rhp701 ehp701 qhp701 nhp701 => ?_
                                         have Fhp701 := sf_fr_tr Fhp28 (sf_fr_wider (W := [(999, 0, 0), (11, 4, 4), (11, 11, 14), (11, 17, 17)]) rfl fhp701)
                                         have h702 : sf_rd hp701 69 4 = some y31 := (ehp701 _ _ (Or.inr (by omega))).trans hy31
                                         have h703 : sf_rd hp701 69 13 = some (0 : Int) := (ehp701 _ _ (Or.inr (by omega))).trans cy31
                                         refine Ev.step (j := 149) (s' := ([some (.ref 69), some (.int z32), none, none], [.ref 69], (0, 0), hp701)) rfl rfl ?_
                                         exact by
                                          refine Ev.step (j := 150) (s' := ([some (.ref 69), some (.int z32), none, none], [.int z32, .ref 69], (0, 0), hp701)) rfl rfl ?_
                                          refine bs_putI (W := [(11, 14, 14)]) (g := 11) rfl rfl Hhp701 (bs_R.uq Hhp701 (g := 11) rfl) (by decide) rfl rfl rfl rfl (Or.inl rfl) (by omega) (by omega) fun hp704 Hhp704 fhp704 rhp704 ehp704 qhp704 nhp704 => ?_
                                          have Fhp704 := sf_fr_tr Fhp701 (sf_fr_wider (W := [(999, 0, 0), (11, 4, 4), (11, 11, 14), (11, 17, 17)]) rfl fhp704)
                                          have h705 : sf_rd hp704 69 4 = some y31 := (ehp704 _ _ (Or.inr (by omega))).trans h702
                                          have h706 : sf_rd hp704 69 13 = some (0 : Int) := (ehp704 _ _ (Or.inr (by omega))).trans h703
                                          have h707 : sf_rd hp704 69 11 = some z700.toInt := (ehp704 _ _ (Or.inr (by omega))).trans rhp701
                                          refine Ev.step (j := 154) (s' := ([some (.ref 69), some (.int z32), none, none], [.ref 69], (0, 0), hp704)) rfl rfl ?_
                                          refine Ev.step (j := 155) (s' := ([some (.ref 69), some (.int z32), none, none], [.ref 69, .ref 69], (0, 0), hp704)) rfl rfl ?_
                                          exact by
                                           refine bs_getI 11 rfl rfl rfl Hhp704 (bs_R.uq Hhp704 (g := 11) rfl) (by decide) rfl fun z708 hz708 lz708 gz708 => ?_
                                           have e709 : z708.toInt = y31 := Option.some.inj (hz708.symm.trans h705)
                                           refine bs_lit (k := 1) rfl rfl fun z710 hz710 => ?_
                                           first | (refine bs_add rfl (by omega) (by omega) fun z711 hz711 => ?_) | (refine bs_any rfl fun z711 => ?_)
                                           have rz711 := n_range z711
                                           refine bs_putI (W := [(11, 4, 4), (999, 0, 0)]) (g := 11) rfl rfl Hhp704 (bs_R.uq Hhp704 (g := 11) rfl) (by decide) rfl rfl rfl rfl (Or.inl rfl) (by omega) (by omega) fun hp712 Hhp712 fhp712 rhp712 ehp712 qhp712 nhp712 => ?_
                                           have Fhp712 := sf_fr_tr Fhp704 (sf_fr_wider (W := [(999, 0, 0), (11, 4, 4), (11, 11, 14), (11, 17, 17)]) rfl fhp712)
                                           have h713 : sf_rd hp712 69 13 = some (0 : Int) := (ehp712 _ _ (Or.inr (by omega))).trans h706
                                           have h714 : sf_rd hp712 69 11 = some z700.toInt := (ehp712 _ _ (Or.inr (by omega))).trans h707
                                           have h715 : sf_rd hp712 69 14 = some z32.toInt := (ehp712 _ _ (Or.inr (by omega))).trans rhp704
                                           have A1 := psi_ge rhp712 h714
                                           have A2 := psi_ge Q4 Q11
                                           have PS : sf_psi hp712 ≤ sf_psi hp := by omega
                                           exact Ev.ret rfl rfl (by rw [hQ]; exact ⟨t29, Hhp712, (fr_unmark H Fhp712 PS), bs_anU, sf_S_nil, (fun v hv => by have e : v = P0 := Option.some.inj (hv.symm.trans Q4); show sf_psi hp712 ≤ 2 * (940 - v); rw [e]; omega)⟩)
                                       · skip
                                         refine Ev.step (j := 135) (s' := ([some (.ref 69), some (.int z32), none, none], [.int z32, .ref 69], (0, 0), hp28)) rfl rfl ?_
                                         exact by
                                          refine bs_lit (k := 62) rfl rfl fun z716 hz716 => ?_
                                          refine bs_gt rfl (fun c717 => ?_) (fun c717 => ?_)
                                          · skip
                                            refine bs_lit (k := 4) rfl rfl fun z718 hz718 => ?_
                                            refine bs_putI (W := [(11, 11, 11), (999, 0, 0)]) (g := 11) rfl rfl Hhp28 (bs_R.uq Hhp28 (g := 11) rfl) (by decide) rfl rfl rfl rfl (Or.inl rfl) (by omega) (by omega) fun hp719 Hhp719 fhp719 rhp719 ehp719 qhp719 nhp719 => ?_
                                            have Fhp719 := sf_fr_tr Fhp28 (sf_fr_wider (W := [(999, 0, 0), (11, 4, 4), (11, 11, 14), (11, 17, 17)]) rfl fhp719)
                                            have h720 : sf_rd hp719 69 4 = some y31 := (ehp719 _ _ (Or.inr (by omega))).trans hy31
                                            have h721 : sf_rd hp719 69 13 = some (0 : Int) := (ehp719 _ _ (Or.inr (by omega))).trans cy31
                                            refine Ev.step (j := 149) (s' := ([some (.ref 69), some (.int z32), none, none], [.ref 69], (0, 0), hp719)) rfl rfl ?_
                                            exact by
                                             refine Ev.step (j := 150) (s' := ([some (.ref 69), some (.int z32), none, none], [.int z32, .ref 69], (0, 0), hp719)) rfl rfl ?_
                                             refine bs_putI (W := [(11, 14, 14)]) (g := 11) rfl rfl Hhp719 (bs_R.uq Hhp719 (g := 11) rfl) (by decide) rfl rfl rfl rfl (Or.inl rfl) (by omega) (by omega) fun hp722 Hhp722 fhp722 rhp722 ehp722 qhp722 nhp722 => ?_
                                             have Fhp722 := sf_fr_tr Fhp719 (sf_fr_wider (W := [(999, 0, 0), (11, 4, 4), (11, 11, 14), (11, 17, 17)]) rfl fhp722)
                                             have h723 : sf_rd hp722 69 4 = some y31 := (ehp722 _ _ (Or.inr (by omega))).trans h720
                                             have h724 : sf_rd hp722 69 13 = some (0 : Int) := (ehp722 _ _ (Or.inr (by omega))).trans h721
                                             have h725 : sf_rd hp722 69 11 = some z718.toInt := (ehp722 _ _ (Or.inr (by omega))).trans rhp719
                                             refine Ev.step (j := 154) (s' := ([some (.ref 69), some (.int z32), none, none], [.ref 69], (0, 0), hp722)) rfl rfl ?_
                                             refine Ev.step (j := 155) (s' := ([some (.ref 69), some (.int z32), none, none], [.ref 69, .ref 69], (0, 0), hp722)) rfl rfl ?_
                                             exact by
                                              refine bs_getI 11 rfl rfl rfl Hhp722 (bs_R.uq Hhp722 (g := 11) rfl) (by decide) rfl fun z726 hz726 lz726 gz726 => ?_
                                              have e727 : z726.toInt = y31 := Option.some.inj (hz726.symm.trans h723)
                                              refine bs_lit (k := 1) rfl rfl fun z728 hz728 => ?_
                                              first | (refine bs_add rfl (by omega) (by omega) fun z729 hz729 => ?_) | (refine bs_any rfl fun z729 => ?_)
                                              have rz729 := n_range z729
                                              refine bs_putI (W := [(11, 4, 4), (999, 0, 0)]) (g := 11) rfl rfl Hhp722 (bs_R.uq Hhp722 (g := 11) rfl) (by decide) rfl rfl rfl rfl (Or.inl rfl) (by omega) (by omega) fun hp730 Hhp730 fhp730 rhp730 ehp730 qhp730 nhp730 => ?_
                                              have Fhp730 := sf_fr_tr Fhp722 (sf_fr_wider (W := [(999, 0, 0), (11, 4, 4), (11, 11, 14), (11, 17, 17)]) rfl fhp730)
                                              have h731 : sf_rd hp730 69 13 = some (0 : Int) := (ehp730 _ _ (Or.inr (by omega))).trans h724
                                              have h732 : sf_rd hp730 69 11 = some z718.toInt := (ehp730 _ _ (Or.inr (by omega))).trans h725
                                              have h733 : sf_rd hp730 69 14 = some z32.toInt := (ehp730 _ _ (Or.inr (by omega))).trans rhp722
                                              have A1 := psi_ge rhp730 h732
                                              have A2 := psi_ge Q4 Q11
                                              have PS : sf_psi hp730 ≤ sf_psi hp := by omega
                                              exact Ev.ret rfl rfl (by rw [hQ]; exact ⟨t29, Hhp730, (fr_unmark H Fhp730 PS), bs_anU, sf_S_nil, (fun v hv => by have e : v = P0 := Option.some.inj (hv.symm.trans Q4); show sf_psi hp730 ≤ 2 * (940 - v); rw [e]; omega)⟩)
                                          · skip
                                            refine bs_lit (k := 3) rfl rfl fun z734 hz734 => ?_
                                            exact by
                                             refine Ev.step (j := 145) (s' := ([some (.ref 69), some (.int z32), none, none], [.int z734, .ref 69], (0, 0), hp28)) rfl rfl ?_
                                             refine bs_putI (W := [(11, 11, 11), (999, 0, 0)]) (g := 11) rfl rfl Hhp28 (bs_R.uq Hhp28 (g := 11) rfl) (by decide) rfl rfl rfl rfl (Or.inl rfl) (by omega) (by omega) fun hp735 Hhp735 fhp735 rhp735 ehp735 qhp735 nhp735 => ?_
                                             have Fhp735 := sf_fr_tr Fhp28 (sf_fr_wider (W := [(999, 0, 0), (11, 4, 4), (11, 11, 14), (11, 17, 17)]) rfl fhp735)
                                             have h736 : sf_rd hp735 69 4 = some y31 := (ehp735 _ _ (Or.inr (by omega))).trans hy31
                                             have h737 : sf_rd hp735 69 13 = some (0 : Int) := (ehp735 _ _ (Or.inr (by omega))).trans cy31
                                             refine Ev.step (j := 149) (s' := ([some (.ref 69), some (.int z32), none, none], [.ref 69], (0, 0), hp735)) rfl rfl ?_
                                             refine Ev.step (j := 150) (s' := ([some (.ref 69), some (.int z32), none, none], [.int z32, .ref 69], (0, 0), hp735)) rfl rfl ?_
                                             refine bs_putI (W := [(11, 14, 14)]) (g := 11) rfl rfl Hhp735 (bs_R.uq Hhp735 (g := 11) rfl) (by decide) rfl rfl rfl rfl (Or.inl rfl) (by omega) (by omega) fun hp738 Hhp738 fhp738 rhp738 ehp738 qhp738 nhp738 => ?_
                                             have Fhp738 := sf_fr_tr Fhp735 (sf_fr_wider (W := [(999, 0, 0), (11, 4, 4), (11, 11, 14), (11, 17, 17)]) rfl fhp738)
                                             have h739 : sf_rd hp738 69 4 = some y31 := (ehp738 _ _ (Or.inr (by omega))).trans h736
                                             have h740 : sf_rd hp738 69 13 = some (0 : Int) := (ehp738 _ _ (Or.inr (by omega))).trans h737
                                             have h741 : sf_rd hp738 69 11 = some z734.toInt := (ehp738 _ _ (Or.inr (by omega))).trans rhp735
                                             refine Ev.step (j := 154) (s' := ([some (.ref 69), some (.int z32), none, none], [.ref 69], (0, 0), hp738)) rfl rfl ?_
                                             exact by
                                              refine Ev.step (j := 155) (s' := ([some (.ref 69), some (.int z32), none, none], [.ref 69, .ref 69], (0, 0), hp738)) rfl rfl ?_
                                              refine bs_getI 11 rfl rfl rfl Hhp738 (bs_R.uq Hhp738 (g := 11) rfl) (by decide) rfl fun z742 hz742 lz742 gz742 => ?_
                                              have e743 : z742.toInt = y31 := Option.some.inj (hz742.symm.trans h739)
                                              refine bs_lit (k := 1) rfl rfl fun z744 hz744 => ?_
                                              first | (refine bs_add rfl (by omega) (by omega) fun z745 hz745 => ?_) | (refine bs_any rfl fun z745 => ?_)
                                              have rz745 := n_range z745
                                              refine bs_putI (W := [(11, 4, 4), (999, 0, 0)]) (g := 11) rfl rfl Hhp738 (bs_R.uq Hhp738 (g := 11) rfl) (by decide) rfl rfl rfl rfl (Or.inl rfl) (by omega) (by omega) fun hp746 Hhp746 fhp746 rhp746 ehp746 qhp746 nhp746 => ?_
                                              have Fhp746 := sf_fr_tr Fhp738 (sf_fr_wider (W := [(999, 0, 0), (11, 4, 4), (11, 11, 14), (11, 17, 17)]) rfl fhp746)
                                              have h747 : sf_rd hp746 69 13 = some (0 : Int) := (ehp746 _ _ (Or.inr (by omega))).trans h740
                                              have h748 : sf_rd hp746 69 11 = some z734.toInt := (ehp746 _ _ (Or.inr (by omega))).trans h741
                                              have h749 : sf_rd hp746 69 14 = some z32.toInt := (ehp746 _ _ (Or.inr (by omega))).trans rhp738
                                              have A1 := psi_ge rhp746 h748
                                              have A2 := psi_ge Q4 Q11
                                              have PS : sf_psi hp746 ≤ sf_psi hp := by omega
                                              exact Ev.ret rfl rfl (by rw [hQ]; exact ⟨t29, Hhp746, (fr_unmark H Fhp746 PS), bs_anU, sf_S_nil, (fun v hv => by have e : v = P0 := Option.some.inj (hv.symm.trans Q4); show sf_psi hp746 ≤ 2 * (940 - v); rw [e]; omega)⟩)
                         · skip
                           refine Ev.step (j := 7) (s' := ([some (.int z32)], [.int z32], (0, 0), hp28)) rfl rfl ?_
                           exact by
                            refine bs_lit (k := 57) rfl rfl fun z750 hz750 => ?_
                            refine bs_gt rfl (fun c751 => ?_) (fun c751 => ?_)
                            · skip
                              refine bs_lit (k := 0) rfl rfl fun z752 hz752 => ?_
                              refine bs_zret rfl rfl (by omega) (by omega) ?_
                              rw [← hQ636]
                              refine (show Ev _ 106 ([some (.ref 69), some (.int z32), none, none], [.int z752], (0, 0), hp28) _ from ?_)
                              refine bs_ifne rfl (fun c753 => ?_) (fun c753 => ?_)
                              · exfalso; omega
                              · skip
                                refine Ev.step (j := 110) (s' := ([some (.ref 69), some (.int z32), none, none], [.ref 69], (0, 0), hp28)) rfl rfl ?_
                                refine Ev.step (j := 111) (s' := ([some (.ref 69), some (.int z32), none, none], [.int z32, .ref 69], (0, 0), hp28)) rfl rfl ?_
                                exact by
                                 refine bs_lit (k := 59) rfl rfl fun z754 hz754 => ?_
                                 refine bs_eq rfl (fun c755 => ?_) (fun c755 => ?_)
                                 · skip
                                   have c756 : z32.toInt = 59 := by omega
                                   refine bs_lit (k := 3) rfl rfl fun z757 hz757 => ?_
                                   refine Ev.step (j := 145) (s' := ([some (.ref 69), some (.int z32), none, none], [.int z757, .ref 69], (0, 0), hp28)) rfl rfl ?_
                                   refine bs_putI (W := [(11, 11, 11), (999, 0, 0)]) (g := 11) rfl rfl Hhp28 (bs_R.uq Hhp28 (g := 11) rfl) (by decide) rfl rfl rfl rfl (Or.inl rfl) (by omega) (by omega) fun hp758 Hhp758 fhp758 rhp758 ehp758 qhp758 nhp758 => ?_
                                   have Fhp758 := sf_fr_tr Fhp28 (sf_fr_wider (W := [(999, 0, 0), (11, 4, 4), (11, 11, 14), (11, 17, 17)]) rfl fhp758)
                                   have h759 : sf_rd hp758 69 4 = some y31 := (ehp758 _ _ (Or.inr (by omega))).trans hy31
                                   have h760 : sf_rd hp758 69 13 = some (0 : Int) := (ehp758 _ _ (Or.inr (by omega))).trans cy31
                                   refine Ev.step (j := 149) (s' := ([some (.ref 69), some (.int z32), none, none], [.ref 69], (0, 0), hp758)) rfl rfl ?_
                                   exact by
                                    refine Ev.step (j := 150) (s' := ([some (.ref 69), some (.int z32), none, none], [.int z32, .ref 69], (0, 0), hp758)) rfl rfl ?_
                                    refine bs_putI (W := [(11, 14, 14)]) (g := 11) rfl rfl Hhp758 (bs_R.uq Hhp758 (g := 11) rfl) (by decide) rfl rfl rfl rfl (Or.inl rfl) (by omega) (by omega) fun hp761 Hhp761 fhp761 rhp761 ehp761 qhp761 nhp761 => ?_
                                    have Fhp761 := sf_fr_tr Fhp758 (sf_fr_wider (W := [(999, 0, 0), (11, 4, 4), (11, 11, 14), (11, 17, 17)]) rfl fhp761)
                                    have h762 : sf_rd hp761 69 4 = some y31 := (ehp761 _ _ (Or.inr (by omega))).trans h759
                                    have h763 : sf_rd hp761 69 13 = some (0 : Int) := (ehp761 _ _ (Or.inr (by omega))).trans h760
                                    have h764 : sf_rd hp761 69 11 = some z757.toInt := (ehp761 _ _ (Or.inr (by omega))).trans rhp758
                                    refine Ev.step (j := 154) (s' := ([some (.ref 69), some (.int z32), none, none], [.ref 69], (0, 0), hp761)) rfl rfl ?_
                                    refine Ev.step (j := 155) (s' := ([some (.ref 69), some (.int z32), none, none], [.ref 69, .ref 69], (0, 0), hp761)) rfl rfl ?_
                                    exact by
                                     refine bs_getI 11 rfl rfl rfl Hhp761 (bs_R.uq Hhp761 (g := 11) rfl) (by decide) rfl fun z765 hz765 lz765 gz765 => ?_
                                     have e766 : z765.toInt = y31 := Option.some.inj (hz765.symm.trans h762)
                                     refine bs_lit (k := 1) rfl rfl fun z767 hz767 => ?_
                                     first | (refine bs_add rfl (by omega) (by omega) fun z768 hz768 => ?_) | (refine bs_any rfl fun z768 => ?_)
                                     have rz768 := n_range z768
                                     refine bs_putI (W := [(11, 4, 4), (999, 0, 0)]) (g := 11) rfl rfl Hhp761 (bs_R.uq Hhp761 (g := 11) rfl) (by decide) rfl rfl rfl rfl (Or.inl rfl) (by omega) (by omega) fun hp769 Hhp769 fhp769 rhp769 ehp769 qhp769 nhp769 => ?_
                                     have Fhp769 := sf_fr_tr Fhp761 (sf_fr_wider (W := [(999, 0, 0), (11, 4, 4), (11, 11, 14), (11, 17, 17)]) rfl fhp769)
                                     have h770 : sf_rd hp769 69 13 = some (0 : Int) := (ehp769 _ _ (Or.inr (by omega))).trans h763
                                     have h771 : sf_rd hp769 69 11 = some z757.toInt := (ehp769 _ _ (Or.inr (by omega))).trans h764
                                     have h772 : sf_rd hp769 69 14 = some z32.toInt := (ehp769 _ _ (Or.inr (by omega))).trans rhp761
                                     have A1 := psi_ge rhp769 h771
                                     have A2 := psi_ge Q4 Q11
                                     have PS : sf_psi hp769 ≤ sf_psi hp := by omega
                                     exact Ev.ret rfl rfl (by rw [hQ]; exact ⟨t29, Hhp769, (fr_unmark H Fhp769 PS), bs_anU, sf_S_nil, (fun v hv => by have e : v = P0 := Option.some.inj (hv.symm.trans Q4); show sf_psi hp769 ≤ 2 * (940 - v); rw [e]; omega)⟩)
                                 · skip
                                   refine Ev.step (j := 117) (s' := ([some (.ref 69), some (.int z32), none, none], [.int z32, .ref 69], (0, 0), hp28)) rfl rfl ?_
                                   exact by
                                    refine bs_lit (k := 40) rfl rfl fun z773 hz773 => ?_
                                    refine bs_eq rfl (fun c774 => ?_) (fun c774 => ?_)
                                    · skip
                                      have c775 : z32.toInt = 40 := by omega
                                      refine bs_lit (k := 3) rfl rfl fun z776 hz776 => ?_
                                      refine Ev.step (j := 145) (s' := ([some (.ref 69), some (.int z32), none, none], [.int z776, .ref 69], (0, 0), hp28)) rfl rfl ?_
                                      refine bs_putI (W := [(11, 11, 11), (999, 0, 0)]) (g := 11) rfl rfl Hhp28 (bs_R.uq Hhp28 (g := 11) rfl) (by decide) rfl rfl rfl rfl (Or.inl rfl) (by omega) (by omega) fun hp777 Hhp777 fhp777 rhp777 ehp777 qhp777 nhp777 => ?_
                                      have Fhp777 := sf_fr_tr Fhp28 (sf_fr_wider (W := [(999, 0, 0), (11, 4, 4), (11, 11, 14), (11, 17, 17)]) rfl fhp777)
                                      have h778 : sf_rd hp777 69 4 = some y31 := (ehp777 _ _ (Or.inr (by omega))).trans hy31
                                      have h779 : sf_rd hp777 69 13 = some (0 : Int) := (ehp777 _ _ (Or.inr (by omega))).trans cy31
                                      refine Ev.step (j := 149) (s' := ([some (.ref 69), some (.int z32), none, none], [.ref 69], (0, 0), hp777)) rfl rfl ?_
                                      exact by
                                       refine Ev.step (j := 150) (s' := ([some (.ref 69), some (.int z32), none, none], [.int z32, .ref 69], (0, 0), hp777)) rfl rfl ?_
                                       refine bs_putI (W := [(11, 14, 14)]) (g := 11) rfl rfl Hhp777 (bs_R.uq Hhp777 (g := 11) rfl) (by decide) rfl rfl rfl rfl (Or.inl rfl) (by omega) (by omega) fun hp780 Hhp780 fhp780 rhp780 ehp780 qhp780 nhp780 => ?_
                                       have Fhp780 := sf_fr_tr Fhp777 (sf_fr_wider (W := [(999, 0, 0), (11, 4, 4), (11, 11, 14), (11, 17, 17)]) rfl fhp780)
                                       have h781 : sf_rd hp780 69 4 = some y31 := (ehp780 _ _ (Or.inr (by omega))).trans h778
                                       have h782 : sf_rd hp780 69 13 = some (0 : Int) := (ehp780 _ _ (Or.inr (by omega))).trans h779
                                       have h783 : sf_rd hp780 69 11 = some z776.toInt := (ehp780 _ _ (Or.inr (by omega))).trans rhp777
                                       refine Ev.step (j := 154) (s' := ([some (.ref 69), some (.int z32), none, none], [.ref 69], (0, 0), hp780)) rfl rfl ?_
                                       refine Ev.step (j := 155) (s' := ([some (.ref 69), some (.int z32), none, none], [.ref 69, .ref 69], (0, 0), hp780)) rfl rfl ?_
                                       exact by
                                        refine bs_getI 11 rfl rfl rfl Hhp780 (bs_R.uq Hhp780 (g := 11) rfl) (by decide) rfl fun z784 hz784 lz784 gz784 => ?_
                                        have e785 : z784.toInt = y31 := Option.some.inj (hz784.symm.trans h781)
                                        refine bs_lit (k := 1) rfl rfl fun z786 hz786 => ?_
                                        first | (refine bs_add rfl (by omega) (by omega) fun z787 hz787 => ?_) | (refine bs_any rfl fun z787 => ?_)
                                        have rz787 := n_range z787
                                        refine bs_putI (W := [(11, 4, 4), (999, 0, 0)]) (g := 11) rfl rfl Hhp780 (bs_R.uq Hhp780 (g := 11) rfl) (by decide) rfl rfl rfl rfl (Or.inl rfl) (by omega) (by omega) fun hp788 Hhp788 fhp788 rhp788 ehp788 qhp788 nhp788 => ?_
                                        have Fhp788 := sf_fr_tr Fhp780 (sf_fr_wider (W := [(999, 0, 0), (11, 4, 4), (11, 11, 14), (11, 17, 17)]) rfl fhp788)
                                        have h789 : sf_rd hp788 69 13 = some (0 : Int) := (ehp788 _ _ (Or.inr (by omega))).trans h782
                                        have h790 : sf_rd hp788 69 11 = some z776.toInt := (ehp788 _ _ (Or.inr (by omega))).trans h783
                                        have h791 : sf_rd hp788 69 14 = some z32.toInt := (ehp788 _ _ (Or.inr (by omega))).trans rhp780
                                        have A1 := psi_ge rhp788 h790
                                        have A2 := psi_ge Q4 Q11
                                        have PS : sf_psi hp788 ≤ sf_psi hp := by omega
                                        exact Ev.ret rfl rfl (by rw [hQ]; exact ⟨t29, Hhp788, (fr_unmark H Fhp788 PS), bs_anU, sf_S_nil, (fun v hv => by have e : v = P0 := Option.some.inj (hv.symm.trans Q4); show sf_psi hp788 ≤ 2 * (940 - v); rw [e]; omega)⟩)
                                    · skip
                                      refine Ev.step (j := 123) (s' := ([some (.ref 69), some (.int z32), none, none], [.int z32, .ref 69], (0, 0), hp28)) rfl rfl ?_
                                      exact by
                                       refine bs_lit (k := 41) rfl rfl fun z792 hz792 => ?_
                                       refine bs_eq rfl (fun c793 => ?_) (fun c793 => ?_)
                                       · skip
                                         have c794 : z32.toInt = 41 := by omega
                                         refine bs_lit (k := 3) rfl rfl fun z795 hz795 => ?_
                                         refine Ev.step (j := 145) (s' := ([some (.ref 69), some (.int z32), none, none], [.int z795, .ref 69], (0, 0), hp28)) rfl rfl ?_
                                         refine bs_putI (W := [(11, 11, 11), (999, 0, 0)]) (g := 11) rfl rfl Hhp28 (bs_R.uq Hhp28 (g := 11) rfl) (by decide) rfl rfl rfl rfl (Or.inl rfl) (by omega) (by omega) fun hp796 Hhp796 fhp796 rhp796 ehp796 qhp796 nhp796 => ?_
                                         have Fhp796 := sf_fr_tr Fhp28 (sf_fr_wider (W := [(999, 0, 0), (11, 4, 4), (11, 11, 14), (11, 17, 17)]) rfl fhp796)
                                         have h797 : sf_rd hp796 69 4 = some y31 := (ehp796 _ _ (Or.inr (by omega))).trans hy31
                                         have h798 : sf_rd hp796 69 13 = some (0 : Int) := (ehp796 _ _ (Or.inr (by omega))).trans cy31
                                         refine Ev.step (j := 149) (s' := ([some (.ref 69), some (.int z32), none, none], [.ref 69], (0, 0), hp796)) rfl rfl ?_
                                         exact by
                                          refine Ev.step (j := 150) (s' := ([some (.ref 69), some (.int z32), none, none], [.int z32, .ref 69], (0, 0), hp796)) rfl rfl ?_
                                          refine bs_putI (W := [(11, 14, 14)]) (g := 11) rfl rfl Hhp796 (bs_R.uq Hhp796 (g := 11) rfl) (by decide) rfl rfl rfl rfl (Or.inl rfl) (by omega) (by omega) fun hp799 Hhp799 fhp799 rhp799 ehp799 qhp799 nhp799 => ?_
                                          have Fhp799 := sf_fr_tr Fhp796 (sf_fr_wider (W := [(999, 0, 0), (11, 4, 4), (11, 11, 14), (11, 17, 17)]) rfl fhp799)
                                          have h800 : sf_rd hp799 69 4 = some y31 := (ehp799 _ _ (Or.inr (by omega))).trans h797
                                          have h801 : sf_rd hp799 69 13 = some (0 : Int) := (ehp799 _ _ (Or.inr (by omega))).trans h798
                                          have h802 : sf_rd hp799 69 11 = some z795.toInt := (ehp799 _ _ (Or.inr (by omega))).trans rhp796
                                          refine Ev.step (j := 154) (s' := ([some (.ref 69), some (.int z32), none, none], [.ref 69], (0, 0), hp799)) rfl rfl ?_
                                          refine Ev.step (j := 155) (s' := ([some (.ref 69), some (.int z32), none, none], [.ref 69, .ref 69], (0, 0), hp799)) rfl rfl ?_
                                          exact by
                                           refine bs_getI 11 rfl rfl rfl Hhp799 (bs_R.uq Hhp799 (g := 11) rfl) (by decide) rfl fun z803 hz803 lz803 gz803 => ?_
                                           have e804 : z803.toInt = y31 := Option.some.inj (hz803.symm.trans h800)
                                           refine bs_lit (k := 1) rfl rfl fun z805 hz805 => ?_
                                           first | (refine bs_add rfl (by omega) (by omega) fun z806 hz806 => ?_) | (refine bs_any rfl fun z806 => ?_)
                                           have rz806 := n_range z806
                                           refine bs_putI (W := [(11, 4, 4), (999, 0, 0)]) (g := 11) rfl rfl Hhp799 (bs_R.uq Hhp799 (g := 11) rfl) (by decide) rfl rfl rfl rfl (Or.inl rfl) (by omega) (by omega) fun hp807 Hhp807 fhp807 rhp807 ehp807 qhp807 nhp807 => ?_
                                           have Fhp807 := sf_fr_tr Fhp799 (sf_fr_wider (W := [(999, 0, 0), (11, 4, 4), (11, 11, 14), (11, 17, 17)]) rfl fhp807)
                                           have h808 : sf_rd hp807 69 13 = some (0 : Int) := (ehp807 _ _ (Or.inr (by omega))).trans h801
                                           have h809 : sf_rd hp807 69 11 = some z795.toInt := (ehp807 _ _ (Or.inr (by omega))).trans h802
                                           have h810 : sf_rd hp807 69 14 = some z32.toInt := (ehp807 _ _ (Or.inr (by omega))).trans rhp799
                                           have A1 := psi_ge rhp807 h809
                                           have A2 := psi_ge Q4 Q11
                                           have PS : sf_psi hp807 ≤ sf_psi hp := by omega
                                           exact Ev.ret rfl rfl (by rw [hQ]; exact ⟨t29, Hhp807, (fr_unmark H Fhp807 PS), bs_anU, sf_S_nil, (fun v hv => by have e : v = P0 := Option.some.inj (hv.symm.trans Q4); show sf_psi hp807 ≤ 2 * (940 - v); rw [e]; omega)⟩)
                                       · skip
                                         refine Ev.step (j := 129) (s' := ([some (.ref 69), some (.int z32), none, none], [.int z32, .ref 69], (0, 0), hp28)) rfl rfl ?_
                                         exact by
                                          refine bs_lit (k := 60) rfl rfl fun z811 hz811 => ?_
                                          refine bs_lt rfl (fun c812 => ?_) (fun c812 => ?_)
                                          · skip
                                            refine bs_lit (k := 4) rfl rfl fun z813 hz813 => ?_
                                            refine bs_putI (W := [(11, 11, 11), (999, 0, 0)]) (g := 11) rfl rfl Hhp28 (bs_R.uq Hhp28 (g := 11) rfl) (by decide) rfl rfl rfl rfl (Or.inl rfl) (by omega) (by omega) fun hp814 Hhp814 fhp814 rhp814 ehp814 qhp814 nhp814 => ?_
                                            have Fhp814 := sf_fr_tr Fhp28 (sf_fr_wider (W := [(999, 0, 0), (11, 4, 4), (11, 11, 14), (11, 17, 17)]) rfl fhp814)
                                            have h815 : sf_rd hp814 69 4 = some y31 := (ehp814 _ _ (Or.inr (by omega))).trans hy31
                                            have h816 : sf_rd hp814 69 13 = some (0 : Int) := (ehp814 _ _ (Or.inr (by omega))).trans cy31
                                            refine Ev.step (j := 149) (s' := ([some (.ref 69), some (.int z32), none, none], [.ref 69], (0, 0), hp814)) rfl rfl ?_
                                            exact by
                                             refine Ev.step (j := 150) (s' := ([some (.ref 69), some (.int z32), none, none], [.int z32, .ref 69], (0, 0), hp814)) rfl rfl ?_
                                             refine bs_putI (W := [(11, 14, 14)]) (g := 11) rfl rfl Hhp814 (bs_R.uq Hhp814 (g := 11) rfl) (by decide) rfl rfl rfl rfl (Or.inl rfl) (by omega) (by omega) fun hp817 Hhp817 fhp817 rhp817 ehp817 qhp817 nhp817 => ?_
                                             have Fhp817 := sf_fr_tr Fhp814 (sf_fr_wider (W := [(999, 0, 0), (11, 4, 4), (11, 11, 14), (11, 17, 17)]) rfl fhp817)
                                             have h818 : sf_rd hp817 69 4 = some y31 := (ehp817 _ _ (Or.inr (by omega))).trans h815
                                             have h819 : sf_rd hp817 69 13 = some (0 : Int) := (ehp817 _ _ (Or.inr (by omega))).trans h816
                                             have h820 : sf_rd hp817 69 11 = some z813.toInt := (ehp817 _ _ (Or.inr (by omega))).trans rhp814
                                             refine Ev.step (j := 154) (s' := ([some (.ref 69), some (.int z32), none, none], [.ref 69], (0, 0), hp817)) rfl rfl ?_
                                             refine Ev.step (j := 155) (s' := ([some (.ref 69), some (.int z32), none, none], [.ref 69, .ref 69], (0, 0), hp817)) rfl rfl ?_
                                             exact by
                                              refine bs_getI 11 rfl rfl rfl Hhp817 (bs_R.uq Hhp817 (g := 11) rfl) (by decide) rfl fun z821 hz821 lz821 gz821 => ?_
                                              have e822 : z821.toInt = y31 := Option.some.inj (hz821.symm.trans h818)
                                              refine bs_lit (k := 1) rfl rfl fun z823 hz823 => ?_
                                              first | (refine bs_add rfl (by omega) (by omega) fun z824 hz824 => ?_) | (refine bs_any rfl fun z824 => ?_)
                                              have rz824 := n_range z824
                                              refine bs_putI (W := [(11, 4, 4), (999, 0, 0)]) (g := 11) rfl rfl Hhp817 (bs_R.uq Hhp817 (g := 11) rfl) (by decide) rfl rfl rfl rfl (Or.inl rfl) (by omega) (by omega) fun hp825 Hhp825 fhp825 rhp825 ehp825 qhp825 nhp825 => ?_
                                              have Fhp825 := sf_fr_tr Fhp817 (sf_fr_wider (W := [(999, 0, 0), (11, 4, 4), (11, 11, 14), (11, 17, 17)]) rfl fhp825)
                                              have h826 : sf_rd hp825 69 13 = some (0 : Int) := (ehp825 _ _ (Or.inr (by omega))).trans h819
                                              have h827 : sf_rd hp825 69 11 = some z813.toInt := (ehp825 _ _ (Or.inr (by omega))).trans h820
                                              have h828 : sf_rd hp825 69 14 = some z32.toInt := (ehp825 _ _ (Or.inr (by omega))).trans rhp817
                                              have A1 := psi_ge rhp825 h827
                                              have A2 := psi_ge Q4 Q11
                                              have PS : sf_psi hp825 ≤ sf_psi hp := by omega
                                              exact Ev.ret rfl rfl (by rw [hQ]; exact ⟨t29, Hhp825, (fr_unmark H Fhp825 PS), bs_anU, sf_S_nil, (fun v hv => by have e : v = P0 := Option.some.inj (hv.symm.trans Q4); show sf_psi hp825 ≤ 2 * (940 - v); rw [e]; omega)⟩)
                                          · skip
                                            refine Ev.step (j := 135) (s' := ([some (.ref 69), some (.int z32), none, none], [.int z32, .ref 69], (0, 0), hp28)) rfl rfl ?_
                                            exact by
                                             refine bs_lit (k := 62) rfl rfl fun z829 hz829 => ?_
                                             refine bs_gt rfl (fun c830 => ?_) (fun c830 => ?_)
                                             · skip
                                               refine bs_lit (k := 4) rfl rfl fun z831 hz831 => ?_
                                               refine bs_putI (W := [(11, 11, 11), (999, 0, 0)]) (g := 11) rfl rfl Hhp28 (bs_R.uq Hhp28 (g := 11) rfl) (by decide) rfl rfl rfl rfl (Or.inl rfl) (by omega) (by omega) fun hp832 Hhp832 fhp832 rhp832 ehp832 qhp832 nhp832 => ?_
                                               have Fhp832 := sf_fr_tr Fhp28 (sf_fr_wider (W := [(999, 0, 0), (11, 4, 4), (11, 11, 14), (11, 17, 17)]) rfl fhp832)
                                               have h833 : sf_rd hp832 69 4 = some y31 := (ehp832 _ _ (Or.inr (by omega))).trans hy31
                                               have h834 : sf_rd hp832 69 13 = some (0 : Int) := (ehp832 _ _ (Or.inr (by omega))).trans cy31
                                               refine Ev.step (j := 149) (s' := ([some (.ref 69), some (.int z32), none, none], [.ref 69], (0, 0), hp832)) rfl rfl ?_
                                               exact by
                                                refine Ev.step (j := 150) (s' := ([some (.ref 69), some (.int z32), none, none], [.int z32, .ref 69], (0, 0), hp832)) rfl rfl ?_
                                                refine bs_putI (W := [(11, 14, 14)]) (g := 11) rfl rfl Hhp832 (bs_R.uq Hhp832 (g := 11) rfl) (by decide) rfl rfl rfl rfl (Or.inl rfl) (by omega) (by omega) fun hp835 Hhp835 fhp835 rhp835 ehp835 qhp835 nhp835 => ?_
                                                have Fhp835 := sf_fr_tr Fhp832 (sf_fr_wider (W := [(999, 0, 0), (11, 4, 4), (11, 11, 14), (11, 17, 17)]) rfl fhp835)
                                                have h836 : sf_rd hp835 69 4 = some y31 := (ehp835 _ _ (Or.inr (by omega))).trans h833
                                                have h837 : sf_rd hp835 69 13 = some (0 : Int) := (ehp835 _ _ (Or.inr (by omega))).trans h834
                                                have h838 : sf_rd hp835 69 11 = some z831.toInt := (ehp835 _ _ (Or.inr (by omega))).trans rhp832
                                                refine Ev.step (j := 154) (s' := ([some (.ref 69), some (.int z32), none, none], [.ref 69], (0, 0), hp835)) rfl rfl ?_
                                                refine Ev.step (j := 155) (s' := ([some (.ref 69), some (.int z32), none, none], [.ref 69, .ref 69], (0, 0), hp835)) rfl rfl ?_
                                                exact by
                                                 refine bs_getI 11 rfl rfl rfl Hhp835 (bs_R.uq Hhp835 (g := 11) rfl) (by decide) rfl fun z839 hz839 lz839 gz839 => ?_
                                                 have e840 : z839.toInt = y31 := Option.some.inj (hz839.symm.trans h836)
                                                 refine bs_lit (k := 1) rfl rfl fun z841 hz841 => ?_
                                                 first | (refine bs_add rfl (by omega) (by omega) fun z842 hz842 => ?_) | (refine bs_any rfl fun z842 => ?_)
                                                 have rz842 := n_range z842
                                                 refine bs_putI (W := [(11, 4, 4), (999, 0, 0)]) (g := 11) rfl rfl Hhp835 (bs_R.uq Hhp835 (g := 11) rfl) (by decide) rfl rfl rfl rfl (Or.inl rfl) (by omega) (by omega) fun hp843 Hhp843 fhp843 rhp843 ehp843 qhp843 nhp843 => ?_
                                                 have Fhp843 := sf_fr_tr Fhp835 (sf_fr_wider (W := [(999, 0, 0), (11, 4, 4), (11, 11, 14), (11, 17, 17)]) rfl fhp843)
                                                 have h844 : sf_rd hp843 69 13 = some (0 : Int) := (ehp843 _ _ (Or.inr (by omega))).trans h837
                                                 have h845 : sf_rd hp843 69 11 = some z831.toInt := (ehp843 _ _ (Or.inr (by omega))).trans h838
                                                 have h846 : sf_rd hp843 69 14 = some z32.toInt := (ehp843 _ _ (Or.inr (by omega))).trans rhp835
                                                 have A1 := psi_ge rhp843 h845
                                                 have A2 := psi_ge Q4 Q11
                                                 have PS : sf_psi hp843 ≤ sf_psi hp := by omega
                                                 exact Ev.ret rfl rfl (by rw [hQ]; exact ⟨t29, Hhp843, (fr_unmark H Fhp843 PS), bs_anU, sf_S_nil, (fun v hv => by have e : v = P0 := Option.some.inj (hv.symm.trans Q4); show sf_psi hp843 ≤ 2 * (940 - v); rw [e]; omega)⟩)
                                             · skip
                                               refine bs_lit (k := 3) rfl rfl fun z847 hz847 => ?_
                                               exact by
                                                refine Ev.step (j := 145) (s' := ([some (.ref 69), some (.int z32), none, none], [.int z847, .ref 69], (0, 0), hp28)) rfl rfl ?_
                                                refine bs_putI (W := [(11, 11, 11), (999, 0, 0)]) (g := 11) rfl rfl Hhp28 (bs_R.uq Hhp28 (g := 11) rfl) (by decide) rfl rfl rfl rfl (Or.inl rfl) (by omega) (by omega) fun hp848 Hhp848 fhp848 rhp848 ehp848 qhp848 nhp848 => ?_
                                                have Fhp848 := sf_fr_tr Fhp28 (sf_fr_wider (W := [(999, 0, 0), (11, 4, 4), (11, 11, 14), (11, 17, 17)]) rfl fhp848)
                                                have h849 : sf_rd hp848 69 4 = some y31 := (ehp848 _ _ (Or.inr (by omega))).trans hy31
                                                have h850 : sf_rd hp848 69 13 = some (0 : Int) := (ehp848 _ _ (Or.inr (by omega))).trans cy31
                                                refine Ev.step (j := 149) (s' := ([some (.ref 69), some (.int z32), none, none], [.ref 69], (0, 0), hp848)) rfl rfl ?_
                                                refine Ev.step (j := 150) (s' := ([some (.ref 69), some (.int z32), none, none], [.int z32, .ref 69], (0, 0), hp848)) rfl rfl ?_
                                                refine bs_putI (W := [(11, 14, 14)]) (g := 11) rfl rfl Hhp848 (bs_R.uq Hhp848 (g := 11) rfl) (by decide) rfl rfl rfl rfl (Or.inl rfl) (by omega) (by omega) fun hp851 Hhp851 fhp851 rhp851 ehp851 qhp851 nhp851 => ?_
                                                have Fhp851 := sf_fr_tr Fhp848 (sf_fr_wider (W := [(999, 0, 0), (11, 4, 4), (11, 11, 14), (11, 17, 17)]) rfl fhp851)
                                                have h852 : sf_rd hp851 69 4 = some y31 := (ehp851 _ _ (Or.inr (by omega))).trans h849
                                                have h853 : sf_rd hp851 69 13 = some (0 : Int) := (ehp851 _ _ (Or.inr (by omega))).trans h850
                                                have h854 : sf_rd hp851 69 11 = some z847.toInt := (ehp851 _ _ (Or.inr (by omega))).trans rhp848
                                                refine Ev.step (j := 154) (s' := ([some (.ref 69), some (.int z32), none, none], [.ref 69], (0, 0), hp851)) rfl rfl ?_
                                                exact by
                                                 refine Ev.step (j := 155) (s' := ([some (.ref 69), some (.int z32), none, none], [.ref 69, .ref 69], (0, 0), hp851)) rfl rfl ?_
                                                 refine bs_getI 11 rfl rfl rfl Hhp851 (bs_R.uq Hhp851 (g := 11) rfl) (by decide) rfl fun z855 hz855 lz855 gz855 => ?_
                                                 have e856 : z855.toInt = y31 := Option.some.inj (hz855.symm.trans h852)
                                                 refine bs_lit (k := 1) rfl rfl fun z857 hz857 => ?_
                                                 first | (refine bs_add rfl (by omega) (by omega) fun z858 hz858 => ?_) | (refine bs_any rfl fun z858 => ?_)
                                                 have rz858 := n_range z858
                                                 refine bs_putI (W := [(11, 4, 4), (999, 0, 0)]) (g := 11) rfl rfl Hhp851 (bs_R.uq Hhp851 (g := 11) rfl) (by decide) rfl rfl rfl rfl (Or.inl rfl) (by omega) (by omega) fun hp859 Hhp859 fhp859 rhp859 ehp859 qhp859 nhp859 => ?_
                                                 have Fhp859 := sf_fr_tr Fhp851 (sf_fr_wider (W := [(999, 0, 0), (11, 4, 4), (11, 11, 14), (11, 17, 17)]) rfl fhp859)
                                                 have h860 : sf_rd hp859 69 13 = some (0 : Int) := (ehp859 _ _ (Or.inr (by omega))).trans h853
                                                 have h861 : sf_rd hp859 69 11 = some z847.toInt := (ehp859 _ _ (Or.inr (by omega))).trans h854
                                                 have h862 : sf_rd hp859 69 14 = some z32.toInt := (ehp859 _ _ (Or.inr (by omega))).trans rhp851
                                                 have A1 := psi_ge rhp859 h861
                                                 have A2 := psi_ge Q4 Q11
                                                 have PS : sf_psi hp859 ≤ sf_psi hp := by omega
                                                 exact Ev.ret rfl rfl (by rw [hQ]; exact ⟨t29, Hhp859, (fr_unmark H Fhp859 PS), bs_anU, sf_S_nil, (fun v hv => by have e : v = P0 := Option.some.inj (hv.symm.trans Q4); show sf_psi hp859 ≤ 2 * (940 - v); rw [e]; omega)⟩)
                            · skip
                              refine bs_lit (k := 1) rfl rfl fun z863 hz863 => ?_
                              exact by
                               refine Ev.step (j := 17) (s' := ([some (.int z32)], [.int z863], (0, 0), hp28)) rfl rfl ?_
                               refine bs_zret rfl rfl (by omega) (by omega) ?_
                               rw [← hQ636]
                               refine (show Ev _ 106 ([some (.ref 69), some (.int z32), none, none], [.int z863], (0, 0), hp28) _ from ?_)
                               refine bs_ifne rfl (fun c864 => ?_) (fun c864 => ?_)
                               · skip
                                 refine Ev.step (j := 165) (s' := ([some (.ref 69), some (.int z32), none, none], [.int z32], (0, 0), hp28)) rfl rfl ?_
                                 refine Ev.inlS (L := L_X11_isSmall) (nL := 1) rfl rfl (Nat.le_of_ble_eq_true rfl) ?_
                                 generalize hQ865 : (fun (o : ab_O) => Ev _ _ _ _) = Q865
                                 refine (show Ev (ab_T L_X11_isSmall) 0 ([some (.int z32)], [], (0, 0), hp28) Q865 from ?_)
                                 refine Ev.step (j := 1) (s' := ([some (.int z32)], [.int z32], (0, 0), hp28)) rfl rfl ?_
                                 exact by
                                  refine bs_lit (k := 97) rfl rfl fun z866 hz866 => ?_
                                  refine bs_lt rfl (fun c867 => ?_) (fun c867 => ?_)
                                  · skip
                                    refine bs_lit (k := 0) rfl rfl fun z868 hz868 => ?_
                                    refine bs_zret rfl rfl (by omega) (by omega) ?_
                                    rw [← hQ865]
                                    refine (show Ev _ 168 ([some (.ref 69), some (.int z32), none, none], [.int z868], (0, 0), hp28) _ from ?_)
                                    refine Ev.step (j := 169) (s' := ([some (.ref 69), some (.int z32), some (.int z868), none], [], (0, 0), hp28)) rfl rfl ?_
                                    refine bs_lit (k := 1) rfl rfl fun z869 hz869 => ?_
                                    have INV : ∃ v : Int, sf_rd hp28 69 4 = some v ∧ sf_rd hp28 69 13 = some 0 ∧ P0 ≤ v ∧ v ≤ 940 ∧ ((48 ≤ z32.toInt ∧ z32.toInt ≤ 57) ∨ (97 ≤ z32.toInt ∧ z32.toInt ≤ 122)) ∧ pkR hp28 z32 := ⟨_, hy31, cy31, by omega, by omega, by omega, pz32⟩
                                    refine Ev.step (j := 171) (s' := ([some (.ref 69), some (.int z32), some (.int z868), some (.int z869)], [], (0, 0), hp28)) rfl rfl ?_
                                    exact cut34 z868 z869 hp28 t29 Hhp28 Fhp28 (by exact INV) (by first | omega | assumption)
                                  · skip
                                    refine Ev.step (j := 7) (s' := ([some (.int z32)], [.int z32], (0, 0), hp28)) rfl rfl ?_
                                    exact by
                                     refine bs_lit (k := 122) rfl rfl fun z870 hz870 => ?_
                                     refine bs_gt rfl (fun c871 => ?_) (fun c871 => ?_)
                                     · skip
                                       refine bs_lit (k := 0) rfl rfl fun z872 hz872 => ?_
                                       refine bs_zret rfl rfl (by omega) (by omega) ?_
                                       rw [← hQ865]
                                       refine (show Ev _ 168 ([some (.ref 69), some (.int z32), none, none], [.int z872], (0, 0), hp28) _ from ?_)
                                       refine Ev.step (j := 169) (s' := ([some (.ref 69), some (.int z32), some (.int z872), none], [], (0, 0), hp28)) rfl rfl ?_
                                       refine bs_lit (k := 1) rfl rfl fun z873 hz873 => ?_
                                       have INV : ∃ v : Int, sf_rd hp28 69 4 = some v ∧ sf_rd hp28 69 13 = some 0 ∧ P0 ≤ v ∧ v ≤ 940 ∧ ((48 ≤ z32.toInt ∧ z32.toInt ≤ 57) ∨ (97 ≤ z32.toInt ∧ z32.toInt ≤ 122)) ∧ pkR hp28 z32 := ⟨_, hy31, cy31, by omega, by omega, by omega, pz32⟩
                                       refine Ev.step (j := 171) (s' := ([some (.ref 69), some (.int z32), some (.int z872), some (.int z873)], [], (0, 0), hp28)) rfl rfl ?_
                                       exact cut34 z872 z873 hp28 t29 Hhp28 Fhp28 (by exact INV) (by first | omega | assumption)
                                     · skip
                                       refine bs_lit (k := 1) rfl rfl fun z874 hz874 => ?_
                                       exact by
                                        refine Ev.step (j := 17) (s' := ([some (.int z32)], [.int z874], (0, 0), hp28)) rfl rfl ?_
                                        refine bs_zret rfl rfl (by omega) (by omega) ?_
                                        rw [← hQ865]
                                        refine (show Ev _ 168 ([some (.ref 69), some (.int z32), none, none], [.int z874], (0, 0), hp28) _ from ?_)
                                        refine Ev.step (j := 169) (s' := ([some (.ref 69), some (.int z32), some (.int z874), none], [], (0, 0), hp28)) rfl rfl ?_
                                        refine bs_lit (k := 1) rfl rfl fun z875 hz875 => ?_
                                        have INV : ∃ v : Int, sf_rd hp28 69 4 = some v ∧ sf_rd hp28 69 13 = some 0 ∧ P0 ≤ v ∧ v ≤ 940 ∧ ((48 ≤ z32.toInt ∧ z32.toInt ≤ 57) ∨ (97 ≤ z32.toInt ∧ z32.toInt ≤ 122)) ∧ pkR hp28 z32 := ⟨_, hy31, cy31, by omega, by omega, by omega, pz32⟩
                                        refine Ev.step (j := 171) (s' := ([some (.ref 69), some (.int z32), some (.int z874), some (.int z875)], [], (0, 0), hp28)) rfl rfl ?_
                                        exact cut34 z874 z875 hp28 t29 Hhp28 Fhp28 (by exact INV) (by first | omega | assumption)
                               · exfalso; omega
                    · skip
                      refine bs_lit (k := 1) rfl rfl fun z876 hz876 => ?_
                      exact by
                       refine Ev.step (j := 17) (s' := ([some (.int z32)], [.int z876], (0, 0), hp28)) rfl rfl ?_
                       refine bs_zret rfl rfl (by omega) (by omega) ?_
                       rw [← hQ387]
                       refine (show Ev _ 99 ([some (.ref 69), some (.int z32), none, none], [.int z876], (0, 0), hp28) _ from ?_)
                       refine bs_ifne rfl (fun c877 => ?_) (fun c877 => ?_)
                       · skip
                         refine Ev.step (j := 165) (s' := ([some (.ref 69), some (.int z32), none, none], [.int z32], (0, 0), hp28)) rfl rfl ?_
                         refine Ev.inlS (L := L_X11_isSmall) (nL := 1) rfl rfl (Nat.le_of_ble_eq_true rfl) ?_
                         generalize hQ878 : (fun (o : ab_O) => Ev _ _ _ _) = Q878
                         refine (show Ev (ab_T L_X11_isSmall) 0 ([some (.int z32)], [], (0, 0), hp28) Q878 from ?_)
                         refine Ev.step (j := 1) (s' := ([some (.int z32)], [.int z32], (0, 0), hp28)) rfl rfl ?_
                         exact by
                          refine bs_lit (k := 97) rfl rfl fun z879 hz879 => ?_
                          refine bs_lt rfl (fun c880 => ?_) (fun c880 => ?_)
                          · skip
                            refine bs_lit (k := 0) rfl rfl fun z881 hz881 => ?_
                            refine bs_zret rfl rfl (by omega) (by omega) ?_
                            rw [← hQ878]
                            refine (show Ev _ 168 ([some (.ref 69), some (.int z32), none, none], [.int z881], (0, 0), hp28) _ from ?_)
                            refine Ev.step (j := 169) (s' := ([some (.ref 69), some (.int z32), some (.int z881), none], [], (0, 0), hp28)) rfl rfl ?_
                            refine bs_lit (k := 1) rfl rfl fun z882 hz882 => ?_
                            have INV : ∃ v : Int, sf_rd hp28 69 4 = some v ∧ sf_rd hp28 69 13 = some 0 ∧ P0 ≤ v ∧ v ≤ 940 ∧ ((48 ≤ z32.toInt ∧ z32.toInt ≤ 57) ∨ (97 ≤ z32.toInt ∧ z32.toInt ≤ 122)) ∧ pkR hp28 z32 := ⟨_, hy31, cy31, by omega, by omega, by omega, pz32⟩
                            refine Ev.step (j := 171) (s' := ([some (.ref 69), some (.int z32), some (.int z881), some (.int z882)], [], (0, 0), hp28)) rfl rfl ?_
                            exact cut34 z881 z882 hp28 t29 Hhp28 Fhp28 (by exact INV) (by first | omega | assumption)
                          · skip
                            refine Ev.step (j := 7) (s' := ([some (.int z32)], [.int z32], (0, 0), hp28)) rfl rfl ?_
                            exact by
                             refine bs_lit (k := 122) rfl rfl fun z883 hz883 => ?_
                             refine bs_gt rfl (fun c884 => ?_) (fun c884 => ?_)
                             · skip
                               refine bs_lit (k := 0) rfl rfl fun z885 hz885 => ?_
                               refine bs_zret rfl rfl (by omega) (by omega) ?_
                               rw [← hQ878]
                               refine (show Ev _ 168 ([some (.ref 69), some (.int z32), none, none], [.int z885], (0, 0), hp28) _ from ?_)
                               refine Ev.step (j := 169) (s' := ([some (.ref 69), some (.int z32), some (.int z885), none], [], (0, 0), hp28)) rfl rfl ?_
                               refine bs_lit (k := 1) rfl rfl fun z886 hz886 => ?_
                               have INV : ∃ v : Int, sf_rd hp28 69 4 = some v ∧ sf_rd hp28 69 13 = some 0 ∧ P0 ≤ v ∧ v ≤ 940 ∧ ((48 ≤ z32.toInt ∧ z32.toInt ≤ 57) ∨ (97 ≤ z32.toInt ∧ z32.toInt ≤ 122)) ∧ pkR hp28 z32 := ⟨_, hy31, cy31, by omega, by omega, by omega, pz32⟩
                               refine Ev.step (j := 171) (s' := ([some (.ref 69), some (.int z32), some (.int z885), some (.int z886)], [], (0, 0), hp28)) rfl rfl ?_
                               exact cut34 z885 z886 hp28 t29 Hhp28 Fhp28 (by exact INV) (by first | omega | assumption)
                             · skip
                               refine bs_lit (k := 1) rfl rfl fun z887 hz887 => ?_
                               exact by
                                refine Ev.step (j := 17) (s' := ([some (.int z32)], [.int z887], (0, 0), hp28)) rfl rfl ?_
                                refine bs_zret rfl rfl (by omega) (by omega) ?_
                                rw [← hQ878]
                                refine (show Ev _ 168 ([some (.ref 69), some (.int z32), none, none], [.int z887], (0, 0), hp28) _ from ?_)
                                refine Ev.step (j := 169) (s' := ([some (.ref 69), some (.int z32), some (.int z887), none], [], (0, 0), hp28)) rfl rfl ?_
                                refine bs_lit (k := 1) rfl rfl fun z888 hz888 => ?_
                                have INV : ∃ v : Int, sf_rd hp28 69 4 = some v ∧ sf_rd hp28 69 13 = some 0 ∧ P0 ≤ v ∧ v ≤ 940 ∧ ((48 ≤ z32.toInt ∧ z32.toInt ≤ 57) ∨ (97 ≤ z32.toInt ∧ z32.toInt ≤ 122)) ∧ pkR hp28 z32 := ⟨_, hy31, cy31, by omega, by omega, by omega, pz32⟩
                                refine Ev.step (j := 171) (s' := ([some (.ref 69), some (.int z32), some (.int z887), some (.int z888)], [], (0, 0), hp28)) rfl rfl ?_
                                exact cut34 z887 z888 hp28 t29 Hhp28 Fhp28 (by exact INV) (by first | omega | assumption)
                       · exfalso; omega
              · skip
                refine Ev.step (j := 90) (s' := ([some (.ref 69), some (.int z32), none, none], [.ref 69], (0, 0), hp28)) rfl rfl ?_
                exact by
                 refine bs_lit (k := 0) rfl rfl fun z889 hz889 => ?_
                 refine bs_putI (W := [(11, 11, 11), (999, 0, 0)]) (g := 11) rfl rfl Hhp28 (bs_R.uq Hhp28 (g := 11) rfl) (by decide) rfl rfl rfl rfl (Or.inl rfl) (by omega) (by omega) fun hp890 Hhp890 fhp890 rhp890 ehp890 qhp890 nhp890 => ?_
                 have Fhp890 := sf_fr_tr Fhp28 (sf_fr_wider (W := [(999, 0, 0), (11, 4, 4), (11, 11, 14), (11, 17, 17)]) rfl fhp890)
                 have h891 : sf_rd hp890 69 4 = some y31 := (ehp890 _ _ (Or.inr (by omega))).trans hy31
                 have h892 : sf_rd hp890 69 13 = some (0 : Int) := (ehp890 _ _ (Or.inr (by omega))).trans cy31
                 have A1 := psi_ge h891 rhp890
                 have A2 := psi_ge Q4 Q11
                 have PS : sf_psi hp890 ≤ sf_psi hp := by omega
                 exact Ev.ret rfl rfl (by rw [hQ]; exact ⟨t29, Hhp890, (fr_unmark H Fhp890 PS), bs_anU, sf_S_nil, (fun v hv => by have e : v = P0 := Option.some.inj (hv.symm.trans Q4); show sf_psi hp890 ≤ 2 * (940 - v); rw [e]; omega)⟩)
           refine Ev.step (j := 45) (s' := ([some (.ref 69), none, none, none], [.ref 69], (0, 0), hp24)) rfl rfl ?_
           exact by
            refine bs_getI 11 rfl rfl rfl Hhp24 (bs_R.uq Hhp24 (g := 11) rfl) (by decide) rfl fun z893 hz893 lz893 gz893 => ?_
            refine Ev.step (j := 49) (s' := ([some (.ref 69), none, none, none], [.ref 69, .int z893], (0, 0), hp24)) rfl rfl ?_
            refine bs_getI 11 rfl rfl rfl Hhp24 (bs_R.uq Hhp24 (g := 11) rfl) (by decide) rfl fun z894 hz894 lz894 gz894 => ?_
            have INV : ∃ v : Int, sf_rd hp24 69 4 = some v ∧ sf_rd hp24 69 13 = some 0 ∧ P0 ≤ v ∧ v ≤ 940 := ⟨_, h25, by rw [rhp24]; congr 1, by omega, by omega⟩
            refine bs_le rfl (fun c895 => ?_) (fun c895 => ?_)
            · skip
              exact cut27 hp24 t2 Hhp24 Fhp24 (by exact INV)
            · skip
              refine Ev.step (j := 56) (s' := ([some (.ref 69), none, none, none], [.ref 69], (0, 0), hp24)) rfl rfl ?_
              refine bs_getI 11 rfl rfl rfl Hhp24 (bs_R.uq Hhp24 (g := 11) rfl) (by decide) rfl fun z896 hz896 lz896 gz896 => ?_
              have e897 : z896.toInt = y5 := Option.some.inj (hz896.symm.trans h25)
              refine Ev.step (j := 60) (s' := ([some (.ref 69), none, none, none], [.ref 69, .int z896], (0, 0), hp24)) rfl rfl ?_
              exact by
               refine bs_getI 11 rfl rfl rfl Hhp24 (bs_R.uq Hhp24 (g := 11) rfl) (by decide) rfl fun z898 hz898 lz898 gz898 => ?_
               have e899 : z898.toInt = z894.toInt := Option.some.inj (hz898.symm.trans hz894)
               refine bs_lt rfl (fun c900 => ?_) (fun c900 => ?_)
               · skip
                 exact cut27 hp24 t2 Hhp24 Fhp24 (by exact INV)
               · skip
                 refine Ev.step (j := 67) (s' := ([some (.ref 69), none, none, none], [.ref 69], (0, 0), hp24)) rfl rfl ?_
                 refine Ev.step (j := 68) (s' := ([some (.ref 69), none, none, none], [.ref 69, .ref 69], (0, 0), hp24)) rfl rfl ?_
                 refine bs_getI 11 rfl rfl rfl Hhp24 (bs_R.uq Hhp24 (g := 11) rfl) (by decide) rfl fun z901 hz901 lz901 gz901 => ?_
                 have e902 : z901.toInt = z894.toInt := Option.some.inj (hz901.symm.trans hz894)
                 refine bs_putI (W := [(11, 12, 12)]) (g := 11) rfl rfl Hhp24 (bs_R.uq Hhp24 (g := 11) rfl) (by decide) rfl rfl rfl rfl (Or.inl rfl) (by omega) (by omega) fun hp903 Hhp903 fhp903 rhp903 ehp903 qhp903 nhp903 => ?_
                 have Fhp903 := sf_fr_tr Fhp24 (sf_fr_wider (W := [(999, 0, 0), (11, 4, 4), (11, 11, 14), (11, 17, 17)]) rfl fhp903)
                 have h904 : sf_rd hp903 69 4 = some y5 := (ehp903 _ _ (Or.inr (by omega))).trans h25
                 have h905 : sf_rd hp903 69 13 = some z23.toInt := (ehp903 _ _ (Or.inr (by omega))).trans rhp24
                 have h906 : sf_rd hp903 69 3 = some z893.toInt := (ehp903 _ _ (Or.inr (by omega))).trans hz893
                 have h907 : sf_rd hp903 69 5 = some z894.toInt := (ehp903 _ _ (Or.inr (by omega))).trans hz894
                 refine Ev.step (j := 75) (s' := ([some (.ref 69), none, none, none], [.ref 69], (0, 0), hp903)) rfl rfl ?_
                 exact by
                  refine bs_lit (k := 4) rfl rfl fun z908 hz908 => ?_
                  refine bs_putI (W := [(11, 11, 11), (999, 0, 0)]) (g := 11) rfl rfl Hhp903 (bs_R.uq Hhp903 (g := 11) rfl) (by decide) rfl rfl rfl rfl (Or.inl rfl) (by omega) (by omega) fun hp909 Hhp909 fhp909 rhp909 ehp909 qhp909 nhp909 => ?_
                  have Fhp909 := sf_fr_tr Fhp903 (sf_fr_wider (W := [(999, 0, 0), (11, 4, 4), (11, 11, 14), (11, 17, 17)]) rfl fhp909)
                  have h910 : sf_rd hp909 69 4 = some y5 := (ehp909 _ _ (Or.inr (by omega))).trans h904
                  have h911 : sf_rd hp909 69 13 = some z23.toInt := (ehp909 _ _ (Or.inr (by omega))).trans h905
                  have h912 : sf_rd hp909 69 3 = some z893.toInt := (ehp909 _ _ (Or.inr (by omega))).trans h906
                  have h913 : sf_rd hp909 69 5 = some z894.toInt := (ehp909 _ _ (Or.inr (by omega))).trans h907
                  have h914 : sf_rd hp909 69 12 = some z901.toInt := (ehp909 _ _ (Or.inr (by omega))).trans rhp903
                  have A1 := psi_ge h910 rhp909
                  have A2 := psi_ge Q4 Q11
                  have PS : sf_psi hp909 ≤ sf_psi hp := by omega
                  exact Ev.ret rfl rfl (by rw [hQ]; exact ⟨t2, Hhp909, (fr_unmark H Fhp909 PS), bs_anU, sf_S_nil, (fun v hv => by have e : v = P0 := Option.some.inj (hv.symm.trans Q4); show sf_psi hp909 ≤ 2 * (940 - v); rw [e]; omega)⟩)
        · skip
          have c915 : z15.toInt = 10 := by omega
          refine Ev.step (j := 19) (s' := ([some (.ref 69), none, none, none], [.ref 69], (0, 0), hp1)) rfl rfl ?_
          exact by
           refine Ev.step (j := 20) (s' := ([some (.ref 69), none, none, none], [.ref 69, .ref 69], (0, 0), hp1)) rfl rfl ?_
           refine bs_getI 11 rfl rfl rfl Hhp1 (bs_R.uq Hhp1 (g := 11) rfl) (by decide) rfl fun z916 hz916 lz916 gz916 => ?_
           have e917 : z916.toInt = y5 := Option.some.inj (hz916.symm.trans hy5)
           refine bs_lit (k := 1) rfl rfl fun z918 hz918 => ?_
           first | (refine bs_add rfl (by omega) (by omega) fun z919 hz919 => ?_) | (refine bs_any rfl fun z919 => ?_)
           have rz919 := n_range z919
           refine bs_putI (W := [(11, 4, 4), (999, 0, 0)]) (g := 11) rfl rfl Hhp1 (bs_R.uq Hhp1 (g := 11) rfl) (by decide) rfl rfl rfl rfl (Or.inl rfl) (by omega) (by omega) fun hp920 Hhp920 fhp920 rhp920 ehp920 qhp920 nhp920 => ?_
           have Fhp920 := sf_fr_tr Fhp1 (sf_fr_wider (W := [(999, 0, 0), (11, 4, 4), (11, 11, 14), (11, 17, 17)]) rfl fhp920)
           refine Ev.step (j := 0) (s' := ([some (.ref 69), none, none, none], [], (0, 0), hp920)) rfl rfl ?_
           have INV : ∃ v : Int, sf_rd hp920 69 4 = some v ∧ P0 ≤ v ∧ v ≤ 940 := ⟨_, rhp920, by omega, by omega⟩
           have MS : (940 - (sf_rd hp920 69 4).getD 0).toNat < (940 - (sf_rd hp1 69 4).getD 0).toNat := by
             rw [rhp920, hy5]
             show (940 - z919.toInt).toNat < (940 - y5).toNat
             omega
           refine ih3 (hp920, t2) ⟨Hhp920, Fhp920, (by exact INV)⟩ ?_
           show (940 - (sf_rd hp920 69 4).getD 0).toNat < (940 - (sf_rd hp1 69 4).getD 0).toNat
           exact MS
def kq_X11_taken_5ecb66 : sf_Q := ([(1, 11, 0), (0, 0, 0)], [(1, 3, 0, 400, 400, 0)], none, [(1, 36008, 0, 0, 0, 0), (1, 36014, 0, 0, 0, 0), (1, 36017, 0, 400, 400, 0)], [(11, 2, 5), (999, 0, 0)])
def kc_X11_taken_5ecb66 : List (Nat × sf_I) := [(0, 4, [1, 0]),
  (1, 4, [2, 0]),
  (2, 23, [5, 11, 2]),
  (5, 24, [8, 11, 3, 0]),
  (8, 4, [9, 0]),
  (9, 0, [10, 0]),
  (10, 24, [13, 11, 2, 0]),
  (13, 4, [14, 0]),
  (14, 0, [15, 0]),
  (15, 24, [18, 11, 4, 0]),
  (18, 4, [19, 0]),
  (19, 2, [20, 1]),
  (20, 24, [23, 11, 5, 0]),
  (23, 37, [0, 0])]
def kd_X11_taken_5ecb66_0 : List (Nat × sf_D × sf_M) := [(0, ([(1, 11, 0), (0, 0, 0)], [], [(1, 4, 0, 400, 400, 0)], 0, 0), (13, [])),
  (1, ([(1, 11, 0), (0, 0, 0)], [(1, 11, 0)], [(1, 4, 0, 400, 400, 0)], 0, 0), (12, [])),
  (2, ([(1, 11, 0), (0, 0, 0)], [(1, 11, 0), (1, 11, 0)], [(1, 4, 0, 400, 400, 0)], 0, 0), (11, [])),
  (5, ([(1, 11, 0), (0, 0, 0)], [(0, 0, 940), (1, 11, 0)], [(1, 4, 0, 400, 400, 0), (1, 3, 0, 0, 940, 0), (1, 36008, 0, -2147483648, 2147483647, 0), (2, 3, 36008, 1, 0, 0)], 0, 0), (10, [])),
  (8, ([(1, 11, 0), (0, 0, 0)], [], [(1, 4, 0, 400, 400, 0), (1, 36011, 0, 0, 940, 0), (1, 36008, 0, -2147483648, 2147483647, 0), (2, 36011, 36008, 1, 0, 0)], 0, 0), (9, [])),
  (9, ([(1, 11, 0), (0, 0, 0)], [(1, 11, 0)], [(1, 4, 0, 400, 400, 0), (1, 36011, 0, 0, 940, 0), (1, 36008, 0, -2147483648, 2147483647, 0), (2, 36011, 36008, 1, 0, 0)], 0, 0), (8, [])),
  (10, ([(1, 11, 0), (0, 0, 0)], [(0, 0, 0), (1, 11, 0)], [(1, 4, 0, 400, 400, 0), (1, 36011, 0, 0, 940, 0), (1, 36008, 0, -2147483648, 2147483647, 0), (1, 3, 0, 0, 0, 0), (2, 36011, 36008, 1, 0, 0)], 0, 0), (7, [])),
  (13, ([(1, 11, 0), (0, 0, 0)], [], [(1, 4, 0, 400, 400, 0), (1, 36011, 0, 0, 940, 0), (1, 36008, 0, 0, 0, 0)], 0, 0), (6, [])),
  (14, ([(1, 11, 0), (0, 0, 0)], [(1, 11, 0)], [(1, 4, 0, 400, 400, 0), (1, 36011, 0, 0, 940, 0), (1, 36008, 0, 0, 0, 0)], 0, 0), (5, [])),
  (15, ([(1, 11, 0), (0, 0, 0)], [(0, 0, 0), (1, 11, 0)], [(1, 4, 0, 400, 400, 0), (1, 36011, 0, 0, 940, 0), (1, 36008, 0, 0, 0, 0), (1, 3, 0, 0, 0, 0)], 0, 0), (4, []))]
def kd_X11_taken_5ecb66_1 : List (Nat × sf_D × sf_M) := [(18, ([(1, 11, 0), (0, 0, 0)], [], [(1, 4, 0, 400, 400, 0), (1, 36011, 0, 0, 940, 0), (1, 36008, 0, 0, 0, 0), (1, 36014, 0, 0, 0, 0)], 0, 0), (3, [])),
  (19, ([(1, 11, 0), (0, 0, 0)], [(1, 11, 0)], [(1, 4, 0, 400, 400, 0), (1, 36011, 0, 0, 940, 0), (1, 36008, 0, 0, 0, 0), (1, 36014, 0, 0, 0, 0)], 0, 0), (2, [])),
  (20, ([(1, 11, 0), (0, 0, 0)], [(0, 0, 0), (1, 11, 0)], [(1, 4, 0, 400, 400, 0), (1, 36011, 0, 0, 940, 0), (1, 36008, 0, 0, 0, 0), (1, 36014, 0, 0, 0, 0), (1, 3, 0, 400, 400, 0), (2, 3, 4, 1, 0, 0)], 0, 0), (1, [])),
  (23, ([(1, 11, 0), (0, 0, 0)], [], [(1, 4, 0, 400, 400, 0), (1, 36011, 0, 0, 940, 0), (1, 36008, 0, 0, 0, 0), (1, 36014, 0, 0, 0, 0), (1, 36017, 0, 400, 400, 0), (2, 36017, 4, 1, 0, 0)], 0, 0), (0, []))]
def kd_X11_taken_5ecb66 : List (Nat × sf_D × sf_M) := kd_X11_taken_5ecb66_0 ++ (kd_X11_taken_5ecb66_1)
set_option maxRecDepth 100000 in
theorem kt_X11_taken_5ecb66 : sf_chk [] kq_X11_taken_5ecb66 2 kc_X11_taken_5ecb66 kd_X11_taken_5ecb66 = true := by decide +kernel
set_option maxRecDepth 100000 in
theorem kl_X11_taken_5ecb66 : (kc_X11_taken_5ecb66).map (fun c => (c.1, sf_den ([] : List sf_X) c.2)) = L_X11_taken := rfl
theorem ct_X11_taken_5ecb66 : sf_ct kq_X11_taken_5ecb66 Z_X11_taken := by
  have h := sf_meth (K := []) (E := []) (k := kq_X11_taken_5ecb66) (nL := 2) (C := kc_X11_taken_5ecb66) (D := kd_X11_taken_5ecb66) (fun m k hk => match m, hk with
    | _ + 0, hk => (by cases hk)) kt_X11_taken_5ecb66
  rw [kl_X11_taken_5ecb66] at h
  exact h
def kq_X11_log_h : sf_Q := ([(1, 11, 0), (0, 0, 0)], [(1, 3, 0, 0, 1, 0)], some (0, 0, 0), [(1, 36008, 0, 0, 0, 0)], [(11, 0, 0), (11, 2, 5), (11, 11, 18), (11, 22, 22), (11, 25, 25), (11, 30, 30), (11, 32, 32), (132, 120, 252), (134, 0, 159), (138, 0, 1063), (139, 0, 132), (142, 0, 3), (999, 0, 0)])
set_option maxRecDepth 100000 in
set_option maxHeartbeats 4000000 in
theorem ct_X11_log_h : sf_ct kq_X11_log_h Z_X11_log := by
  intro t hp as H hl hj hpre
  match as, hl with
  | [v0, v1], _ =>
    obtain ⟨a0, rfl, ra0⟩ := bs_aR (hj 0 _ rfl)
    obtain rfl := ra0.eq H (p := 69) rfl
    obtain ⟨x1, rfl⟩ := bs_aI (hj 1 _ rfl)
    have rg1 := n_range x1
    obtain ⟨pl0, ph0⟩ := bs_s1 (x := x1.toInt) rfl (hpre _ (List.mem_of_getElem? (i := 0) rfl))
    clear hpre hj
    have F0 : sf_fr [(11, 0, 0), (11, 2, 5), (11, 11, 18), (11, 22, 22), (11, 25, 25), (11, 30, 30), (11, 32, 32), (132, 120, 252), (134, 0, 159), (138, 0, 1063), (139, 0, 132), (142, 0, 3), (999, 0, 0)] t hp t hp := sf_fr_rf
    refine bs_fin (K := kq_X11_log_h) (L := (L_X11_log Z_X11_isIn Z_X11_taken Z_X11_next Z_X11_logLine Z_X11_sign Z_X11_tries Z_X11_does Z_X11_keep Z_X11_back)) (nL := 5) (Nat.le_of_ble_eq_true rfl) ?_
    obtain ⟨Q, hQ⟩ : ∃ Q : ab_O → Prop, Q = (fun o => ∃ t', sf_h t' o.2 ∧ sf_fr (kq_X11_log_h).2.2.2.2 t hp t' o.2 ∧ sf_an t' o.2.1 (kq_X11_log_h).2.2.1 o.1 ∧ sf_S (sf_v1 o.1 [.ref 69, .int x1] o.2) (kq_X11_log_h).2.2.2.1) := ⟨_, rfl⟩
    rw [← hQ]
    refine (show Ev (ab_T (L_X11_log Z_X11_isIn Z_X11_taken Z_X11_next Z_X11_logLine Z_X11_sign Z_X11_tries Z_X11_does Z_X11_keep Z_X11_back)) 0 ([some (.ref 69), some (.int x1), none, none, none], [], (0, 0), hp) Q from ?_)
    exact by
     refine Ev.step (j := 1) (s' := ([some (.ref 69), some (.int x1), none, none, none], [.ref 69], (0, 0), hp)) rfl rfl ?_
     refine bs_lit (k := 0) rfl rfl fun z1 hz1 => ?_
     refine bs_putI (W := [(11, 0, 0)]) (g := 11) rfl rfl H (bs_R.uq H (g := 11) rfl) (by decide) rfl rfl rfl rfl (Or.inl rfl) (by omega) (by omega) fun hp2 Hhp2 fhp2 rhp2 ehp2 qhp2 nhp2 => ?_
     have Fhp2 := sf_fr_tr F0 (sf_fr_wider (W := [(11, 0, 0), (11, 2, 5), (11, 11, 18), (11, 22, 22), (11, 25, 25), (11, 30, 30), (11, 32, 32), (132, 120, 252), (134, 0, 159), (138, 0, 1063), (139, 0, 132), (142, 0, 3), (999, 0, 0)]) rfl fhp2)
     refine Ev.step (j := 6) (s' := ([some (.ref 69), some (.int x1), none, none, none], [.int x1], (0, 0), hp2)) rfl rfl ?_
     refine bs_lit (k := 0) rfl rfl fun z3 hz3 => ?_
     refine bs_lit (k := 1) rfl rfl fun z4 hz4 => ?_
     refine Ev.inlS (L := L_X11_isIn) (nL := 3) rfl rfl (Nat.le_of_ble_eq_true rfl) ?_
     generalize hQ5 : (fun (o : ab_O) => Ev _ _ _ _) = Q5
     refine (show Ev (ab_T L_X11_isIn) 0 ([some (.int x1), some (.int z3), some (.int z4)], [], (0, 0), hp2) Q5 from ?_)
     exact by
      refine Ev.step (j := 1) (s' := ([some (.int x1), some (.int z3), some (.int z4)], [.int x1], (0, 0), hp2)) rfl rfl ?_
      refine Ev.step (j := 2) (s' := ([some (.int x1), some (.int z3), some (.int z4)], [.int z3, .int x1], (0, 0), hp2)) rfl rfl ?_
      refine bs_lt rfl (fun c6 => ?_) (fun c6 => ?_)
      · exfalso; omega
      · skip
        refine Ev.step (j := 6) (s' := ([some (.int x1), some (.int z3), some (.int z4)], [.int x1], (0, 0), hp2)) rfl rfl ?_
        refine Ev.step (j := 7) (s' := ([some (.int x1), some (.int z3), some (.int z4)], [.int z4, .int x1], (0, 0), hp2)) rfl rfl ?_
        refine bs_gt rfl (fun c7 => ?_) (fun c7 => ?_)
        · exfalso; omega
        · skip
          refine bs_lit (k := 1) rfl rfl fun z8 hz8 => ?_
          refine Ev.step (j := 15) (s' := ([some (.int x1), some (.int z3), some (.int z4)], [.int z8], (0, 0), hp2)) rfl rfl ?_
          exact by
           refine bs_zret rfl rfl (by omega) (by omega) ?_
           rw [← hQ5]
           refine (show Ev _ 11 ([some (.ref 69), some (.int x1), none, none, none], [.int z8], (0, 0), hp2) _ from ?_)
           refine bs_ifne rfl (fun c9 => ?_) (fun c9 => ?_)
           · skip
             refine Ev.step (j := 19) (s' := ([some (.ref 69), some (.int x1), none, none, none], [.ref 69], (0, 0), hp2)) rfl rfl ?_
             refine bs_lit (k := 400) rfl rfl fun z10 hz10 => ?_
             refine bs_call (K := kq_X11_taken_5ecb66) [.ref 69, .int z10] [] rfl ct_X11_taken_5ecb66 Hhp2 rfl rfl rfl (bs_rcv (g := 11) Hhp2 (bs_R.uq Hhp2 (g := 11) rfl) (by decide) rfl) rfl ?_ (sf_S_cons (sf_s1 (x := z10.toInt) rfl (by omega) (by omega)) (sf_S_nil)) fun r11 hp12 thp12 Hhp12 fhp12 ahp12 php12 => ?_
             · intro q k h
               match q, h with
               | 0, h => cases h; exact bs_jR (bs_R.uq Hhp2 (g := 11) rfl)
               | 1, h => cases h; exact sf_j0
               | q + 2, h => cases h
             obtain rfl := ahp12.1 rfl
             have Fhp12 := sf_fr_tr Fhp2 (sf_fr_wider (W := [(11, 0, 0), (11, 2, 5), (11, 11, 18), (11, 22, 22), (11, 25, 25), (11, 30, 30), (11, 32, 32), (132, 120, 252), (134, 0, 159), (138, 0, 1063), (139, 0, 132), (142, 0, 3), (999, 0, 0)]) rfl fhp12)
             have h13 : sf_rd hp12 69 0 = some z1.toInt := (fhp12.2.2.1 _ (bs_R.uq Hhp2 (g := 11) (p := 69) rfl).1 _ (by rw [(bs_R.uq Hhp2 (g := 11) (p := 69) rfl).2]; rfl)).trans rhp2
             obtain ⟨y14, ey14, uy14, vy14⟩ := (php12 _ (List.mem_of_getElem? (i := 0) rfl)).1 rfl
             replace ey14 : sf_rd hp12 69 2 = some y14 := ey14
             replace uy14 : (0 : Int) ≤ y14 := uy14
             replace vy14 : y14 ≤ (0 : Int) := vy14
             obtain ⟨y15, ey15, uy15, vy15⟩ := (php12 _ (List.mem_of_getElem? (i := 1) rfl)).1 rfl
             replace ey15 : sf_rd hp12 69 4 = some y15 := ey15
             replace uy15 : (0 : Int) ≤ y15 := uy15
             replace vy15 : y15 ≤ (0 : Int) := vy15
             obtain ⟨y16, ey16, uy16, vy16⟩ := (php12 _ (List.mem_of_getElem? (i := 2) rfl)).1 rfl
             replace ey16 : sf_rd hp12 69 5 = some y16 := ey16
             replace uy16 : (400 : Int) ≤ y16 := uy16
             replace vy16 : y16 ≤ (400 : Int) := vy16
             refine (show Ev _ 25 ([some (.ref 69), some (.int x1), none, none, none], [], (0, 0), hp12) _ from ?_)
             exact by
              refine Ev.step (j := 26) (s' := ([some (.ref 69), some (.int x1), none, none, none], [.ref 69], (0, 0), hp12)) rfl rfl ?_
              refine bs_lit (k := 0) rfl rfl fun z17 hz17 => ?_
              refine bs_putI (W := [(11, 15, 15)]) (g := 11) rfl rfl Hhp12 (bs_R.uq Hhp12 (g := 11) rfl) (by decide) rfl rfl rfl rfl (Or.inl rfl) (by omega) (by omega) fun hp18 Hhp18 fhp18 rhp18 ehp18 qhp18 nhp18 => ?_
              have Fhp18 := sf_fr_tr Fhp12 (sf_fr_wider (W := [(11, 0, 0), (11, 2, 5), (11, 11, 18), (11, 22, 22), (11, 25, 25), (11, 30, 30), (11, 32, 32), (132, 120, 252), (134, 0, 159), (138, 0, 1063), (139, 0, 132), (142, 0, 3), (999, 0, 0)]) rfl fhp18)
              have h19 : sf_rd hp18 69 0 = some z1.toInt := (ehp18 _ _ (Or.inr (by omega))).trans h13
              have h20 : sf_rd hp18 69 2 = some y14 := (ehp18 _ _ (Or.inr (by omega))).trans ey14
              have h21 : sf_rd hp18 69 4 = some y15 := (ehp18 _ _ (Or.inr (by omega))).trans ey15
              have h22 : sf_rd hp18 69 5 = some y16 := (ehp18 _ _ (Or.inr (by omega))).trans ey16
              refine Ev.step (j := 31) (s' := ([some (.ref 69), some (.int x1), none, none, none], [.ref 69], (0, 0), hp18)) rfl rfl ?_
              exact by
               refine bs_lit (k := 0) rfl rfl fun z23 hz23 => ?_
               refine bs_putI (W := [(11, 30, 30)]) (g := 11) rfl rfl Hhp18 (bs_R.uq Hhp18 (g := 11) rfl) (by decide) rfl rfl rfl rfl (Or.inl rfl) (by omega) (by omega) fun hp24 Hhp24 fhp24 rhp24 ehp24 qhp24 nhp24 => ?_
               have Fhp24 := sf_fr_tr Fhp18 (sf_fr_wider (W := [(11, 0, 0), (11, 2, 5), (11, 11, 18), (11, 22, 22), (11, 25, 25), (11, 30, 30), (11, 32, 32), (132, 120, 252), (134, 0, 159), (138, 0, 1063), (139, 0, 132), (142, 0, 3), (999, 0, 0)]) rfl fhp24)
               have h25 : sf_rd hp24 69 0 = some z1.toInt := (ehp24 _ _ (Or.inr (by omega))).trans h19
               have h26 : sf_rd hp24 69 2 = some y14 := (ehp24 _ _ (Or.inr (by omega))).trans h20
               have h27 : sf_rd hp24 69 4 = some y15 := (ehp24 _ _ (Or.inr (by omega))).trans h21
               have h28 : sf_rd hp24 69 5 = some y16 := (ehp24 _ _ (Or.inr (by omega))).trans h22
               have h29 : sf_rd hp24 69 15 = some z17.toInt := (ehp24 _ _ (Or.inr (by omega))).trans rhp18
               refine Ev.step (j := 36) (s' := ([some (.ref 69), some (.int x1), none, none, none], [.ref 69], (0, 0), hp24)) rfl rfl ?_
               exact by
                refine bs_call (K := kq_X11_next_h) [.ref 69] [] rfl ct_X11_next_h Hhp24 rfl rfl rfl (bs_rcv (g := 11) Hhp24 (bs_R.uq Hhp24 (g := 11) rfl) (by decide) rfl) rfl ?_ (sf_S_nil) fun r30 hp31 thp31 Hhp31 fhp31 ahp31 php31 => ?_
                · intro q k h
                  match q, h with
                  | 0, h => cases h; exact bs_jR (bs_R.uq Hhp24 (g := 11) rfl)
                  | q + 1, h => cases h
                obtain rfl := ahp31.1 rfl
                have Fhp31 := sf_fr_tr Fhp24 (sf_fr_wider (W := [(11, 0, 0), (11, 2, 5), (11, 11, 18), (11, 22, 22), (11, 25, 25), (11, 30, 30), (11, 32, 32), (132, 120, 252), (134, 0, 159), (138, 0, 1063), (139, 0, 132), (142, 0, 3), (999, 0, 0)]) rfl fhp31)
                have h32 : sf_rd hp31 69 0 = some z1.toInt := (fhp31.2.2.1 _ (bs_R.uq Hhp24 (g := 11) (p := 69) rfl).1 _ (by rw [(bs_R.uq Hhp24 (g := 11) (p := 69) rfl).2]; rfl)).trans h25
                have h33 : sf_rd hp31 69 2 = some y14 := (fhp31.2.2.1 _ (bs_R.uq Hhp24 (g := 11) (p := 69) rfl).1 _ (by rw [(bs_R.uq Hhp24 (g := 11) (p := 69) rfl).2]; rfl)).trans h26
                have h34 : sf_rd hp31 69 5 = some y16 := (fhp31.2.2.1 _ (bs_R.uq Hhp24 (g := 11) (p := 69) rfl).1 _ (by rw [(bs_R.uq Hhp24 (g := 11) (p := 69) rfl).2]; rfl)).trans h28
                have h35 : sf_rd hp31 69 15 = some z17.toInt := (fhp31.2.2.1 _ (bs_R.uq Hhp24 (g := 11) (p := 69) rfl).1 _ (by rw [(bs_R.uq Hhp24 (g := 11) (p := 69) rfl).2]; rfl)).trans h29
                have h36 : sf_rd hp31 69 30 = some z23.toInt := (fhp31.2.2.1 _ (bs_R.uq Hhp24 (g := 11) (p := 69) rfl).1 _ (by rw [(bs_R.uq Hhp24 (g := 11) (p := 69) rfl).2]; rfl)).trans rhp24
                refine (show Ev _ 39 ([some (.ref 69), some (.int x1), none, none, none], [], (0, 0), hp31) _ from ?_)
                have INV : ∃ d : Int, sf_rd hp31 69 30 = some d ∧ 0 ≤ d ∧ d ≤ 40 ∧ ∀ j : Nat, (j : Int) < d → lg_ok hp31 j := ⟨_, h36, by omega, by omega, fun j hj => absurd hj (by omega)⟩
                refine bs_loop (ι := ab_H × (Nat → Nat)) (fun ⟨hp37, t38⟩ => ([some (.ref 69), some (.int x1), none, none, none], [], (0, 0), hp37)) (fun ⟨hp37, t38⟩ => (sf_h t38 hp37) ∧ (sf_fr [(11, 0, 0), (11, 2, 5), (11, 11, 18), (11, 22, 22), (11, 25, 25), (11, 30, 30), (11, 32, 32), (132, 120, 252), (134, 0, 159), (138, 0, 1063), (139, 0, 132), (142, 0, 3), (999, 0, 0)] t hp t38 hp37) ∧ (sf_rd hp37 69 2 = some y14) ∧ (∃ d : Int, sf_rd hp37 69 30 = some d ∧ 0 ≤ d ∧ d ≤ 40 ∧ ∀ j : Nat, (j : Int) < d → lg_ok hp37 j)) (fun ⟨hp37, t38⟩ => (sf_psi hp37).toNat) ?_ (hp31, thp31) ⟨Hhp31, Fhp31, h33, (by exact INV)⟩
                rintro ⟨hp37, t38⟩ ⟨Hhp37, Fhp37, i40, i41⟩ ih39
                refine (show Ev _ 39 ([some (.ref 69), some (.int x1), none, none, none], [], (0, 0), hp37) _ from ?_)
                obtain ⟨d0, hd0, ld0, gd0, LG0⟩ := i41
                refine Ev.step (j := 40) (s' := ([some (.ref 69), some (.int x1), none, none, none], [.ref 69], (0, 0), hp37)) rfl rfl ?_
                exact by
                 refine bs_getI 11 rfl rfl rfl Hhp37 (bs_R.uq Hhp37 (g := 11) rfl) (by decide) rfl fun z42 hz42 lz42 gz42 => ?_
                 refine bs_ifeq rfl (fun c43 => ?_) (fun c43 => ?_)
                 · skip
                   have c44 : z42.toInt = 0 := by omega
                   refine Ev.step (j := 84) (s' := ([some (.ref 69), some (.int x1), none, none, none], [.ref 69], (0, 0), hp37)) rfl rfl ?_
                   refine bs_call (K := kq_X11_tries_h) [.ref 69] [] rfl ct_X11_tries_h Hhp37 rfl rfl rfl (bs_rcv (g := 11) Hhp37 (bs_R.uq Hhp37 (g := 11) rfl) (by decide) rfl) rfl ?_ (sf_S_nil) fun r45 hp46 thp46 Hhp46 fhp46 ahp46 php46 => ?_
                   · intro q k h
                     match q, h with
                     | 0, h => cases h; exact bs_jR (bs_R.uq Hhp37 (g := 11) rfl)
                     | q + 1, h => cases h
                   obtain rfl := ahp46.1 rfl
                   have Fhp46 := sf_fr_tr Fhp37 (sf_fr_wider (W := [(11, 0, 0), (11, 2, 5), (11, 11, 18), (11, 22, 22), (11, 25, 25), (11, 30, 30), (11, 32, 32), (132, 120, 252), (134, 0, 159), (138, 0, 1063), (139, 0, 132), (142, 0, 3), (999, 0, 0)]) rfl fhp46)
                   have h47 : sf_rd hp46 69 2 = some y14 := (fhp46.2.2.1 _ (bs_R.uq Hhp37 (g := 11) (p := 69) rfl).1 _ (by rw [(bs_R.uq Hhp37 (g := 11) (p := 69) rfl).2]; rfl)).trans i40
                   have h48 : sf_rd hp46 69 30 = some d0 := (fhp46.2.2.1 _ (bs_R.uq Hhp37 (g := 11) (p := 69) rfl).1 _ (by rw [(bs_R.uq Hhp37 (g := 11) (p := 69) rfl).2]; rfl)).trans hd0
                   have h49 : sf_rd hp46 69 11 = some z42.toInt := (fhp46.2.2.1 _ (bs_R.uq Hhp37 (g := 11) (p := 69) rfl).1 _ (by rw [(bs_R.uq Hhp37 (g := 11) (p := 69) rfl).2]; rfl)).trans hz42
                   refine (show Ev _ 87 ([some (.ref 69), some (.int x1), none, none, none], [], (0, 0), hp46) _ from ?_)
                   exact by
                    refine bs_lit (k := 0) rfl rfl fun z50 hz50 => ?_
                    refine Ev.step (j := 89) (s' := ([some (.ref 69), some (.int x1), some (.int z50), none, none], [], (0, 0), hp46)) rfl rfl ?_
                    have LGA : ∀ j : Nat, (j : Int) < d0 → lg_ok hp46 j := fun j hj => lg_same (LG0 j hj) (fun q _ _ => (fhp46.2.2.1 _ (bs_R.uq Hhp37 (g := 134) (p := 73) rfl).1 _ (by rw [(bs_R.uq Hhp37 (g := 134) (p := 73) rfl).2]; rfl)))
                    refine bs_loop (ι := Int32 × ab_H × (Nat → Nat)) (fun ⟨k51, hp52, t53⟩ => ([some (.ref 69), some (.int x1), some (.int k51), none, none], [], (0, 0), hp52)) (fun ⟨k51, hp52, t53⟩ => (sf_h t53 hp52) ∧ (sf_fr [(11, 0, 0), (11, 2, 5), (11, 11, 18), (11, 22, 22), (11, 25, 25), (11, 30, 30), (11, 32, 32), (132, 120, 252), (134, 0, 159), (138, 0, 1063), (139, 0, 132), (142, 0, 3), (999, 0, 0)] t hp t53 hp52) ∧ (sf_rd hp52 69 2 = some y14) ∧ (sf_rd hp52 69 30 = some d0) ∧ (0 ≤ k51.toInt ∧ k51.toInt ≤ 4) ∧ (∀ j : Nat, (j : Int) < d0 → lg_ok hp52 j)) (fun ⟨k51, hp52, t53⟩ => (4 - k51.toInt).toNat) ?_ (z50, hp46, thp46) ⟨Hhp46, Fhp46, h47, h48, (by first | omega | assumption), (by exact LGA)⟩
                    rintro ⟨k51, hp52, t53⟩ ⟨Hhp52, Fhp52, i55, i56, i57, i58⟩ ih54
                    refine (show Ev _ 89 ([some (.ref 69), some (.int x1), some (.int k51), none, none], [], (0, 0), hp52) _ from ?_)
                    refine Ev.step (j := 90) (s' := ([some (.ref 69), some (.int x1), some (.int k51), none, none], [.int k51], (0, 0), hp52)) rfl rfl ?_
                    refine bs_lit (k := 4) rfl rfl fun z59 hz59 => ?_
                    exact by
                     refine bs_ge rfl (fun c60 => ?_) (fun c60 => ?_)
                     · skip
                       refine Ev.step (j := 108) (s' := ([some (.ref 69), some (.int x1), some (.int k51), none, none], [.ref 69], (0, 0), hp52)) rfl rfl ?_
                       refine bs_getU (g := 11) (g1 := 132) rfl rfl Hhp52 (bs_R.uq Hhp52 (g := 11) rfl) (by decide) rfl rfl ?_
                       refine bs_lit (k := 123) rfl rfl fun z61 hz61 => ?_
                       refine bs_ld (g := 132) 123 123 (-2147483648, 2147483647) rfl Hhp52 (bs_R.uq Hhp52 (g := 132) rfl) (by decide) rfl (by decide) (by decide) rfl (by decide) (by omega) (by omega) fun z62 hz62 lz62 gz62 => ?_
                       dsimp only at lz62 gz62
                       replace hz62 := bs_at hz62 (show z61.toInt.toNat = 123 by omega)
                       refine Ev.step (j := 115) (s' := ([some (.ref 69), some (.int x1), some (.int z62), none, none], [], (0, 0), hp52)) rfl rfl ?_
                       refine bs_lit (k := -1) rfl rfl fun z63 hz63 => ?_
                       exact by
                        refine Ev.step (j := 117) (s' := ([some (.ref 69), some (.int x1), some (.int z62), some (.int z63), none], [], (0, 0), hp52)) rfl rfl ?_
                        refine bs_lit (k := 0) rfl rfl fun z64 hz64 => ?_
                        refine Ev.step (j := 120) (s' := ([some (.ref 69), some (.int x1), some (.int z62), some (.int z63), some (.int z64)], [], (0, 0), hp52)) rfl rfl ?_
                        have LGA : ∀ j : Nat, (j : Int) < d0 → lg_ok hp52 j := fun j hj => lg_same (i58 j hj) (fun q _ _ => rfl)
                        refine bs_loop (ι := Int32 × Int32 × ab_H × (Nat → Nat)) (fun ⟨k65, k66, hp67, t68⟩ => ([some (.ref 69), some (.int x1), some (.int z62), some (.int k65), some (.int k66)], [], (0, 0), hp67)) (fun ⟨k65, k66, hp67, t68⟩ => (sf_h t68 hp67) ∧ (sf_fr [(11, 0, 0), (11, 2, 5), (11, 11, 18), (11, 22, 22), (11, 25, 25), (11, 30, 30), (11, 32, 32), (132, 120, 252), (134, 0, 159), (138, 0, 1063), (139, 0, 132), (142, 0, 3), (999, 0, 0)] t hp t68 hp67) ∧ (sf_rd hp67 69 2 = some y14) ∧ (sf_rd hp67 69 30 = some d0) ∧ (0 ≤ k66.toInt ∧ k66.toInt ≤ 40) ∧ (∀ j : Nat, (j : Int) < d0 → lg_ok hp67 j)) (fun ⟨k65, k66, hp67, t68⟩ => (40 - k66.toInt).toNat) ?_ (z63, z64, hp52, t53) ⟨Hhp52, Fhp52, i55, i56, (by first | omega | assumption), (by exact LGA)⟩
                        rintro ⟨k65, k66, hp67, t68⟩ ⟨Hhp67, Fhp67, i70, i71, i72, i73⟩ ih69
                        refine (show Ev _ 120 ([some (.ref 69), some (.int x1), some (.int z62), some (.int k65), some (.int k66)], [], (0, 0), hp67) _ from ?_)
                        refine Ev.step (j := 122) (s' := ([some (.ref 69), some (.int x1), some (.int z62), some (.int k65), some (.int k66)], [.int k66], (0, 0), hp67)) rfl rfl ?_
                        exact by
                         refine Ev.step (j := 123) (s' := ([some (.ref 69), some (.int x1), some (.int z62), some (.int k65), some (.int k66)], [.ref 69, .int k66], (0, 0), hp67)) rfl rfl ?_
                         refine bs_getI 11 rfl rfl rfl Hhp67 (bs_R.uq Hhp67 (g := 11) rfl) (by decide) rfl fun z74 hz74 lz74 gz74 => ?_
                         have e75 : z74.toInt = d0 := Option.some.inj (hz74.symm.trans i71)
                         refine bs_ge rfl (fun c76 => ?_) (fun c76 => ?_)
                         · skip
                           refine Ev.step (j := 217) (s' := ([some (.ref 69), some (.int x1), some (.int z62), some (.int k65), some (.int k66)], [.ref 69], (0, 0), hp67)) rfl rfl ?_
                           refine bs_getU (g := 11) (g1 := 142) rfl rfl Hhp67 (bs_R.uq Hhp67 (g := 11) rfl) (by decide) rfl rfl ?_
                           refine bs_lit (k := 2) rfl rfl fun z77 hz77 => ?_
                           refine Ev.step (j := 222) (s' := ([some (.ref 69), some (.int x1), some (.int z62), some (.int k65), some (.int k66)], [.ref 69, .int z77, .ref 81], (0, 0), hp67)) rfl rfl ?_
                           exact by
                            refine bs_getU (g := 11) (g1 := 132) rfl rfl Hhp67 (bs_R.uq Hhp67 (g := 11) rfl) (by decide) rfl rfl ?_
                            refine bs_lit (k := 120) rfl rfl fun z78 hz78 => ?_
                            refine bs_ld (g := 132) 120 120 (0, 400) rfl Hhp67 (bs_R.uq Hhp67 (g := 132) rfl) (by decide) rfl (by decide) (by decide) rfl (by decide) (by omega) (by omega) fun z79 hz79 lz79 gz79 => ?_
                            dsimp only at lz79 gz79
                            replace hz79 := bs_at hz79 (show z78.toInt.toNat = 120 by omega)
                            refine bs_st (W := [(142, 0, 3)]) (g := 142) 0 3 (-2147483648, 2147483647) rfl Hhp67 (bs_R.uq Hhp67 (g := 142) rfl) (by decide) rfl rfl (by decide) rfl rfl (by omega) (by omega) (by dsimp only; omega) (by dsimp only; omega) fun hp80 Hhp80 fhp80 rhp80 ehp80 qhp80 nhp80 => ?_
                            replace rhp80 := bs_at rhp80 (show z77.toInt.toNat = 2 by omega)
                            have Fhp80 := sf_fr_tr Fhp67 (sf_fr_wider (W := [(11, 0, 0), (11, 2, 5), (11, 11, 18), (11, 22, 22), (11, 25, 25), (11, 30, 30), (11, 32, 32), (132, 120, 252), (134, 0, 159), (138, 0, 1063), (139, 0, 132), (142, 0, 3), (999, 0, 0)]) rfl fhp80)
                            have h81 : sf_rd hp80 69 2 = some y14 := (ehp80 _ _ (Or.inl (by decide))).trans i70
                            have h82 : sf_rd hp80 69 30 = some d0 := (ehp80 _ _ (Or.inl (by decide))).trans i71
                            have h83 : sf_rd hp80 71 120 = some z79.toInt := (ehp80 _ _ (Or.inl (by decide))).trans hz79
                            refine Ev.step (j := 230) (s' := ([some (.ref 69), some (.int x1), some (.int z62), some (.int k65), some (.int k66)], [.ref 69], (0, 0), hp80)) rfl rfl ?_
                            exact by
                             refine bs_getU (g := 11) (g1 := 142) rfl rfl Hhp80 (bs_R.uq Hhp80 (g := 11) rfl) (by decide) rfl rfl ?_
                             refine bs_lit (k := 3) rfl rfl fun z84 hz84 => ?_
                             refine Ev.step (j := 235) (s' := ([some (.ref 69), some (.int x1), some (.int z62), some (.int k65), some (.int k66)], [.ref 69, .int z84, .ref 81], (0, 0), hp80)) rfl rfl ?_
                             refine bs_getU (g := 11) (g1 := 132) rfl rfl Hhp80 (bs_R.uq Hhp80 (g := 11) rfl) (by decide) rfl rfl ?_
                             refine bs_lit (k := 123) rfl rfl fun z85 hz85 => ?_
                             refine bs_ld (g := 132) 123 123 (-2147483648, 2147483647) rfl Hhp80 (bs_R.uq Hhp80 (g := 132) rfl) (by decide) rfl (by decide) (by decide) rfl (by decide) (by omega) (by omega) fun z86 hz86 lz86 gz86 => ?_
                             dsimp only at lz86 gz86
                             replace hz86 := bs_at hz86 (show z85.toInt.toNat = 123 by omega)
                             refine Ev.step (j := 242) (s' := ([some (.ref 69), some (.int x1), some (.int z62), some (.int k65), some (.int k66)], [.int z62, .int z86, .int z84, .ref 81], (0, 0), hp80)) rfl rfl ?_
                             first | (refine bs_sub rfl (by omega) (by omega) fun z87 hz87 => ?_) | (refine bs_any rfl fun z87 => ?_)
                             have rz87 := n_range z87
                             refine bs_st (W := [(142, 0, 3)]) (g := 142) 0 3 (-2147483648, 2147483647) rfl Hhp80 (bs_R.uq Hhp80 (g := 142) rfl) (by decide) rfl rfl (by decide) rfl rfl (by omega) (by omega) (by dsimp only; omega) (by dsimp only; omega) fun hp88 Hhp88 fhp88 rhp88 ehp88 qhp88 nhp88 => ?_
                             replace rhp88 := bs_at rhp88 (show z84.toInt.toNat = 3 by omega)
                             have Fhp88 := sf_fr_tr Fhp80 (sf_fr_wider (W := [(11, 0, 0), (11, 2, 5), (11, 11, 18), (11, 22, 22), (11, 25, 25), (11, 30, 30), (11, 32, 32), (132, 120, 252), (134, 0, 159), (138, 0, 1063), (139, 0, 132), (142, 0, 3), (999, 0, 0)]) rfl fhp88)
                             have h89 : sf_rd hp88 69 2 = some y14 := (ehp88 _ _ (Or.inl (by decide))).trans h81
                             have h90 : sf_rd hp88 69 30 = some d0 := (ehp88 _ _ (Or.inl (by decide))).trans h82
                             have h91 : sf_rd hp88 71 120 = some z79.toInt := (ehp88 _ _ (Or.inl (by decide))).trans h83
                             have h92 : sf_rd hp88 81 2 = some z79.toInt := (ehp88 _ _ (Or.inr (by omega))).trans rhp80
                             have h93 : sf_rd hp88 71 123 = some z86.toInt := (ehp88 _ _ (Or.inl (by decide))).trans hz86
                             refine Ev.step (j := 245) (s' := ([some (.ref 69), some (.int x1), some (.int z62), some (.int k65), some (.int k66)], [.ref 69], (0, 0), hp88)) rfl rfl ?_
                             exact by
                              refine bs_lit (k := 1) rfl rfl fun z94 hz94 => ?_
                              refine bs_putI (W := [(11, 32, 32)]) (g := 11) rfl rfl Hhp88 (bs_R.uq Hhp88 (g := 11) rfl) (by decide) rfl rfl rfl rfl (Or.inr ⟨rfl, by omega, by omega⟩) (by omega) (by omega) fun hp95 Hhp95 fhp95 rhp95 ehp95 qhp95 nhp95 => ?_
                              have Fhp95 := sf_fr_tr Fhp88 (sf_fr_wider (W := [(11, 0, 0), (11, 2, 5), (11, 11, 18), (11, 22, 22), (11, 25, 25), (11, 30, 30), (11, 32, 32), (132, 120, 252), (134, 0, 159), (138, 0, 1063), (139, 0, 132), (142, 0, 3), (999, 0, 0)]) rfl fhp95)
                              have h96 : sf_rd hp95 69 2 = some y14 := (ehp95 _ _ (Or.inr (by omega))).trans h89
                              have h97 : sf_rd hp95 69 30 = some d0 := (ehp95 _ _ (Or.inr (by omega))).trans h90
                              have h98 : sf_rd hp95 71 120 = some z79.toInt := (ehp95 _ _ (Or.inl (by decide))).trans h91
                              have h99 : sf_rd hp95 81 2 = some z79.toInt := (ehp95 _ _ (Or.inl (by decide))).trans h92
                              have h100 : sf_rd hp95 71 123 = some z86.toInt := (ehp95 _ _ (Or.inl (by decide))).trans h93
                              have h101 : sf_rd hp95 81 3 = some z87.toInt := (ehp95 _ _ (Or.inl (by decide))).trans rhp88
                              refine Ev.step (j := 250) (s' := ([some (.ref 69), some (.int x1), some (.int z62), some (.int k65), some (.int k66)], [.int x1], (0, 0), hp95)) rfl rfl ?_
                              exact by
                               refine bs_lit (k := 1) rfl rfl fun z102 hz102 => ?_
                               refine bs_ne rfl (fun c103 => ?_) (fun c103 => ?_)
                               · skip
                                 refine Ev.step (j := 310) (s' := ([some (.ref 69), some (.int x1), some (.int z62), some (.int k65), some (.int k66)], [.int x1], (0, 0), hp95)) rfl rfl ?_
                                 refine bs_ifne rfl (fun c104 => ?_) (fun c104 => ?_)
                                 · skip
                                   refine Ev.step (j := 318) (s' := ([some (.ref 69), some (.int x1), some (.int z62), some (.int k65), some (.int k66)], [.int k65], (0, 0), hp95)) rfl rfl ?_
                                   exact Ev.ret rfl rfl (by rw [hQ]; exact ⟨t68, Hhp95, Fhp95, bs_an0, sf_S_cons (sf_s1 (x := y14) (show sf_v1 _ _ _ 36008 = _ from h96) (by omega) (by omega)) (sf_S_nil)⟩)
                                 · skip
                                   have c105 : x1.toInt = 0 := by omega
                                   refine Ev.step (j := 314) (s' := ([some (.ref 69), some (.int x1), some (.int z62), some (.int k65), some (.int k66)], [.ref 69], (0, 0), hp95)) rfl rfl ?_
                                   refine bs_call (K := kq_X11_back_h) [.ref 69] [] rfl ct_X11_back_h Hhp95 rfl rfl rfl (bs_rcv (g := 11) Hhp95 (bs_R.uq Hhp95 (g := 11) rfl) (by decide) rfl) rfl ?_ (sf_S_nil) fun r106 hp107 thp107 Hhp107 fhp107 ahp107 php107 => ?_
                                   · intro q k h
                                     match q, h with
                                     | 0, h => cases h; exact bs_jR (bs_R.uq Hhp95 (g := 11) rfl)
                                     | q + 1, h => cases h
                                   obtain rfl := ahp107.1 rfl
                                   have Fhp107 := sf_fr_tr Fhp95 (sf_fr_wider (W := [(11, 0, 0), (11, 2, 5), (11, 11, 18), (11, 22, 22), (11, 25, 25), (11, 30, 30), (11, 32, 32), (132, 120, 252), (134, 0, 159), (138, 0, 1063), (139, 0, 132), (142, 0, 3), (999, 0, 0)]) rfl fhp107)
                                   have h108 : sf_rd hp107 69 2 = some y14 := (fhp107.2.2.1 _ (bs_R.uq Hhp95 (g := 11) (p := 69) rfl).1 _ (by rw [(bs_R.uq Hhp95 (g := 11) (p := 69) rfl).2]; rfl)).trans h96
                                   have h109 : sf_rd hp107 69 30 = some d0 := (fhp107.2.2.1 _ (bs_R.uq Hhp95 (g := 11) (p := 69) rfl).1 _ (by rw [(bs_R.uq Hhp95 (g := 11) (p := 69) rfl).2]; rfl)).trans h97
                                   have h110 : sf_rd hp107 81 2 = some z79.toInt := (fhp107.2.2.1 _ (bs_R.uq Hhp95 (g := 142) (p := 81) rfl).1 _ (by rw [(bs_R.uq Hhp95 (g := 142) (p := 81) rfl).2]; rfl)).trans h99
                                   have h111 : sf_rd hp107 81 3 = some z87.toInt := (fhp107.2.2.1 _ (bs_R.uq Hhp95 (g := 142) (p := 81) rfl).1 _ (by rw [(bs_R.uq Hhp95 (g := 142) (p := 81) rfl).2]; rfl)).trans h101
                                   have h112 : sf_rd hp107 69 32 = some z94.toInt := (fhp107.2.2.1 _ (bs_R.uq Hhp95 (g := 11) (p := 69) rfl).1 _ (by rw [(bs_R.uq Hhp95 (g := 11) (p := 69) rfl).2]; rfl)).trans rhp95
                                   refine (show Ev _ 317 ([some (.ref 69), some (.int x1), some (.int z62), some (.int k65), some (.int k66)], [], (0, 0), hp107) _ from ?_)
                                   exact by
                                    refine Ev.step (j := 318) (s' := ([some (.ref 69), some (.int x1), some (.int z62), some (.int k65), some (.int k66)], [.int k65], (0, 0), hp107)) rfl rfl ?_
                                    exact Ev.ret rfl rfl (by rw [hQ]; exact ⟨thp107, Hhp107, Fhp107, bs_an0, sf_S_cons (sf_s1 (x := y14) (show sf_v1 _ _ _ 36008 = _ from h108) (by omega) (by omega)) (sf_S_nil)⟩)
                               · skip
                                 have c113 : x1.toInt = 1 := by omega
                                 refine Ev.step (j := 255) (s' := ([some (.ref 69), some (.int x1), some (.int z62), some (.int k65), some (.int k66)], [.ref 69], (0, 0), hp95)) rfl rfl ?_
                                 exact by
                                  refine bs_getU (g := 11) (g1 := 142) rfl rfl Hhp95 (bs_R.uq Hhp95 (g := 11) rfl) (by decide) rfl rfl ?_
                                  refine bs_lit (k := 1) rfl rfl fun z114 hz114 => ?_
                                  refine bs_ld (g := 142) 0 3 (-2147483648, 2147483647) rfl Hhp95 (bs_R.uq Hhp95 (g := 142) rfl) (by decide) rfl (by decide) (by decide) rfl (by decide) (by omega) (by omega) fun z115 hz115 lz115 gz115 => ?_
                                  dsimp only at lz115 gz115
                                  replace hz115 := bs_at hz115 (show z114.toInt.toNat = 1 by omega)
                                  refine bs_ifle rfl (fun c116 => ?_) (fun c116 => ?_)
                                  · skip
                                    refine Ev.step (j := 310) (s' := ([some (.ref 69), some (.int x1), some (.int z62), some (.int k65), some (.int k66)], [.int x1], (0, 0), hp95)) rfl rfl ?_
                                    refine bs_ifne rfl (fun c117 => ?_) (fun c117 => ?_)
                                    · skip
                                      refine Ev.step (j := 318) (s' := ([some (.ref 69), some (.int x1), some (.int z62), some (.int k65), some (.int k66)], [.int k65], (0, 0), hp95)) rfl rfl ?_
                                      exact Ev.ret rfl rfl (by rw [hQ]; exact ⟨t68, Hhp95, Fhp95, bs_an0, sf_S_cons (sf_s1 (x := y14) (show sf_v1 _ _ _ 36008 = _ from h96) (by omega) (by omega)) (sf_S_nil)⟩)
                                    · exfalso; omega
                                  · skip
                                    refine Ev.step (j := 264) (s' := ([some (.ref 69), some (.int x1), some (.int z62), some (.int k65), some (.int k66)], [.ref 69], (0, 0), hp95)) rfl rfl ?_
                                    exact by
                                     refine bs_call (K := kq_X11_keep_p) [.ref 69] [] rfl ct_X11_keep_p Hhp95 rfl rfl rfl (bs_rcv (g := 11) Hhp95 (bs_R.uq Hhp95 (g := 11) rfl) (by decide) rfl) rfl ?_ (sf_S_nil) fun r118 hp119 thp119 Hhp119 fhp119 ahp119 php119 => ?_
                                     · intro q k h
                                       match q, h with
                                       | 0, h => cases h; exact bs_jR (bs_R.uq Hhp95 (g := 11) rfl)
                                       | q + 1, h => cases h
                                     obtain rfl := ahp119.1 rfl
                                     have Fhp119 := sf_fr_tr Fhp95 (sf_fr_wider (W := [(11, 0, 0), (11, 2, 5), (11, 11, 18), (11, 22, 22), (11, 25, 25), (11, 30, 30), (11, 32, 32), (132, 120, 252), (134, 0, 159), (138, 0, 1063), (139, 0, 132), (142, 0, 3), (999, 0, 0)]) rfl fhp119)
                                     have h120 : sf_rd hp119 69 2 = some y14 := (fhp119.2.2.1 _ (bs_R.uq Hhp95 (g := 11) (p := 69) rfl).1 _ (by rw [(bs_R.uq Hhp95 (g := 11) (p := 69) rfl).2]; rfl)).trans h96
                                     have h121 : sf_rd hp119 69 30 = some d0 := (fhp119.2.2.1 _ (bs_R.uq Hhp95 (g := 11) (p := 69) rfl).1 _ (by rw [(bs_R.uq Hhp95 (g := 11) (p := 69) rfl).2]; rfl)).trans h97
                                     have h122 : sf_rd hp119 71 120 = some z79.toInt := (fhp119.2.2.1 _ (bs_R.uq Hhp95 (g := 132) (p := 71) rfl).1 _ (by rw [(bs_R.uq Hhp95 (g := 132) (p := 71) rfl).2]; rfl)).trans h98
                                     have h123 : sf_rd hp119 81 2 = some z79.toInt := (fhp119.2.2.1 _ (bs_R.uq Hhp95 (g := 142) (p := 81) rfl).1 _ (by rw [(bs_R.uq Hhp95 (g := 142) (p := 81) rfl).2]; rfl)).trans h99
                                     have h124 : sf_rd hp119 71 123 = some z86.toInt := (fhp119.2.2.1 _ (bs_R.uq Hhp95 (g := 132) (p := 71) rfl).1 _ (by rw [(bs_R.uq Hhp95 (g := 132) (p := 71) rfl).2]; rfl)).trans h100
                                     have h125 : sf_rd hp119 81 3 = some z87.toInt := (fhp119.2.2.1 _ (bs_R.uq Hhp95 (g := 142) (p := 81) rfl).1 _ (by rw [(bs_R.uq Hhp95 (g := 142) (p := 81) rfl).2]; rfl)).trans h101
                                     have h126 : sf_rd hp119 69 32 = some z94.toInt := (fhp119.2.2.1 _ (bs_R.uq Hhp95 (g := 11) (p := 69) rfl).1 _ (by rw [(bs_R.uq Hhp95 (g := 11) (p := 69) rfl).2]; rfl)).trans rhp95
                                     have h127 : sf_rd hp119 81 1 = some z115.toInt := (fhp119.2.2.1 _ (bs_R.uq Hhp95 (g := 142) (p := 81) rfl).1 _ (by rw [(bs_R.uq Hhp95 (g := 142) (p := 81) rfl).2]; rfl)).trans hz115
                                     obtain ⟨y128, ey128, uy128, vy128⟩ := (php119 _ (List.mem_of_getElem? (i := 0) rfl)).1 rfl
                                     replace ey128 : sf_rd hp119 69 25 = some y128 := ey128
                                     replace uy128 : (1 : Int) ≤ y128 := uy128
                                     replace vy128 : y128 ≤ (8 : Int) := vy128
                                     refine (show Ev _ 267 ([some (.ref 69), some (.int x1), some (.int z62), some (.int k65), some (.int k66)], [], (0, 0), hp119) _ from ?_)
                                     exact by
                                      refine bs_lit (k := 0) rfl rfl fun z129 hz129 => ?_
                                      refine Ev.step (j := 270) (s' := ([some (.ref 69), some (.int x1), some (.int z62), some (.int k65), some (.int z129)], [], (0, 0), hp119)) rfl rfl ?_
                                      refine bs_loop (ι := Int32 × ab_H × (Nat → Nat)) (fun ⟨k130, hp131, t132⟩ => ([some (.ref 69), some (.int x1), some (.int z62), some (.int k65), some (.int k130)], [], (0, 0), hp131)) (fun ⟨k130, hp131, t132⟩ => (sf_h t132 hp131) ∧ (sf_fr [(11, 0, 0), (11, 2, 5), (11, 11, 18), (11, 22, 22), (11, 25, 25), (11, 30, 30), (11, 32, 32), (132, 120, 252), (134, 0, 159), (138, 0, 1063), (139, 0, 132), (142, 0, 3), (999, 0, 0)] t hp t132 hp131) ∧ (sf_rd hp131 69 2 = some y14) ∧ (sf_rd hp131 69 25 = some y128) ∧ (0 ≤ k130.toInt ∧ k130.toInt ≤ 133)) (fun ⟨k130, hp131, t132⟩ => (133 - k130.toInt).toNat) ?_ (z129, hp119, thp119) ⟨Hhp119, Fhp119, h120, ey128, (by first | omega | assumption)⟩
                                      rintro ⟨k130, hp131, t132⟩ ⟨Hhp131, Fhp131, i134, i135, i136⟩ ih133
                                      refine (show Ev _ 270 ([some (.ref 69), some (.int x1), some (.int z62), some (.int k65), some (.int k130)], [], (0, 0), hp131) _ from ?_)
                                      refine Ev.step (j := 272) (s' := ([some (.ref 69), some (.int x1), some (.int z62), some (.int k65), some (.int k130)], [.int k130], (0, 0), hp131)) rfl rfl ?_
                                      refine bs_lit (k := 133) rfl rfl fun z137 hz137 => ?_
                                      refine bs_ge rfl (fun c138 => ?_) (fun c138 => ?_)
                                      · skip
                                        refine Ev.step (j := 310) (s' := ([some (.ref 69), some (.int x1), some (.int z62), some (.int k65), some (.int k130)], [.int x1], (0, 0), hp131)) rfl rfl ?_
                                        exact by
                                         refine bs_ifne rfl (fun c139 => ?_) (fun c139 => ?_)
                                         · skip
                                           refine Ev.step (j := 318) (s' := ([some (.ref 69), some (.int x1), some (.int z62), some (.int k65), some (.int k130)], [.int k65], (0, 0), hp131)) rfl rfl ?_
                                           exact Ev.ret rfl rfl (by rw [hQ]; exact ⟨t132, Hhp131, Fhp131, bs_an0, sf_S_cons (sf_s1 (x := y14) (show sf_v1 _ _ _ 36008 = _ from i134) (by omega) (by omega)) (sf_S_nil)⟩)
                                         · exfalso; omega
                                      · skip
                                        refine Ev.step (j := 279) (s' := ([some (.ref 69), some (.int x1), some (.int z62), some (.int k65), some (.int k130)], [.ref 69], (0, 0), hp131)) rfl rfl ?_
                                        exact by
                                         refine bs_getU (g := 11) (g1 := 138) rfl rfl Hhp131 (bs_R.uq Hhp131 (g := 11) rfl) (by decide) rfl rfl ?_
                                         refine bs_lit (k := 133) rfl rfl fun z140 hz140 => ?_
                                         refine Ev.step (j := 286) (s' := ([some (.ref 69), some (.int x1), some (.int z62), some (.int k65), some (.int k130)], [.ref 69, .int z140, .ref 77], (0, 0), hp131)) rfl rfl ?_
                                         refine bs_getI 11 rfl rfl rfl Hhp131 (bs_R.uq Hhp131 (g := 11) rfl) (by decide) rfl fun z141 hz141 lz141 gz141 => ?_
                                         have e142 : z141.toInt = y128 := Option.some.inj (hz141.symm.trans i135)
                                         refine bs_lit (k := 1) rfl rfl fun z143 hz143 => ?_
                                         first | (refine bs_sub rfl (by omega) (by omega) fun z144 hz144 => ?_) | (refine bs_any rfl fun z144 => ?_)
                                         have rz144 := n_range z144
                                         refine bs_mul (133) rfl (Or.inl hz140) (by rw [hz140]; omega) (by rw [hz140]; omega) fun z145 hz145 => ?_
                                         rw [hz140] at hz145
                                         refine Ev.step (j := 294) (s' := ([some (.ref 69), some (.int x1), some (.int z62), some (.int k65), some (.int k130)], [.int k130, .int z145, .ref 77], (0, 0), hp131)) rfl rfl ?_
                                         first | (refine bs_add rfl (by omega) (by omega) fun z146 hz146 => ?_) | (refine bs_any rfl fun z146 => ?_)
                                         have rz146 := n_range z146
                                         refine Ev.step (j := 296) (s' := ([some (.ref 69), some (.int x1), some (.int z62), some (.int k65), some (.int k130)], [.ref 69, .int z146, .ref 77], (0, 0), hp131)) rfl rfl ?_
                                         exact by
                                          refine bs_getU (g := 11) (g1 := 139) rfl rfl Hhp131 (bs_R.uq Hhp131 (g := 11) rfl) (by decide) rfl rfl ?_
                                          refine Ev.step (j := 301) (s' := ([some (.ref 69), some (.int x1), some (.int z62), some (.int k65), some (.int k130)], [.int k130, .ref 78, .int z146, .ref 77], (0, 0), hp131)) rfl rfl ?_
                                          refine bs_ldK (g := 139) rfl Hhp131 (bs_R.uq Hhp131 (g := 139) rfl) (by decide) rfl (by omega) (by show _ < ((133 : Nat) : Int); omega) fun z147 hz147 kz147 => ?_
                                          have rz147 := n_range z147
                                          have kv : ∀ n, sf_v t132 n (sf_e (sf_A 138).2.2 z146.toInt.toNat) (.int z147) := fun n => by
                                            have h1 := sg_139 k130.toInt.toNat (by omega)
                                            have h2 := sg_138 z146.toInt.toNat (by omega)
                                            have h3 := kz147 n
                                            rw [h1] at h3
                                            rw [h2]
                                            have e9 : 120 + z146.toInt.toNat % 133 = 120 + k130.toInt.toNat % 133 := by omega
                                            rw [e9]
                                            exact h3
                                          refine bs_stK (W := [(138, 0, 1063)]) (g := 138) 0 1063 rfl Hhp131 (bs_R.uq Hhp131 (g := 138) rfl) (by decide) rfl (by decide) rfl rfl (by omega) (by omega) (kv _) fun hp148 Hhp148 fhp148 rhp148 ehp148 qhp148 nhp148 => ?_
                                          clear kv
                                          have Fhp148 := sf_fr_tr Fhp131 (sf_fr_wider (W := [(11, 0, 0), (11, 2, 5), (11, 11, 18), (11, 22, 22), (11, 25, 25), (11, 30, 30), (11, 32, 32), (132, 120, 252), (134, 0, 159), (138, 0, 1063), (139, 0, 132), (142, 0, 3), (999, 0, 0)]) rfl fhp148)
                                          have h149 : sf_rd hp148 69 2 = some y14 := (ehp148 _ _ (Or.inl (by decide))).trans i134
                                          have h150 : sf_rd hp148 69 25 = some y128 := (ehp148 _ _ (Or.inl (by decide))).trans i135
                                          refine bs_iinc (1) rfl rfl rfl rfl (by omega) (by omega) fun z151 hz151 => ?_
                                          exact by
                                           refine (show Ev _ 306 ([some (.ref 69), some (.int x1), some (.int z62), some (.int k65), some (.int z151)], [], (0, 0), hp148) _ from ?_)
                                           refine Ev.step (j := 270) (s' := ([some (.ref 69), some (.int x1), some (.int z62), some (.int k65), some (.int z151)], [], (0, 0), hp148)) rfl rfl ?_
                                           refine ih133 (z151, hp148, t132) ⟨Hhp148, Fhp148, h149, h150, (by first | omega | assumption)⟩ ?_
                                           show (133 - z151.toInt).toNat < (133 - k130.toInt).toNat
                                           omega
                         · skip
                           refine Ev.step (j := 130) (s' := ([some (.ref 69), some (.int x1), some (.int z62), some (.int k65), some (.int k66)], [.int k65], (0, 0), hp67)) rfl rfl ?_
                           exact by
                            refine bs_ifge rfl (fun c152 => ?_) (fun c152 => ?_)
                            · skip
                              refine Ev.step (j := 217) (s' := ([some (.ref 69), some (.int x1), some (.int z62), some (.int k65), some (.int k66)], [.ref 69], (0, 0), hp67)) rfl rfl ?_
                              refine bs_getU (g := 11) (g1 := 142) rfl rfl Hhp67 (bs_R.uq Hhp67 (g := 11) rfl) (by decide) rfl rfl ?_
                              refine bs_lit (k := 2) rfl rfl fun z153 hz153 => ?_
                              refine Ev.step (j := 222) (s' := ([some (.ref 69), some (.int x1), some (.int z62), some (.int k65), some (.int k66)], [.ref 69, .int z153, .ref 81], (0, 0), hp67)) rfl rfl ?_
                              refine bs_getU (g := 11) (g1 := 132) rfl rfl Hhp67 (bs_R.uq Hhp67 (g := 11) rfl) (by decide) rfl rfl ?_
                              refine bs_lit (k := 120) rfl rfl fun z154 hz154 => ?_
                              refine bs_ld (g := 132) 120 120 (0, 400) rfl Hhp67 (bs_R.uq Hhp67 (g := 132) rfl) (by decide) rfl (by decide) (by decide) rfl (by decide) (by omega) (by omega) fun z155 hz155 lz155 gz155 => ?_
                              dsimp only at lz155 gz155
                              replace hz155 := bs_at hz155 (show z154.toInt.toNat = 120 by omega)
                              refine bs_st (W := [(142, 0, 3)]) (g := 142) 0 3 (-2147483648, 2147483647) rfl Hhp67 (bs_R.uq Hhp67 (g := 142) rfl) (by decide) rfl rfl (by decide) rfl rfl (by omega) (by omega) (by dsimp only; omega) (by dsimp only; omega) fun hp156 Hhp156 fhp156 rhp156 ehp156 qhp156 nhp156 => ?_
                              replace rhp156 := bs_at rhp156 (show z153.toInt.toNat = 2 by omega)
                              have Fhp156 := sf_fr_tr Fhp67 (sf_fr_wider (W := [(11, 0, 0), (11, 2, 5), (11, 11, 18), (11, 22, 22), (11, 25, 25), (11, 30, 30), (11, 32, 32), (132, 120, 252), (134, 0, 159), (138, 0, 1063), (139, 0, 132), (142, 0, 3), (999, 0, 0)]) rfl fhp156)
                              have h157 : sf_rd hp156 69 2 = some y14 := (ehp156 _ _ (Or.inl (by decide))).trans i70
                              have h158 : sf_rd hp156 69 30 = some d0 := (ehp156 _ _ (Or.inl (by decide))).trans i71
                              have h159 : sf_rd hp156 71 120 = some z155.toInt := (ehp156 _ _ (Or.inl (by decide))).trans hz155
                              refine Ev.step (j := 230) (s' := ([some (.ref 69), some (.int x1), some (.int z62), some (.int k65), some (.int k66)], [.ref 69], (0, 0), hp156)) rfl rfl ?_
                              exact by
                               refine bs_getU (g := 11) (g1 := 142) rfl rfl Hhp156 (bs_R.uq Hhp156 (g := 11) rfl) (by decide) rfl rfl ?_
                               refine bs_lit (k := 3) rfl rfl fun z160 hz160 => ?_
                               refine Ev.step (j := 235) (s' := ([some (.ref 69), some (.int x1), some (.int z62), some (.int k65), some (.int k66)], [.ref 69, .int z160, .ref 81], (0, 0), hp156)) rfl rfl ?_
                               refine bs_getU (g := 11) (g1 := 132) rfl rfl Hhp156 (bs_R.uq Hhp156 (g := 11) rfl) (by decide) rfl rfl ?_
                               refine bs_lit (k := 123) rfl rfl fun z161 hz161 => ?_
                               refine bs_ld (g := 132) 123 123 (-2147483648, 2147483647) rfl Hhp156 (bs_R.uq Hhp156 (g := 132) rfl) (by decide) rfl (by decide) (by decide) rfl (by decide) (by omega) (by omega) fun z162 hz162 lz162 gz162 => ?_
                               dsimp only at lz162 gz162
                               replace hz162 := bs_at hz162 (show z161.toInt.toNat = 123 by omega)
                               refine Ev.step (j := 242) (s' := ([some (.ref 69), some (.int x1), some (.int z62), some (.int k65), some (.int k66)], [.int z62, .int z162, .int z160, .ref 81], (0, 0), hp156)) rfl rfl ?_
                               first | (refine bs_sub rfl (by omega) (by omega) fun z163 hz163 => ?_) | (refine bs_any rfl fun z163 => ?_)
                               have rz163 := n_range z163
                               refine bs_st (W := [(142, 0, 3)]) (g := 142) 0 3 (-2147483648, 2147483647) rfl Hhp156 (bs_R.uq Hhp156 (g := 142) rfl) (by decide) rfl rfl (by decide) rfl rfl (by omega) (by omega) (by dsimp only; omega) (by dsimp only; omega) fun hp164 Hhp164 fhp164 rhp164 ehp164 qhp164 nhp164 => ?_
                               replace rhp164 := bs_at rhp164 (show z160.toInt.toNat = 3 by omega)
                               have Fhp164 := sf_fr_tr Fhp156 (sf_fr_wider (W := [(11, 0, 0), (11, 2, 5), (11, 11, 18), (11, 22, 22), (11, 25, 25), (11, 30, 30), (11, 32, 32), (132, 120, 252), (134, 0, 159), (138, 0, 1063), (139, 0, 132), (142, 0, 3), (999, 0, 0)]) rfl fhp164)
                               have h165 : sf_rd hp164 69 2 = some y14 := (ehp164 _ _ (Or.inl (by decide))).trans h157
                               have h166 : sf_rd hp164 69 30 = some d0 := (ehp164 _ _ (Or.inl (by decide))).trans h158
                               have h167 : sf_rd hp164 71 120 = some z155.toInt := (ehp164 _ _ (Or.inl (by decide))).trans h159
                               have h168 : sf_rd hp164 81 2 = some z155.toInt := (ehp164 _ _ (Or.inr (by omega))).trans rhp156
                               have h169 : sf_rd hp164 71 123 = some z162.toInt := (ehp164 _ _ (Or.inl (by decide))).trans hz162
                               refine Ev.step (j := 245) (s' := ([some (.ref 69), some (.int x1), some (.int z62), some (.int k65), some (.int k66)], [.ref 69], (0, 0), hp164)) rfl rfl ?_
                               exact by
                                refine bs_lit (k := 1) rfl rfl fun z170 hz170 => ?_
                                refine bs_putI (W := [(11, 32, 32)]) (g := 11) rfl rfl Hhp164 (bs_R.uq Hhp164 (g := 11) rfl) (by decide) rfl rfl rfl rfl (Or.inr ⟨rfl, by omega, by omega⟩) (by omega) (by omega) fun hp171 Hhp171 fhp171 rhp171 ehp171 qhp171 nhp171 => ?_
                                have Fhp171 := sf_fr_tr Fhp164 (sf_fr_wider (W := [(11, 0, 0), (11, 2, 5), (11, 11, 18), (11, 22, 22), (11, 25, 25), (11, 30, 30), (11, 32, 32), (132, 120, 252), (134, 0, 159), (138, 0, 1063), (139, 0, 132), (142, 0, 3), (999, 0, 0)]) rfl fhp171)
                                have h172 : sf_rd hp171 69 2 = some y14 := (ehp171 _ _ (Or.inr (by omega))).trans h165
                                have h173 : sf_rd hp171 69 30 = some d0 := (ehp171 _ _ (Or.inr (by omega))).trans h166
                                have h174 : sf_rd hp171 71 120 = some z155.toInt := (ehp171 _ _ (Or.inl (by decide))).trans h167
                                have h175 : sf_rd hp171 81 2 = some z155.toInt := (ehp171 _ _ (Or.inl (by decide))).trans h168
                                have h176 : sf_rd hp171 71 123 = some z162.toInt := (ehp171 _ _ (Or.inl (by decide))).trans h169
                                have h177 : sf_rd hp171 81 3 = some z163.toInt := (ehp171 _ _ (Or.inl (by decide))).trans rhp164
                                refine Ev.step (j := 250) (s' := ([some (.ref 69), some (.int x1), some (.int z62), some (.int k65), some (.int k66)], [.int x1], (0, 0), hp171)) rfl rfl ?_
                                exact by
                                 refine bs_lit (k := 1) rfl rfl fun z178 hz178 => ?_
                                 refine bs_ne rfl (fun c179 => ?_) (fun c179 => ?_)
                                 · skip
                                   refine Ev.step (j := 310) (s' := ([some (.ref 69), some (.int x1), some (.int z62), some (.int k65), some (.int k66)], [.int x1], (0, 0), hp171)) rfl rfl ?_
                                   refine bs_ifne rfl (fun c180 => ?_) (fun c180 => ?_)
                                   · skip
                                     refine Ev.step (j := 318) (s' := ([some (.ref 69), some (.int x1), some (.int z62), some (.int k65), some (.int k66)], [.int k65], (0, 0), hp171)) rfl rfl ?_
                                     exact Ev.ret rfl rfl (by rw [hQ]; exact ⟨t68, Hhp171, Fhp171, bs_an0, sf_S_cons (sf_s1 (x := y14) (show sf_v1 _ _ _ 36008 = _ from h172) (by omega) (by omega)) (sf_S_nil)⟩)
                                   · skip
                                     have c181 : x1.toInt = 0 := by omega
                                     refine Ev.step (j := 314) (s' := ([some (.ref 69), some (.int x1), some (.int z62), some (.int k65), some (.int k66)], [.ref 69], (0, 0), hp171)) rfl rfl ?_
                                     refine bs_call (K := kq_X11_back_h) [.ref 69] [] rfl ct_X11_back_h Hhp171 rfl rfl rfl (bs_rcv (g := 11) Hhp171 (bs_R.uq Hhp171 (g := 11) rfl) (by decide) rfl) rfl ?_ (sf_S_nil) fun r182 hp183 thp183 Hhp183 fhp183 ahp183 php183 => ?_
                                     · intro q k h
                                       match q, h with
                                       | 0, h => cases h; exact bs_jR (bs_R.uq Hhp171 (g := 11) rfl)
                                       | q + 1, h => cases h
                                     obtain rfl := ahp183.1 rfl
                                     have Fhp183 := sf_fr_tr Fhp171 (sf_fr_wider (W := [(11, 0, 0), (11, 2, 5), (11, 11, 18), (11, 22, 22), (11, 25, 25), (11, 30, 30), (11, 32, 32), (132, 120, 252), (134, 0, 159), (138, 0, 1063), (139, 0, 132), (142, 0, 3), (999, 0, 0)]) rfl fhp183)
                                     have h184 : sf_rd hp183 69 2 = some y14 := (fhp183.2.2.1 _ (bs_R.uq Hhp171 (g := 11) (p := 69) rfl).1 _ (by rw [(bs_R.uq Hhp171 (g := 11) (p := 69) rfl).2]; rfl)).trans h172
                                     have h185 : sf_rd hp183 69 30 = some d0 := (fhp183.2.2.1 _ (bs_R.uq Hhp171 (g := 11) (p := 69) rfl).1 _ (by rw [(bs_R.uq Hhp171 (g := 11) (p := 69) rfl).2]; rfl)).trans h173
                                     have h186 : sf_rd hp183 81 2 = some z155.toInt := (fhp183.2.2.1 _ (bs_R.uq Hhp171 (g := 142) (p := 81) rfl).1 _ (by rw [(bs_R.uq Hhp171 (g := 142) (p := 81) rfl).2]; rfl)).trans h175
                                     have h187 : sf_rd hp183 81 3 = some z163.toInt := (fhp183.2.2.1 _ (bs_R.uq Hhp171 (g := 142) (p := 81) rfl).1 _ (by rw [(bs_R.uq Hhp171 (g := 142) (p := 81) rfl).2]; rfl)).trans h177
                                     have h188 : sf_rd hp183 69 32 = some z170.toInt := (fhp183.2.2.1 _ (bs_R.uq Hhp171 (g := 11) (p := 69) rfl).1 _ (by rw [(bs_R.uq Hhp171 (g := 11) (p := 69) rfl).2]; rfl)).trans rhp171
                                     refine (show Ev _ 317 ([some (.ref 69), some (.int x1), some (.int z62), some (.int k65), some (.int k66)], [], (0, 0), hp183) _ from ?_)
                                     exact by
                                      refine Ev.step (j := 318) (s' := ([some (.ref 69), some (.int x1), some (.int z62), some (.int k65), some (.int k66)], [.int k65], (0, 0), hp183)) rfl rfl ?_
                                      exact Ev.ret rfl rfl (by rw [hQ]; exact ⟨thp183, Hhp183, Fhp183, bs_an0, sf_S_cons (sf_s1 (x := y14) (show sf_v1 _ _ _ 36008 = _ from h184) (by omega) (by omega)) (sf_S_nil)⟩)
                                 · skip
                                   have c189 : x1.toInt = 1 := by omega
                                   refine Ev.step (j := 255) (s' := ([some (.ref 69), some (.int x1), some (.int z62), some (.int k65), some (.int k66)], [.ref 69], (0, 0), hp171)) rfl rfl ?_
                                   exact by
                                    refine bs_getU (g := 11) (g1 := 142) rfl rfl Hhp171 (bs_R.uq Hhp171 (g := 11) rfl) (by decide) rfl rfl ?_
                                    refine bs_lit (k := 1) rfl rfl fun z190 hz190 => ?_
                                    refine bs_ld (g := 142) 0 3 (-2147483648, 2147483647) rfl Hhp171 (bs_R.uq Hhp171 (g := 142) rfl) (by decide) rfl (by decide) (by decide) rfl (by decide) (by omega) (by omega) fun z191 hz191 lz191 gz191 => ?_
                                    dsimp only at lz191 gz191
                                    replace hz191 := bs_at hz191 (show z190.toInt.toNat = 1 by omega)
                                    refine bs_ifle rfl (fun c192 => ?_) (fun c192 => ?_)
                                    · skip
                                      refine Ev.step (j := 310) (s' := ([some (.ref 69), some (.int x1), some (.int z62), some (.int k65), some (.int k66)], [.int x1], (0, 0), hp171)) rfl rfl ?_
                                      refine bs_ifne rfl (fun c193 => ?_) (fun c193 => ?_)
                                      · skip
                                        refine Ev.step (j := 318) (s' := ([some (.ref 69), some (.int x1), some (.int z62), some (.int k65), some (.int k66)], [.int k65], (0, 0), hp171)) rfl rfl ?_
                                        exact Ev.ret rfl rfl (by rw [hQ]; exact ⟨t68, Hhp171, Fhp171, bs_an0, sf_S_cons (sf_s1 (x := y14) (show sf_v1 _ _ _ 36008 = _ from h172) (by omega) (by omega)) (sf_S_nil)⟩)
                                      · exfalso; omega
                                    · skip
                                      refine Ev.step (j := 264) (s' := ([some (.ref 69), some (.int x1), some (.int z62), some (.int k65), some (.int k66)], [.ref 69], (0, 0), hp171)) rfl rfl ?_
                                      exact by
                                       refine bs_call (K := kq_X11_keep_p) [.ref 69] [] rfl ct_X11_keep_p Hhp171 rfl rfl rfl (bs_rcv (g := 11) Hhp171 (bs_R.uq Hhp171 (g := 11) rfl) (by decide) rfl) rfl ?_ (sf_S_nil) fun r194 hp195 thp195 Hhp195 fhp195 ahp195 php195 => ?_
                                       · intro q k h
                                         match q, h with
                                         | 0, h => cases h; exact bs_jR (bs_R.uq Hhp171 (g := 11) rfl)
                                         | q + 1, h => cases h
                                       obtain rfl := ahp195.1 rfl
                                       have Fhp195 := sf_fr_tr Fhp171 (sf_fr_wider (W := [(11, 0, 0), (11, 2, 5), (11, 11, 18), (11, 22, 22), (11, 25, 25), (11, 30, 30), (11, 32, 32), (132, 120, 252), (134, 0, 159), (138, 0, 1063), (139, 0, 132), (142, 0, 3), (999, 0, 0)]) rfl fhp195)
                                       have h196 : sf_rd hp195 69 2 = some y14 := (fhp195.2.2.1 _ (bs_R.uq Hhp171 (g := 11) (p := 69) rfl).1 _ (by rw [(bs_R.uq Hhp171 (g := 11) (p := 69) rfl).2]; rfl)).trans h172
                                       have h197 : sf_rd hp195 69 30 = some d0 := (fhp195.2.2.1 _ (bs_R.uq Hhp171 (g := 11) (p := 69) rfl).1 _ (by rw [(bs_R.uq Hhp171 (g := 11) (p := 69) rfl).2]; rfl)).trans h173
                                       have h198 : sf_rd hp195 71 120 = some z155.toInt := (fhp195.2.2.1 _ (bs_R.uq Hhp171 (g := 132) (p := 71) rfl).1 _ (by rw [(bs_R.uq Hhp171 (g := 132) (p := 71) rfl).2]; rfl)).trans h174
                                       have h199 : sf_rd hp195 81 2 = some z155.toInt := (fhp195.2.2.1 _ (bs_R.uq Hhp171 (g := 142) (p := 81) rfl).1 _ (by rw [(bs_R.uq Hhp171 (g := 142) (p := 81) rfl).2]; rfl)).trans h175
                                       have h200 : sf_rd hp195 71 123 = some z162.toInt := (fhp195.2.2.1 _ (bs_R.uq Hhp171 (g := 132) (p := 71) rfl).1 _ (by rw [(bs_R.uq Hhp171 (g := 132) (p := 71) rfl).2]; rfl)).trans h176
                                       have h201 : sf_rd hp195 81 3 = some z163.toInt := (fhp195.2.2.1 _ (bs_R.uq Hhp171 (g := 142) (p := 81) rfl).1 _ (by rw [(bs_R.uq Hhp171 (g := 142) (p := 81) rfl).2]; rfl)).trans h177
                                       have h202 : sf_rd hp195 69 32 = some z170.toInt := (fhp195.2.2.1 _ (bs_R.uq Hhp171 (g := 11) (p := 69) rfl).1 _ (by rw [(bs_R.uq Hhp171 (g := 11) (p := 69) rfl).2]; rfl)).trans rhp171
                                       have h203 : sf_rd hp195 81 1 = some z191.toInt := (fhp195.2.2.1 _ (bs_R.uq Hhp171 (g := 142) (p := 81) rfl).1 _ (by rw [(bs_R.uq Hhp171 (g := 142) (p := 81) rfl).2]; rfl)).trans hz191
                                       obtain ⟨y204, ey204, uy204, vy204⟩ := (php195 _ (List.mem_of_getElem? (i := 0) rfl)).1 rfl
                                       replace ey204 : sf_rd hp195 69 25 = some y204 := ey204
                                       replace uy204 : (1 : Int) ≤ y204 := uy204
                                       replace vy204 : y204 ≤ (8 : Int) := vy204
                                       refine (show Ev _ 267 ([some (.ref 69), some (.int x1), some (.int z62), some (.int k65), some (.int k66)], [], (0, 0), hp195) _ from ?_)
                                       exact by
                                        refine bs_lit (k := 0) rfl rfl fun z205 hz205 => ?_
                                        refine Ev.step (j := 270) (s' := ([some (.ref 69), some (.int x1), some (.int z62), some (.int k65), some (.int z205)], [], (0, 0), hp195)) rfl rfl ?_
                                        refine bs_loop (ι := Int32 × ab_H × (Nat → Nat)) (fun ⟨k206, hp207, t208⟩ => ([some (.ref 69), some (.int x1), some (.int z62), some (.int k65), some (.int k206)], [], (0, 0), hp207)) (fun ⟨k206, hp207, t208⟩ => (sf_h t208 hp207) ∧ (sf_fr [(11, 0, 0), (11, 2, 5), (11, 11, 18), (11, 22, 22), (11, 25, 25), (11, 30, 30), (11, 32, 32), (132, 120, 252), (134, 0, 159), (138, 0, 1063), (139, 0, 132), (142, 0, 3), (999, 0, 0)] t hp t208 hp207) ∧ (sf_rd hp207 69 2 = some y14) ∧ (sf_rd hp207 69 25 = some y204) ∧ (0 ≤ k206.toInt ∧ k206.toInt ≤ 133)) (fun ⟨k206, hp207, t208⟩ => (133 - k206.toInt).toNat) ?_ (z205, hp195, thp195) ⟨Hhp195, Fhp195, h196, ey204, (by first | omega | assumption)⟩
                                        rintro ⟨k206, hp207, t208⟩ ⟨Hhp207, Fhp207, i210, i211, i212⟩ ih209
                                        refine (show Ev _ 270 ([some (.ref 69), some (.int x1), some (.int z62), some (.int k65), some (.int k206)], [], (0, 0), hp207) _ from ?_)
                                        refine Ev.step (j := 272) (s' := ([some (.ref 69), some (.int x1), some (.int z62), some (.int k65), some (.int k206)], [.int k206], (0, 0), hp207)) rfl rfl ?_
                                        refine bs_lit (k := 133) rfl rfl fun z213 hz213 => ?_
                                        refine bs_ge rfl (fun c214 => ?_) (fun c214 => ?_)
                                        · skip
                                          refine Ev.step (j := 310) (s' := ([some (.ref 69), some (.int x1), some (.int z62), some (.int k65), some (.int k206)], [.int x1], (0, 0), hp207)) rfl rfl ?_
                                          exact by
                                           refine bs_ifne rfl (fun c215 => ?_) (fun c215 => ?_)
                                           · skip
                                             refine Ev.step (j := 318) (s' := ([some (.ref 69), some (.int x1), some (.int z62), some (.int k65), some (.int k206)], [.int k65], (0, 0), hp207)) rfl rfl ?_
                                             exact Ev.ret rfl rfl (by rw [hQ]; exact ⟨t208, Hhp207, Fhp207, bs_an0, sf_S_cons (sf_s1 (x := y14) (show sf_v1 _ _ _ 36008 = _ from i210) (by omega) (by omega)) (sf_S_nil)⟩)
                                           · exfalso; omega
                                        · skip
                                          refine Ev.step (j := 279) (s' := ([some (.ref 69), some (.int x1), some (.int z62), some (.int k65), some (.int k206)], [.ref 69], (0, 0), hp207)) rfl rfl ?_
                                          exact by
                                           refine bs_getU (g := 11) (g1 := 138) rfl rfl Hhp207 (bs_R.uq Hhp207 (g := 11) rfl) (by decide) rfl rfl ?_
                                           refine bs_lit (k := 133) rfl rfl fun z216 hz216 => ?_
                                           refine Ev.step (j := 286) (s' := ([some (.ref 69), some (.int x1), some (.int z62), some (.int k65), some (.int k206)], [.ref 69, .int z216, .ref 77], (0, 0), hp207)) rfl rfl ?_
                                           refine bs_getI 11 rfl rfl rfl Hhp207 (bs_R.uq Hhp207 (g := 11) rfl) (by decide) rfl fun z217 hz217 lz217 gz217 => ?_
                                           have e218 : z217.toInt = y204 := Option.some.inj (hz217.symm.trans i211)
                                           refine bs_lit (k := 1) rfl rfl fun z219 hz219 => ?_
                                           first | (refine bs_sub rfl (by omega) (by omega) fun z220 hz220 => ?_) | (refine bs_any rfl fun z220 => ?_)
                                           have rz220 := n_range z220
                                           refine bs_mul (133) rfl (Or.inl hz216) (by rw [hz216]; omega) (by rw [hz216]; omega) fun z221 hz221 => ?_
                                           rw [hz216] at hz221
                                           refine Ev.step (j := 294) (s' := ([some (.ref 69), some (.int x1), some (.int z62), some (.int k65), some (.int k206)], [.int k206, .int z221, .ref 77], (0, 0), hp207)) rfl rfl ?_
                                           first | (refine bs_add rfl (by omega) (by omega) fun z222 hz222 => ?_) | (refine bs_any rfl fun z222 => ?_)
                                           have rz222 := n_range z222
                                           refine Ev.step (j := 296) (s' := ([some (.ref 69), some (.int x1), some (.int z62), some (.int k65), some (.int k206)], [.ref 69, .int z222, .ref 77], (0, 0), hp207)) rfl rfl ?_
                                           exact by
                                            refine bs_getU (g := 11) (g1 := 139) rfl rfl Hhp207 (bs_R.uq Hhp207 (g := 11) rfl) (by decide) rfl rfl ?_
                                            refine Ev.step (j := 301) (s' := ([some (.ref 69), some (.int x1), some (.int z62), some (.int k65), some (.int k206)], [.int k206, .ref 78, .int z222, .ref 77], (0, 0), hp207)) rfl rfl ?_
                                            refine bs_ldK (g := 139) rfl Hhp207 (bs_R.uq Hhp207 (g := 139) rfl) (by decide) rfl (by omega) (by show _ < ((133 : Nat) : Int); omega) fun z223 hz223 kz223 => ?_
                                            have rz223 := n_range z223
                                            have kv : ∀ n, sf_v t208 n (sf_e (sf_A 138).2.2 z222.toInt.toNat) (.int z223) := fun n => by
                                              have h1 := sg_139 k206.toInt.toNat (by omega)
                                              have h2 := sg_138 z222.toInt.toNat (by omega)
                                              have h3 := kz223 n
                                              rw [h1] at h3
                                              rw [h2]
                                              have e9 : 120 + z222.toInt.toNat % 133 = 120 + k206.toInt.toNat % 133 := by omega
                                              rw [e9]
                                              exact h3
                                            refine bs_stK (W := [(138, 0, 1063)]) (g := 138) 0 1063 rfl Hhp207 (bs_R.uq Hhp207 (g := 138) rfl) (by decide) rfl (by decide) rfl rfl (by omega) (by omega) (kv _) fun hp224 Hhp224 fhp224 rhp224 ehp224 qhp224 nhp224 => ?_
                                            clear kv
                                            have Fhp224 := sf_fr_tr Fhp207 (sf_fr_wider (W := [(11, 0, 0), (11, 2, 5), (11, 11, 18), (11, 22, 22), (11, 25, 25), (11, 30, 30), (11, 32, 32), (132, 120, 252), (134, 0, 159), (138, 0, 1063), (139, 0, 132), (142, 0, 3), (999, 0, 0)]) rfl fhp224)
                                            have h225 : sf_rd hp224 69 2 = some y14 := (ehp224 _ _ (Or.inl (by decide))).trans i210
                                            have h226 : sf_rd hp224 69 25 = some y204 := (ehp224 _ _ (Or.inl (by decide))).trans i211
                                            refine bs_iinc (1) rfl rfl rfl rfl (by omega) (by omega) fun z227 hz227 => ?_
                                            exact by
                                             refine (show Ev _ 306 ([some (.ref 69), some (.int x1), some (.int z62), some (.int k65), some (.int z227)], [], (0, 0), hp224) _ from ?_)
                                             refine Ev.step (j := 270) (s' := ([some (.ref 69), some (.int x1), some (.int z62), some (.int k65), some (.int z227)], [], (0, 0), hp224)) rfl rfl ?_
                                             refine ih209 (z227, hp224, t208) ⟨Hhp224, Fhp224, h225, h226, (by first | omega | assumption)⟩ ?_
                                             show (133 - z227.toInt).toNat < (133 - k206.toInt).toNat
                                             omega
                            · skip
                              refine Ev.step (j := 134) (s' := ([some (.ref 69), some (.int x1), some (.int z62), some (.int k65), some (.int k66)], [.ref 69], (0, 0), hp67)) rfl rfl ?_
                              exact by
                               refine bs_getU (g := 11) (g1 := 142) rfl rfl Hhp67 (bs_R.uq Hhp67 (g := 11) rfl) (by decide) rfl rfl ?_
                               refine bs_lit (k := 0) rfl rfl fun z228 hz228 => ?_
                               refine Ev.step (j := 139) (s' := ([some (.ref 69), some (.int x1), some (.int z62), some (.int k65), some (.int k66)], [.ref 69, .int z228, .ref 81], (0, 0), hp67)) rfl rfl ?_
                               refine Ev.step (j := 140) (s' := ([some (.ref 69), some (.int x1), some (.int z62), some (.int k65), some (.int k66)], [.ref 69, .ref 69, .int z228, .ref 81], (0, 0), hp67)) rfl rfl ?_
                               refine bs_getU (g := 11) (g1 := 134) rfl rfl Hhp67 (bs_R.uq Hhp67 (g := 11) rfl) (by decide) rfl rfl ?_
                               refine bs_lit (k := 4) rfl rfl fun z229 hz229 => ?_
                               refine Ev.step (j := 146) (s' := ([some (.ref 69), some (.int x1), some (.int z62), some (.int k65), some (.int k66)], [.int k66, .int z229, .ref 73, .ref 69, .int z228, .ref 81], (0, 0), hp67)) rfl rfl ?_
                               refine bs_mul (4) rfl (Or.inl hz229) (by rw [hz229]; omega) (by rw [hz229]; omega) fun z230 hz230 => ?_
                               rw [hz229] at hz230
                               refine bs_ld (g := 134) 0 159 (-2147483648, 2147483647) rfl Hhp67 (bs_R.uq Hhp67 (g := 134) rfl) (by decide) rfl (by decide) (by decide) rfl (by decide) (by omega) (by omega) fun z231 hz231 lz231 gz231 => ?_
                               dsimp only at lz231 gz231
                               refine Ev.step (j := 149) (s' := ([some (.ref 69), some (.int x1), some (.int z62), some (.int k65), some (.int k66)], [.ref 69, .int z231, .ref 69, .int z228, .ref 81], (0, 0), hp67)) rfl rfl ?_
                               exact by
                                refine bs_getU (g := 11) (g1 := 134) rfl rfl Hhp67 (bs_R.uq Hhp67 (g := 11) rfl) (by decide) rfl rfl ?_
                                refine bs_lit (k := 4) rfl rfl fun z232 hz232 => ?_
                                refine Ev.step (j := 155) (s' := ([some (.ref 69), some (.int x1), some (.int z62), some (.int k65), some (.int k66)], [.int k66, .int z232, .ref 73, .int z231, .ref 69, .int z228, .ref 81], (0, 0), hp67)) rfl rfl ?_
                                refine bs_mul (4) rfl (Or.inl hz232) (by rw [hz232]; omega) (by rw [hz232]; omega) fun z233 hz233 => ?_
                                rw [hz232] at hz233
                                refine bs_lit (k := 1) rfl rfl fun z234 hz234 => ?_
                                first | (refine bs_add rfl (by omega) (by omega) fun z235 hz235 => ?_) | (refine bs_any rfl fun z235 => ?_)
                                have rz235 := n_range z235
                                refine bs_ld (g := 134) 0 159 (-2147483648, 2147483647) rfl Hhp67 (bs_R.uq Hhp67 (g := 134) rfl) (by decide) rfl (by decide) (by decide) rfl (by decide) (by omega) (by omega) fun z236 hz236 lz236 gz236 => ?_
                                dsimp only at lz236 gz236
                                refine Ev.step (j := 160) (s' := ([some (.ref 69), some (.int x1), some (.int z62), some (.int k65), some (.int k66)], [.ref 69, .int z236, .int z231, .ref 69, .int z228, .ref 81], (0, 0), hp67)) rfl rfl ?_
                                exact by
                                 refine bs_getU (g := 11) (g1 := 134) rfl rfl Hhp67 (bs_R.uq Hhp67 (g := 11) rfl) (by decide) rfl rfl ?_
                                 refine bs_lit (k := 4) rfl rfl fun z237 hz237 => ?_
                                 refine Ev.step (j := 166) (s' := ([some (.ref 69), some (.int x1), some (.int z62), some (.int k65), some (.int k66)], [.int k66, .int z237, .ref 73, .int z236, .int z231, .ref 69, .int z228, .ref 81], (0, 0), hp67)) rfl rfl ?_
                                 refine bs_mul (4) rfl (Or.inl hz237) (by rw [hz237]; omega) (by rw [hz237]; omega) fun z238 hz238 => ?_
                                 rw [hz237] at hz238
                                 refine bs_lit (k := 2) rfl rfl fun z239 hz239 => ?_
                                 first | (refine bs_add rfl (by omega) (by omega) fun z240 hz240 => ?_) | (refine bs_any rfl fun z240 => ?_)
                                 have rz240 := n_range z240
                                 refine bs_ld (g := 134) 0 159 (-2147483648, 2147483647) rfl Hhp67 (bs_R.uq Hhp67 (g := 134) rfl) (by decide) rfl (by decide) (by decide) rfl (by decide) (by omega) (by omega) fun z241 hz241 lz241 gz241 => ?_
                                 dsimp only at lz241 gz241
                                 refine Ev.step (j := 171) (s' := ([some (.ref 69), some (.int x1), some (.int z62), some (.int k65), some (.int k66)], [.ref 69, .int z241, .int z236, .int z231, .ref 69, .int z228, .ref 81], (0, 0), hp67)) rfl rfl ?_
                                 exact by
                                  refine bs_getU (g := 11) (g1 := 134) rfl rfl Hhp67 (bs_R.uq Hhp67 (g := 11) rfl) (by decide) rfl rfl ?_
                                  refine bs_lit (k := 4) rfl rfl fun z242 hz242 => ?_
                                  refine Ev.step (j := 177) (s' := ([some (.ref 69), some (.int x1), some (.int z62), some (.int k65), some (.int k66)], [.int k66, .int z242, .ref 73, .int z241, .int z236, .int z231, .ref 69, .int z228, .ref 81], (0, 0), hp67)) rfl rfl ?_
                                  refine bs_mul (4) rfl (Or.inl hz242) (by rw [hz242]; omega) (by rw [hz242]; omega) fun z243 hz243 => ?_
                                  rw [hz242] at hz243
                                  refine bs_lit (k := 3) rfl rfl fun z244 hz244 => ?_
                                  first | (refine bs_add rfl (by omega) (by omega) fun z245 hz245 => ?_) | (refine bs_any rfl fun z245 => ?_)
                                  have rz245 := n_range z245
                                  refine bs_ld (g := 134) 0 159 (-2147483648, 2147483647) rfl Hhp67 (bs_R.uq Hhp67 (g := 134) rfl) (by decide) rfl (by decide) (by decide) rfl (by decide) (by omega) (by omega) fun z246 hz246 lz246 gz246 => ?_
                                  dsimp only at lz246 gz246
                                  have L1 := i73 k66.toInt.toNat (by omega) _ (bs_at hz231 (show z230.toInt.toNat = 4 * k66.toInt.toNat by omega))
                                  have L1a := L1.1
                                  have L1b := L1.2.1
                                  have L2 := L1.2.2.1 _ (bs_at hz236 (show z235.toInt.toNat = 4 * k66.toInt.toNat + 1 by omega))
                                  have L3 := L1.2.2.2.1 _ (bs_at hz241 (show z240.toInt.toNat = 4 * k66.toInt.toNat + 2 by omega))
                                  have L4 := L1.2.2.2.2 _ (bs_at hz246 (show z245.toInt.toNat = 4 * k66.toInt.toNat + 3 by omega))
                                  clear L1
                                  rcases (show (0 ≤ z231.toInt ∧ z231.toInt ≤ 2) ∨ (z231.toInt = 3) ∨ (z231.toInt = 4) by omega) with c247 | c247 | c247
                                  · skip
                                    refine bs_call (K := kq_X11_does_a) [.ref 69, .int z231, .int z236, .int z241, .int z246] [.int z228, .ref 81] rfl ct_X11_does_a Hhp67 rfl rfl rfl (bs_rcv (g := 11) Hhp67 (bs_R.uq Hhp67 (g := 11) rfl) (by decide) rfl) rfl ?_ (sf_S_cons (sf_s1 (x := z231.toInt) rfl (by omega) (by omega)) (sf_S_cons (sf_s1 (x := z236.toInt) rfl (by omega) (by omega)) (sf_S_cons (sf_s1 (x := z241.toInt) rfl (by omega) (by omega)) (sf_S_cons (sf_s1 (x := z246.toInt) rfl (by omega) (by omega)) (sf_S_nil))))) fun r248 hp249 thp249 Hhp249 fhp249 ahp249 php249 => ?_
                                    · intro q k h
                                      match q, h with
                                      | 0, h => cases h; exact bs_jR (bs_R.uq Hhp67 (g := 11) rfl)
                                      | 1, h => cases h; exact sf_j0
                                      | 2, h => cases h; exact sf_j0
                                      | 3, h => cases h; exact sf_j0
                                      | 4, h => cases h; exact sf_j0
                                      | q + 5, h => cases h
                                    obtain ⟨z250, rfl⟩ := bs_anI ahp249
                                    have rgz250 := n_range z250
                                    have Fhp249 := sf_fr_tr Fhp67 (sf_fr_wider (W := [(11, 0, 0), (11, 2, 5), (11, 11, 18), (11, 22, 22), (11, 25, 25), (11, 30, 30), (11, 32, 32), (132, 120, 252), (134, 0, 159), (138, 0, 1063), (139, 0, 132), (142, 0, 3), (999, 0, 0)]) rfl fhp249)
                                    have h251 : sf_rd hp249 69 2 = some y14 := (fhp249.2.2.1 _ (bs_R.uq Hhp67 (g := 11) (p := 69) rfl).1 _ (by rw [(bs_R.uq Hhp67 (g := 11) (p := 69) rfl).2]; rfl)).trans i70
                                    have h252 : sf_rd hp249 69 30 = some d0 := (fhp249.2.2.1 _ (bs_R.uq Hhp67 (g := 11) (p := 69) rfl).1 _ (by rw [(bs_R.uq Hhp67 (g := 11) (p := 69) rfl).2]; rfl)).trans i71
                                    have h253 : sf_rd hp249 73 z230.toInt.toNat = some z231.toInt := (fhp249.2.2.1 _ (bs_R.uq Hhp67 (g := 134) (p := 73) rfl).1 _ (by rw [(bs_R.uq Hhp67 (g := 134) (p := 73) rfl).2]; rfl)).trans hz231
                                    have h254 : sf_rd hp249 73 z235.toInt.toNat = some z236.toInt := (fhp249.2.2.1 _ (bs_R.uq Hhp67 (g := 134) (p := 73) rfl).1 _ (by rw [(bs_R.uq Hhp67 (g := 134) (p := 73) rfl).2]; rfl)).trans hz236
                                    have h255 : sf_rd hp249 73 z240.toInt.toNat = some z241.toInt := (fhp249.2.2.1 _ (bs_R.uq Hhp67 (g := 134) (p := 73) rfl).1 _ (by rw [(bs_R.uq Hhp67 (g := 134) (p := 73) rfl).2]; rfl)).trans hz241
                                    have h256 : sf_rd hp249 73 z245.toInt.toNat = some z246.toInt := (fhp249.2.2.1 _ (bs_R.uq Hhp67 (g := 134) (p := 73) rfl).1 _ (by rw [(bs_R.uq Hhp67 (g := 134) (p := 73) rfl).2]; rfl)).trans hz246
                                    refine (show Ev _ 184 ([some (.ref 69), some (.int x1), some (.int z62), some (.int k65), some (.int k66)], [.int z250, .int z228, .ref 81], (0, 0), hp249) _ from ?_)
                                    exact by
                                     refine bs_st (W := [(142, 0, 3)]) (g := 142) 0 3 (-2147483648, 2147483647) rfl Hhp249 (bs_R.uq Hhp249 (g := 142) rfl) (by decide) rfl rfl (by decide) rfl rfl (by omega) (by omega) (by dsimp only; omega) (by dsimp only; omega) fun hp257 Hhp257 fhp257 rhp257 ehp257 qhp257 nhp257 => ?_
                                     replace rhp257 := bs_at rhp257 (show z228.toInt.toNat = 0 by omega)
                                     have Fhp257 := sf_fr_tr Fhp249 (sf_fr_wider (W := [(11, 0, 0), (11, 2, 5), (11, 11, 18), (11, 22, 22), (11, 25, 25), (11, 30, 30), (11, 32, 32), (132, 120, 252), (134, 0, 159), (138, 0, 1063), (139, 0, 132), (142, 0, 3), (999, 0, 0)]) rfl fhp257)
                                     have h258 : sf_rd hp257 69 2 = some y14 := (ehp257 _ _ (Or.inl (by decide))).trans h251
                                     have h259 : sf_rd hp257 69 30 = some d0 := (ehp257 _ _ (Or.inl (by decide))).trans h252
                                     have h260 : sf_rd hp257 73 z230.toInt.toNat = some z231.toInt := (ehp257 _ _ (Or.inl (by decide))).trans h253
                                     have h261 : sf_rd hp257 73 z235.toInt.toNat = some z236.toInt := (ehp257 _ _ (Or.inl (by decide))).trans h254
                                     have h262 : sf_rd hp257 73 z240.toInt.toNat = some z241.toInt := (ehp257 _ _ (Or.inl (by decide))).trans h255
                                     have h263 : sf_rd hp257 73 z245.toInt.toNat = some z246.toInt := (ehp257 _ _ (Or.inl (by decide))).trans h256
                                     refine Ev.step (j := 186) (s' := ([some (.ref 69), some (.int x1), some (.int z62), some (.int k65), some (.int k66)], [.ref 69], (0, 0), hp257)) rfl rfl ?_
                                     exact by
                                      refine bs_getU (g := 11) (g1 := 142) rfl rfl Hhp257 (bs_R.uq Hhp257 (g := 11) rfl) (by decide) rfl rfl ?_
                                      refine bs_lit (k := 0) rfl rfl fun z264 hz264 => ?_
                                      refine bs_ld (g := 142) 0 3 (-2147483648, 2147483647) rfl Hhp257 (bs_R.uq Hhp257 (g := 142) rfl) (by decide) rfl (by decide) (by decide) rfl (by decide) (by omega) (by omega) fun z265 hz265 lz265 gz265 => ?_
                                      dsimp only at lz265 gz265
                                      replace hz265 := bs_at hz265 (show z264.toInt.toNat = 0 by omega)
                                      have e266 : z265.toInt = z250.toInt := Option.some.inj (hz265.symm.trans rhp257)
                                      refine bs_ifle rfl (fun c267 => ?_) (fun c267 => ?_)
                                      · skip
                                        refine Ev.step (j := 201) (s' := ([some (.ref 69), some (.int x1), some (.int z62), some (.int k65), some (.int k66)], [.ref 69], (0, 0), hp257)) rfl rfl ?_
                                        refine bs_getU (g := 11) (g1 := 142) rfl rfl Hhp257 (bs_R.uq Hhp257 (g := 11) rfl) (by decide) rfl rfl ?_
                                        exact by
                                         refine bs_lit (k := 1) rfl rfl fun z268 hz268 => ?_
                                         refine Ev.step (j := 206) (s' := ([some (.ref 69), some (.int x1), some (.int z62), some (.int k65), some (.int k66)], [.int z268, .ref 81, .int z268, .ref 81], (0, 0), hp257)) rfl rfl ?_
                                         refine bs_ld (g := 142) 0 3 (-2147483648, 2147483647) rfl Hhp257 (bs_R.uq Hhp257 (g := 142) rfl) (by decide) rfl (by decide) (by decide) rfl (by decide) (by omega) (by omega) fun z269 hz269 lz269 gz269 => ?_
                                         dsimp only at lz269 gz269
                                         replace hz269 := bs_at hz269 (show z268.toInt.toNat = 1 by omega)
                                         refine bs_lit (k := 1) rfl rfl fun z270 hz270 => ?_
                                         first | (refine bs_add rfl (by omega) (by omega) fun z271 hz271 => ?_) | (refine bs_any rfl fun z271 => ?_)
                                         have rz271 := n_range z271
                                         refine bs_st (W := [(142, 0, 3)]) (g := 142) 0 3 (-2147483648, 2147483647) rfl Hhp257 (bs_R.uq Hhp257 (g := 142) rfl) (by decide) rfl rfl (by decide) rfl rfl (by omega) (by omega) (by dsimp only; omega) (by dsimp only; omega) fun hp272 Hhp272 fhp272 rhp272 ehp272 qhp272 nhp272 => ?_
                                         replace rhp272 := bs_at rhp272 (show z268.toInt.toNat = 1 by omega)
                                         have Fhp272 := sf_fr_tr Fhp257 (sf_fr_wider (W := [(11, 0, 0), (11, 2, 5), (11, 11, 18), (11, 22, 22), (11, 25, 25), (11, 30, 30), (11, 32, 32), (132, 120, 252), (134, 0, 159), (138, 0, 1063), (139, 0, 132), (142, 0, 3), (999, 0, 0)]) rfl fhp272)
                                         have h273 : sf_rd hp272 69 2 = some y14 := (ehp272 _ _ (Or.inl (by decide))).trans h258
                                         have h274 : sf_rd hp272 69 30 = some d0 := (ehp272 _ _ (Or.inl (by decide))).trans h259
                                         have h275 : sf_rd hp272 73 z230.toInt.toNat = some z231.toInt := (ehp272 _ _ (Or.inl (by decide))).trans h260
                                         have h276 : sf_rd hp272 73 z235.toInt.toNat = some z236.toInt := (ehp272 _ _ (Or.inl (by decide))).trans h261
                                         have h277 : sf_rd hp272 73 z240.toInt.toNat = some z241.toInt := (ehp272 _ _ (Or.inl (by decide))).trans h262
                                         have h278 : sf_rd hp272 73 z245.toInt.toNat = some z246.toInt := (ehp272 _ _ (Or.inl (by decide))).trans h263
                                         have h279 : sf_rd hp272 81 0 = some z250.toInt := (ehp272 _ _ (Or.inr (by omega))).trans rhp257
                                         refine bs_iinc (1) rfl rfl rfl rfl (by omega) (by omega) fun z280 hz280 => ?_
                                         exact by
                                          refine (show Ev _ 213 ([some (.ref 69), some (.int x1), some (.int z62), some (.int k65), some (.int z280)], [], (0, 0), hp272) _ from ?_)
                                          refine Ev.step (j := 120) (s' := ([some (.ref 69), some (.int x1), some (.int z62), some (.int k65), some (.int z280)], [], (0, 0), hp272)) rfl rfl ?_
                                          have LGA : ∀ j : Nat, (j : Int) < d0 → lg_ok hp272 j := fun j hj => lg_same (i73 j hj) (fun q _ _ => ((ehp272 _ _ (Or.inl (by decide))).trans ((ehp257 _ _ (Or.inl (by decide))).trans (fhp249.2.2.1 _ (bs_R.uq Hhp67 (g := 134) (p := 73) rfl).1 _ (by rw [(bs_R.uq Hhp67 (g := 134) (p := 73) rfl).2]; rfl)))))
                                          refine ih69 (k65, z280, hp272, thp249) ⟨Hhp272, Fhp272, h273, h274, (by first | omega | assumption), (by exact LGA)⟩ ?_
                                          show (40 - z280.toInt).toNat < (40 - k66.toInt).toNat
                                          omega
                                      · skip
                                        refine Ev.step (j := 196) (s' := ([some (.ref 69), some (.int x1), some (.int z62), some (.int k65), some (.int k66)], [.int k66], (0, 0), hp257)) rfl rfl ?_
                                        exact by
                                         refine Ev.step (j := 197) (s' := ([some (.ref 69), some (.int x1), some (.int z62), some (.int k66), some (.int k66)], [], (0, 0), hp257)) rfl rfl ?_
                                         refine Ev.step (j := 210) (s' := ([some (.ref 69), some (.int x1), some (.int z62), some (.int k66), some (.int k66)], [], (0, 0), hp257)) rfl rfl ?_
                                         refine bs_iinc (1) rfl rfl rfl rfl (by omega) (by omega) fun z281 hz281 => ?_
                                         refine (show Ev _ 213 ([some (.ref 69), some (.int x1), some (.int z62), some (.int k66), some (.int z281)], [], (0, 0), hp257) _ from ?_)
                                         refine Ev.step (j := 120) (s' := ([some (.ref 69), some (.int x1), some (.int z62), some (.int k66), some (.int z281)], [], (0, 0), hp257)) rfl rfl ?_
                                         have LGA : ∀ j : Nat, (j : Int) < d0 → lg_ok hp257 j := fun j hj => lg_same (i73 j hj) (fun q _ _ => ((ehp257 _ _ (Or.inl (by decide))).trans (fhp249.2.2.1 _ (bs_R.uq Hhp67 (g := 134) (p := 73) rfl).1 _ (by rw [(bs_R.uq Hhp67 (g := 134) (p := 73) rfl).2]; rfl))))
                                         refine ih69 (k66, z281, hp257, thp249) ⟨Hhp257, Fhp257, h258, h259, (by first | omega | assumption), (by exact LGA)⟩ ?_
                                         show (40 - z281.toInt).toNat < (40 - k66.toInt).toNat
                                         omega
                                  · skip
                                    refine bs_call (K := kq_X11_does_b) [.ref 69, .int z231, .int z236, .int z241, .int z246] [.int z228, .ref 81] rfl ct_X11_does_b Hhp67 rfl rfl rfl (bs_rcv (g := 11) Hhp67 (bs_R.uq Hhp67 (g := 11) rfl) (by decide) rfl) rfl ?_ (sf_S_cons (sf_s1 (x := z231.toInt) rfl (by omega) (by omega)) (sf_S_cons (sf_s1 (x := z236.toInt) rfl (by omega) (by omega)) (sf_S_nil))) fun r282 hp283 thp283 Hhp283 fhp283 ahp283 php283 => ?_
                                    · intro q k h
                                      match q, h with
                                      | 0, h => cases h; exact bs_jR (bs_R.uq Hhp67 (g := 11) rfl)
                                      | 1, h => cases h; exact sf_j0
                                      | 2, h => cases h; exact sf_j0
                                      | 3, h => cases h; exact sf_j0
                                      | 4, h => cases h; exact sf_j0
                                      | q + 5, h => cases h
                                    obtain ⟨z284, rfl⟩ := bs_anI ahp283
                                    have rgz284 := n_range z284
                                    have Fhp283 := sf_fr_tr Fhp67 (sf_fr_wider (W := [(11, 0, 0), (11, 2, 5), (11, 11, 18), (11, 22, 22), (11, 25, 25), (11, 30, 30), (11, 32, 32), (132, 120, 252), (134, 0, 159), (138, 0, 1063), (139, 0, 132), (142, 0, 3), (999, 0, 0)]) rfl fhp283)
                                    have h285 : sf_rd hp283 69 2 = some y14 := (fhp283.2.2.1 _ (bs_R.uq Hhp67 (g := 11) (p := 69) rfl).1 _ (by rw [(bs_R.uq Hhp67 (g := 11) (p := 69) rfl).2]; rfl)).trans i70
                                    have h286 : sf_rd hp283 69 30 = some d0 := (fhp283.2.2.1 _ (bs_R.uq Hhp67 (g := 11) (p := 69) rfl).1 _ (by rw [(bs_R.uq Hhp67 (g := 11) (p := 69) rfl).2]; rfl)).trans i71
                                    have h287 : sf_rd hp283 73 z230.toInt.toNat = some z231.toInt := (fhp283.2.2.1 _ (bs_R.uq Hhp67 (g := 134) (p := 73) rfl).1 _ (by rw [(bs_R.uq Hhp67 (g := 134) (p := 73) rfl).2]; rfl)).trans hz231
                                    have h288 : sf_rd hp283 73 z235.toInt.toNat = some z236.toInt := (fhp283.2.2.1 _ (bs_R.uq Hhp67 (g := 134) (p := 73) rfl).1 _ (by rw [(bs_R.uq Hhp67 (g := 134) (p := 73) rfl).2]; rfl)).trans hz236
                                    have h289 : sf_rd hp283 73 z240.toInt.toNat = some z241.toInt := (fhp283.2.2.1 _ (bs_R.uq Hhp67 (g := 134) (p := 73) rfl).1 _ (by rw [(bs_R.uq Hhp67 (g := 134) (p := 73) rfl).2]; rfl)).trans hz241
                                    have h290 : sf_rd hp283 73 z245.toInt.toNat = some z246.toInt := (fhp283.2.2.1 _ (bs_R.uq Hhp67 (g := 134) (p := 73) rfl).1 _ (by rw [(bs_R.uq Hhp67 (g := 134) (p := 73) rfl).2]; rfl)).trans hz246
                                    refine (show Ev _ 184 ([some (.ref 69), some (.int x1), some (.int z62), some (.int k65), some (.int k66)], [.int z284, .int z228, .ref 81], (0, 0), hp283) _ from ?_)
                                    exact by
                                     refine bs_st (W := [(142, 0, 3)]) (g := 142) 0 3 (-2147483648, 2147483647) rfl Hhp283 (bs_R.uq Hhp283 (g := 142) rfl) (by decide) rfl rfl (by decide) rfl rfl (by omega) (by omega) (by dsimp only; omega) (by dsimp only; omega) fun hp291 Hhp291 fhp291 rhp291 ehp291 qhp291 nhp291 => ?_
                                     replace rhp291 := bs_at rhp291 (show z228.toInt.toNat = 0 by omega)
                                     have Fhp291 := sf_fr_tr Fhp283 (sf_fr_wider (W := [(11, 0, 0), (11, 2, 5), (11, 11, 18), (11, 22, 22), (11, 25, 25), (11, 30, 30), (11, 32, 32), (132, 120, 252), (134, 0, 159), (138, 0, 1063), (139, 0, 132), (142, 0, 3), (999, 0, 0)]) rfl fhp291)
                                     have h292 : sf_rd hp291 69 2 = some y14 := (ehp291 _ _ (Or.inl (by decide))).trans h285
                                     have h293 : sf_rd hp291 69 30 = some d0 := (ehp291 _ _ (Or.inl (by decide))).trans h286
                                     have h294 : sf_rd hp291 73 z230.toInt.toNat = some z231.toInt := (ehp291 _ _ (Or.inl (by decide))).trans h287
                                     have h295 : sf_rd hp291 73 z235.toInt.toNat = some z236.toInt := (ehp291 _ _ (Or.inl (by decide))).trans h288
                                     have h296 : sf_rd hp291 73 z240.toInt.toNat = some z241.toInt := (ehp291 _ _ (Or.inl (by decide))).trans h289
                                     have h297 : sf_rd hp291 73 z245.toInt.toNat = some z246.toInt := (ehp291 _ _ (Or.inl (by decide))).trans h290
                                     refine Ev.step (j := 186) (s' := ([some (.ref 69), some (.int x1), some (.int z62), some (.int k65), some (.int k66)], [.ref 69], (0, 0), hp291)) rfl rfl ?_
                                     exact by
                                      refine bs_getU (g := 11) (g1 := 142) rfl rfl Hhp291 (bs_R.uq Hhp291 (g := 11) rfl) (by decide) rfl rfl ?_
                                      refine bs_lit (k := 0) rfl rfl fun z298 hz298 => ?_
                                      refine bs_ld (g := 142) 0 3 (-2147483648, 2147483647) rfl Hhp291 (bs_R.uq Hhp291 (g := 142) rfl) (by decide) rfl (by decide) (by decide) rfl (by decide) (by omega) (by omega) fun z299 hz299 lz299 gz299 => ?_
                                      dsimp only at lz299 gz299
                                      replace hz299 := bs_at hz299 (show z298.toInt.toNat = 0 by omega)
                                      have e300 : z299.toInt = z284.toInt := Option.some.inj (hz299.symm.trans rhp291)
                                      refine bs_ifle rfl (fun c301 => ?_) (fun c301 => ?_)
                                      · skip
                                        refine Ev.step (j := 201) (s' := ([some (.ref 69), some (.int x1), some (.int z62), some (.int k65), some (.int k66)], [.ref 69], (0, 0), hp291)) rfl rfl ?_
                                        refine bs_getU (g := 11) (g1 := 142) rfl rfl Hhp291 (bs_R.uq Hhp291 (g := 11) rfl) (by decide) rfl rfl ?_
                                        exact by
                                         refine bs_lit (k := 1) rfl rfl fun z302 hz302 => ?_
                                         refine Ev.step (j := 206) (s' := ([some (.ref 69), some (.int x1), some (.int z62), some (.int k65), some (.int k66)], [.int z302, .ref 81, .int z302, .ref 81], (0, 0), hp291)) rfl rfl ?_
                                         refine bs_ld (g := 142) 0 3 (-2147483648, 2147483647) rfl Hhp291 (bs_R.uq Hhp291 (g := 142) rfl) (by decide) rfl (by decide) (by decide) rfl (by decide) (by omega) (by omega) fun z303 hz303 lz303 gz303 => ?_
                                         dsimp only at lz303 gz303
                                         replace hz303 := bs_at hz303 (show z302.toInt.toNat = 1 by omega)
                                         refine bs_lit (k := 1) rfl rfl fun z304 hz304 => ?_
                                         first | (refine bs_add rfl (by omega) (by omega) fun z305 hz305 => ?_) | (refine bs_any rfl fun z305 => ?_)
                                         have rz305 := n_range z305
                                         refine bs_st (W := [(142, 0, 3)]) (g := 142) 0 3 (-2147483648, 2147483647) rfl Hhp291 (bs_R.uq Hhp291 (g := 142) rfl) (by decide) rfl rfl (by decide) rfl rfl (by omega) (by omega) (by dsimp only; omega) (by dsimp only; omega) fun hp306 Hhp306 fhp306 rhp306 ehp306 qhp306 nhp306 => ?_
                                         replace rhp306 := bs_at rhp306 (show z302.toInt.toNat = 1 by omega)
                                         have Fhp306 := sf_fr_tr Fhp291 (sf_fr_wider (W := [(11, 0, 0), (11, 2, 5), (11, 11, 18), (11, 22, 22), (11, 25, 25), (11, 30, 30), (11, 32, 32), (132, 120, 252), (134, 0, 159), (138, 0, 1063), (139, 0, 132), (142, 0, 3), (999, 0, 0)]) rfl fhp306)
                                         have h307 : sf_rd hp306 69 2 = some y14 := (ehp306 _ _ (Or.inl (by decide))).trans h292
                                         have h308 : sf_rd hp306 69 30 = some d0 := (ehp306 _ _ (Or.inl (by decide))).trans h293
                                         have h309 : sf_rd hp306 73 z230.toInt.toNat = some z231.toInt := (ehp306 _ _ (Or.inl (by decide))).trans h294
                                         have h310 : sf_rd hp306 73 z235.toInt.toNat = some z236.toInt := (ehp306 _ _ (Or.inl (by decide))).trans h295
                                         have h311 : sf_rd hp306 73 z240.toInt.toNat = some z241.toInt := (ehp306 _ _ (Or.inl (by decide))).trans h296
                                         have h312 : sf_rd hp306 73 z245.toInt.toNat = some z246.toInt := (ehp306 _ _ (Or.inl (by decide))).trans h297
                                         have h313 : sf_rd hp306 81 0 = some z284.toInt := (ehp306 _ _ (Or.inr (by omega))).trans rhp291
                                         refine bs_iinc (1) rfl rfl rfl rfl (by omega) (by omega) fun z314 hz314 => ?_
                                         exact by
                                          refine (show Ev _ 213 ([some (.ref 69), some (.int x1), some (.int z62), some (.int k65), some (.int z314)], [], (0, 0), hp306) _ from ?_)
                                          refine Ev.step (j := 120) (s' := ([some (.ref 69), some (.int x1), some (.int z62), some (.int k65), some (.int z314)], [], (0, 0), hp306)) rfl rfl ?_
                                          have LGA : ∀ j : Nat, (j : Int) < d0 → lg_ok hp306 j := fun j hj => lg_same (i73 j hj) (fun q _ _ => ((ehp306 _ _ (Or.inl (by decide))).trans ((ehp291 _ _ (Or.inl (by decide))).trans (fhp283.2.2.1 _ (bs_R.uq Hhp67 (g := 134) (p := 73) rfl).1 _ (by rw [(bs_R.uq Hhp67 (g := 134) (p := 73) rfl).2]; rfl)))))
                                          refine ih69 (k65, z314, hp306, thp283) ⟨Hhp306, Fhp306, h307, h308, (by first | omega | assumption), (by exact LGA)⟩ ?_
                                          show (40 - z314.toInt).toNat < (40 - k66.toInt).toNat
                                          omega
                                      · skip
                                        refine Ev.step (j := 196) (s' := ([some (.ref 69), some (.int x1), some (.int z62), some (.int k65), some (.int k66)], [.int k66], (0, 0), hp291)) rfl rfl ?_
                                        exact by
                                         refine Ev.step (j := 197) (s' := ([some (.ref 69), some (.int x1), some (.int z62), some (.int k66), some (.int k66)], [], (0, 0), hp291)) rfl rfl ?_
                                         refine Ev.step (j := 210) (s' := ([some (.ref 69), some (.int x1), some (.int z62), some (.int k66), some (.int k66)], [], (0, 0), hp291)) rfl rfl ?_
                                         refine bs_iinc (1) rfl rfl rfl rfl (by omega) (by omega) fun z315 hz315 => ?_
                                         refine (show Ev _ 213 ([some (.ref 69), some (.int x1), some (.int z62), some (.int k66), some (.int z315)], [], (0, 0), hp291) _ from ?_)
                                         refine Ev.step (j := 120) (s' := ([some (.ref 69), some (.int x1), some (.int z62), some (.int k66), some (.int z315)], [], (0, 0), hp291)) rfl rfl ?_
                                         have LGA : ∀ j : Nat, (j : Int) < d0 → lg_ok hp291 j := fun j hj => lg_same (i73 j hj) (fun q _ _ => ((ehp291 _ _ (Or.inl (by decide))).trans (fhp283.2.2.1 _ (bs_R.uq Hhp67 (g := 134) (p := 73) rfl).1 _ (by rw [(bs_R.uq Hhp67 (g := 134) (p := 73) rfl).2]; rfl))))
                                         refine ih69 (k66, z315, hp291, thp283) ⟨Hhp291, Fhp291, h292, h293, (by first | omega | assumption), (by exact LGA)⟩ ?_
                                         show (40 - z315.toInt).toNat < (40 - k66.toInt).toNat
                                         omega
                                  · skip
                                    refine bs_call (K := kq_X11_does_c) [.ref 69, .int z231, .int z236, .int z241, .int z246] [.int z228, .ref 81] rfl ct_X11_does_c Hhp67 rfl rfl rfl (bs_rcv (g := 11) Hhp67 (bs_R.uq Hhp67 (g := 11) rfl) (by decide) rfl) rfl ?_ (sf_S_cons (sf_s1 (x := z231.toInt) rfl (by omega) (by omega)) (sf_S_cons (sf_s1 (x := z236.toInt) rfl (by omega) (by omega)) (sf_S_nil))) fun r316 hp317 thp317 Hhp317 fhp317 ahp317 php317 => ?_
                                    · intro q k h
                                      match q, h with
                                      | 0, h => cases h; exact bs_jR (bs_R.uq Hhp67 (g := 11) rfl)
                                      | 1, h => cases h; exact sf_j0
                                      | 2, h => cases h; exact sf_j0
                                      | 3, h => cases h; exact sf_j0
                                      | 4, h => cases h; exact sf_j0
                                      | q + 5, h => cases h
                                    obtain ⟨z318, rfl⟩ := bs_anI ahp317
                                    have rgz318 := n_range z318
                                    have Fhp317 := sf_fr_tr Fhp67 (sf_fr_wider (W := [(11, 0, 0), (11, 2, 5), (11, 11, 18), (11, 22, 22), (11, 25, 25), (11, 30, 30), (11, 32, 32), (132, 120, 252), (134, 0, 159), (138, 0, 1063), (139, 0, 132), (142, 0, 3), (999, 0, 0)]) rfl fhp317)
                                    have h319 : sf_rd hp317 69 2 = some y14 := (fhp317.2.2.1 _ (bs_R.uq Hhp67 (g := 11) (p := 69) rfl).1 _ (by rw [(bs_R.uq Hhp67 (g := 11) (p := 69) rfl).2]; rfl)).trans i70
                                    have h320 : sf_rd hp317 69 30 = some d0 := (fhp317.2.2.1 _ (bs_R.uq Hhp67 (g := 11) (p := 69) rfl).1 _ (by rw [(bs_R.uq Hhp67 (g := 11) (p := 69) rfl).2]; rfl)).trans i71
                                    have h321 : sf_rd hp317 73 z230.toInt.toNat = some z231.toInt := (fhp317.2.2.1 _ (bs_R.uq Hhp67 (g := 134) (p := 73) rfl).1 _ (by rw [(bs_R.uq Hhp67 (g := 134) (p := 73) rfl).2]; rfl)).trans hz231
                                    have h322 : sf_rd hp317 73 z235.toInt.toNat = some z236.toInt := (fhp317.2.2.1 _ (bs_R.uq Hhp67 (g := 134) (p := 73) rfl).1 _ (by rw [(bs_R.uq Hhp67 (g := 134) (p := 73) rfl).2]; rfl)).trans hz236
                                    have h323 : sf_rd hp317 73 z240.toInt.toNat = some z241.toInt := (fhp317.2.2.1 _ (bs_R.uq Hhp67 (g := 134) (p := 73) rfl).1 _ (by rw [(bs_R.uq Hhp67 (g := 134) (p := 73) rfl).2]; rfl)).trans hz241
                                    have h324 : sf_rd hp317 73 z245.toInt.toNat = some z246.toInt := (fhp317.2.2.1 _ (bs_R.uq Hhp67 (g := 134) (p := 73) rfl).1 _ (by rw [(bs_R.uq Hhp67 (g := 134) (p := 73) rfl).2]; rfl)).trans hz246
                                    refine (show Ev _ 184 ([some (.ref 69), some (.int x1), some (.int z62), some (.int k65), some (.int k66)], [.int z318, .int z228, .ref 81], (0, 0), hp317) _ from ?_)
                                    exact by
                                     refine bs_st (W := [(142, 0, 3)]) (g := 142) 0 3 (-2147483648, 2147483647) rfl Hhp317 (bs_R.uq Hhp317 (g := 142) rfl) (by decide) rfl rfl (by decide) rfl rfl (by omega) (by omega) (by dsimp only; omega) (by dsimp only; omega) fun hp325 Hhp325 fhp325 rhp325 ehp325 qhp325 nhp325 => ?_
                                     replace rhp325 := bs_at rhp325 (show z228.toInt.toNat = 0 by omega)
                                     have Fhp325 := sf_fr_tr Fhp317 (sf_fr_wider (W := [(11, 0, 0), (11, 2, 5), (11, 11, 18), (11, 22, 22), (11, 25, 25), (11, 30, 30), (11, 32, 32), (132, 120, 252), (134, 0, 159), (138, 0, 1063), (139, 0, 132), (142, 0, 3), (999, 0, 0)]) rfl fhp325)
                                     have h326 : sf_rd hp325 69 2 = some y14 := (ehp325 _ _ (Or.inl (by decide))).trans h319
                                     have h327 : sf_rd hp325 69 30 = some d0 := (ehp325 _ _ (Or.inl (by decide))).trans h320
                                     have h328 : sf_rd hp325 73 z230.toInt.toNat = some z231.toInt := (ehp325 _ _ (Or.inl (by decide))).trans h321
                                     have h329 : sf_rd hp325 73 z235.toInt.toNat = some z236.toInt := (ehp325 _ _ (Or.inl (by decide))).trans h322
                                     have h330 : sf_rd hp325 73 z240.toInt.toNat = some z241.toInt := (ehp325 _ _ (Or.inl (by decide))).trans h323
                                     have h331 : sf_rd hp325 73 z245.toInt.toNat = some z246.toInt := (ehp325 _ _ (Or.inl (by decide))).trans h324
                                     refine Ev.step (j := 186) (s' := ([some (.ref 69), some (.int x1), some (.int z62), some (.int k65), some (.int k66)], [.ref 69], (0, 0), hp325)) rfl rfl ?_
                                     exact by
                                      refine bs_getU (g := 11) (g1 := 142) rfl rfl Hhp325 (bs_R.uq Hhp325 (g := 11) rfl) (by decide) rfl rfl ?_
                                      refine bs_lit (k := 0) rfl rfl fun z332 hz332 => ?_
                                      refine bs_ld (g := 142) 0 3 (-2147483648, 2147483647) rfl Hhp325 (bs_R.uq Hhp325 (g := 142) rfl) (by decide) rfl (by decide) (by decide) rfl (by decide) (by omega) (by omega) fun z333 hz333 lz333 gz333 => ?_
                                      dsimp only at lz333 gz333
                                      replace hz333 := bs_at hz333 (show z332.toInt.toNat = 0 by omega)
                                      have e334 : z333.toInt = z318.toInt := Option.some.inj (hz333.symm.trans rhp325)
                                      refine bs_ifle rfl (fun c335 => ?_) (fun c335 => ?_)
                                      · skip
                                        refine Ev.step (j := 201) (s' := ([some (.ref 69), some (.int x1), some (.int z62), some (.int k65), some (.int k66)], [.ref 69], (0, 0), hp325)) rfl rfl ?_
                                        refine bs_getU (g := 11) (g1 := 142) rfl rfl Hhp325 (bs_R.uq Hhp325 (g := 11) rfl) (by decide) rfl rfl ?_
                                        exact by
                                         refine bs_lit (k := 1) rfl rfl fun z336 hz336 => ?_
                                         refine Ev.step (j := 206) (s' := ([some (.ref 69), some (.int x1), some (.int z62), some (.int k65), some (.int k66)], [.int z336, .ref 81, .int z336, .ref 81], (0, 0), hp325)) rfl rfl ?_
                                         refine bs_ld (g := 142) 0 3 (-2147483648, 2147483647) rfl Hhp325 (bs_R.uq Hhp325 (g := 142) rfl) (by decide) rfl (by decide) (by decide) rfl (by decide) (by omega) (by omega) fun z337 hz337 lz337 gz337 => ?_
                                         dsimp only at lz337 gz337
                                         replace hz337 := bs_at hz337 (show z336.toInt.toNat = 1 by omega)
                                         refine bs_lit (k := 1) rfl rfl fun z338 hz338 => ?_
                                         first | (refine bs_add rfl (by omega) (by omega) fun z339 hz339 => ?_) | (refine bs_any rfl fun z339 => ?_)
                                         have rz339 := n_range z339
                                         refine bs_st (W := [(142, 0, 3)]) (g := 142) 0 3 (-2147483648, 2147483647) rfl Hhp325 (bs_R.uq Hhp325 (g := 142) rfl) (by decide) rfl rfl (by decide) rfl rfl (by omega) (by omega) (by dsimp only; omega) (by dsimp only; omega) fun hp340 Hhp340 fhp340 rhp340 ehp340 qhp340 nhp340 => ?_
                                         replace rhp340 := bs_at rhp340 (show z336.toInt.toNat = 1 by omega)
                                         have Fhp340 := sf_fr_tr Fhp325 (sf_fr_wider (W := [(11, 0, 0), (11, 2, 5), (11, 11, 18), (11, 22, 22), (11, 25, 25), (11, 30, 30), (11, 32, 32), (132, 120, 252), (134, 0, 159), (138, 0, 1063), (139, 0, 132), (142, 0, 3), (999, 0, 0)]) rfl fhp340)
                                         have h341 : sf_rd hp340 69 2 = some y14 := (ehp340 _ _ (Or.inl (by decide))).trans h326
                                         have h342 : sf_rd hp340 69 30 = some d0 := (ehp340 _ _ (Or.inl (by decide))).trans h327
                                         have h343 : sf_rd hp340 73 z230.toInt.toNat = some z231.toInt := (ehp340 _ _ (Or.inl (by decide))).trans h328
                                         have h344 : sf_rd hp340 73 z235.toInt.toNat = some z236.toInt := (ehp340 _ _ (Or.inl (by decide))).trans h329
                                         have h345 : sf_rd hp340 73 z240.toInt.toNat = some z241.toInt := (ehp340 _ _ (Or.inl (by decide))).trans h330
                                         have h346 : sf_rd hp340 73 z245.toInt.toNat = some z246.toInt := (ehp340 _ _ (Or.inl (by decide))).trans h331
                                         have h347 : sf_rd hp340 81 0 = some z318.toInt := (ehp340 _ _ (Or.inr (by omega))).trans rhp325
                                         refine bs_iinc (1) rfl rfl rfl rfl (by omega) (by omega) fun z348 hz348 => ?_
                                         exact by
                                          refine (show Ev _ 213 ([some (.ref 69), some (.int x1), some (.int z62), some (.int k65), some (.int z348)], [], (0, 0), hp340) _ from ?_)
                                          refine Ev.step (j := 120) (s' := ([some (.ref 69), some (.int x1), some (.int z62), some (.int k65), some (.int z348)], [], (0, 0), hp340)) rfl rfl ?_
                                          have LGA : ∀ j : Nat, (j : Int) < d0 → lg_ok hp340 j := fun j hj => lg_same (i73 j hj) (fun q _ _ => ((ehp340 _ _ (Or.inl (by decide))).trans ((ehp325 _ _ (Or.inl (by decide))).trans (fhp317.2.2.1 _ (bs_R.uq Hhp67 (g := 134) (p := 73) rfl).1 _ (by rw [(bs_R.uq Hhp67 (g := 134) (p := 73) rfl).2]; rfl)))))
                                          refine ih69 (k65, z348, hp340, thp317) ⟨Hhp340, Fhp340, h341, h342, (by first | omega | assumption), (by exact LGA)⟩ ?_
                                          show (40 - z348.toInt).toNat < (40 - k66.toInt).toNat
                                          omega
                                      · skip
                                        refine Ev.step (j := 196) (s' := ([some (.ref 69), some (.int x1), some (.int z62), some (.int k65), some (.int k66)], [.int k66], (0, 0), hp325)) rfl rfl ?_
                                        exact by
                                         refine Ev.step (j := 197) (s' := ([some (.ref 69), some (.int x1), some (.int z62), some (.int k66), some (.int k66)], [], (0, 0), hp325)) rfl rfl ?_
                                         refine Ev.step (j := 210) (s' := ([some (.ref 69), some (.int x1), some (.int z62), some (.int k66), some (.int k66)], [], (0, 0), hp325)) rfl rfl ?_
                                         refine bs_iinc (1) rfl rfl rfl rfl (by omega) (by omega) fun z349 hz349 => ?_
                                         refine (show Ev _ 213 ([some (.ref 69), some (.int x1), some (.int z62), some (.int k66), some (.int z349)], [], (0, 0), hp325) _ from ?_)
                                         refine Ev.step (j := 120) (s' := ([some (.ref 69), some (.int x1), some (.int z62), some (.int k66), some (.int z349)], [], (0, 0), hp325)) rfl rfl ?_
                                         have LGA : ∀ j : Nat, (j : Int) < d0 → lg_ok hp325 j := fun j hj => lg_same (i73 j hj) (fun q _ _ => ((ehp325 _ _ (Or.inl (by decide))).trans (fhp317.2.2.1 _ (bs_R.uq Hhp67 (g := 134) (p := 73) rfl).1 _ (by rw [(bs_R.uq Hhp67 (g := 134) (p := 73) rfl).2]; rfl))))
                                         refine ih69 (k66, z349, hp325, thp317) ⟨Hhp325, Fhp325, h326, h327, (by first | omega | assumption), (by exact LGA)⟩ ?_
                                         show (40 - z349.toInt).toNat < (40 - k66.toInt).toNat
                                         omega
                     · skip
                       refine Ev.step (j := 95) (s' := ([some (.ref 69), some (.int x1), some (.int k51), none, none], [.ref 69], (0, 0), hp52)) rfl rfl ?_
                       exact by
                        refine bs_getU (g := 11) (g1 := 142) rfl rfl Hhp52 (bs_R.uq Hhp52 (g := 11) rfl) (by decide) rfl rfl ?_
                        refine Ev.step (j := 99) (s' := ([some (.ref 69), some (.int x1), some (.int k51), none, none], [.int k51, .ref 81], (0, 0), hp52)) rfl rfl ?_
                        refine bs_lit (k := 0) rfl rfl fun z350 hz350 => ?_
                        refine bs_st (W := [(142, 0, 3)]) (g := 142) 0 3 (-2147483648, 2147483647) rfl Hhp52 (bs_R.uq Hhp52 (g := 142) rfl) (by decide) rfl rfl (by decide) rfl rfl (by omega) (by omega) (by dsimp only; omega) (by dsimp only; omega) fun hp351 Hhp351 fhp351 rhp351 ehp351 qhp351 nhp351 => ?_
                        have Fhp351 := sf_fr_tr Fhp52 (sf_fr_wider (W := [(11, 0, 0), (11, 2, 5), (11, 11, 18), (11, 22, 22), (11, 25, 25), (11, 30, 30), (11, 32, 32), (132, 120, 252), (134, 0, 159), (138, 0, 1063), (139, 0, 132), (142, 0, 3), (999, 0, 0)]) rfl fhp351)
                        have h352 : sf_rd hp351 69 2 = some y14 := (ehp351 _ _ (Or.inl (by decide))).trans i55
                        have h353 : sf_rd hp351 69 30 = some d0 := (ehp351 _ _ (Or.inl (by decide))).trans i56
                        refine bs_iinc (1) rfl rfl rfl rfl (by omega) (by omega) fun z354 hz354 => ?_
                        exact by
                         refine (show Ev _ 104 ([some (.ref 69), some (.int x1), some (.int z354), none, none], [], (0, 0), hp351) _ from ?_)
                         refine Ev.step (j := 89) (s' := ([some (.ref 69), some (.int x1), some (.int z354), none, none], [], (0, 0), hp351)) rfl rfl ?_
                         have LGA : ∀ j : Nat, (j : Int) < d0 → lg_ok hp351 j := fun j hj => lg_same (i58 j hj) (fun q _ _ => (ehp351 _ _ (Or.inl (by decide))))
                         refine ih54 (z354, hp351, t53) ⟨Hhp351, Fhp351, h352, h353, (by first | omega | assumption), (by exact LGA)⟩ ?_
                         show (4 - z354.toInt).toNat < (4 - k51.toInt).toNat
                         omega
                 · skip
                   refine Ev.step (j := 47) (s' := ([some (.ref 69), some (.int x1), none, none, none], [.ref 69], (0, 0), hp37)) rfl rfl ?_
                   exact by
                    refine bs_callx (K := kq_X11_logLine_h) [.ref 69] [] rfl ce_X11_logLine_h Hhp37 rfl rfl rfl (bs_rcv (g := 11) Hhp37 (bs_R.uq Hhp37 (g := 11) rfl) (by decide) rfl) rfl ?_ (sf_S_nil) fun r355 hp356 thp356 Hhp356 fhp356 ahp356 php356 xhp356 => ?_
                    · intro q k h
                      match q, h with
                      | 0, h => cases h; exact bs_jR (bs_R.uq Hhp37 (g := 11) rfl)
                      | q + 1, h => cases h
                    obtain ⟨z357, rfl⟩ := bs_anI ahp356
                    have rgz357 := n_range z357
                    have Fhp356 := sf_fr_tr Fhp37 (sf_fr_wider (W := [(11, 0, 0), (11, 2, 5), (11, 11, 18), (11, 22, 22), (11, 25, 25), (11, 30, 30), (11, 32, 32), (132, 120, 252), (134, 0, 159), (138, 0, 1063), (139, 0, 132), (142, 0, 3), (999, 0, 0)]) rfl fhp356)
                    have h358 : sf_rd hp356 69 2 = some y14 := (fhp356.2.2.1 _ (bs_R.uq Hhp37 (g := 11) (p := 69) rfl).1 _ (by rw [(bs_R.uq Hhp37 (g := 11) (p := 69) rfl).2]; rfl)).trans i40
                    have h359 : sf_rd hp356 69 30 = some d0 := (fhp356.2.2.1 _ (bs_R.uq Hhp37 (g := 11) (p := 69) rfl).1 _ (by rw [(bs_R.uq Hhp37 (g := 11) (p := 69) rfl).2]; rfl)).trans hd0
                    obtain ⟨uz357, vz357⟩ := bs_s1 (x := z357.toInt) rfl (php356 _ (List.mem_of_getElem? (i := 0) rfl))
                    refine (show Ev _ 50 ([some (.ref 69), some (.int x1), none, none, none], [.int z357], (0, 0), hp356) _ from ?_)
                    exact by
                     refine bs_ifeq rfl (fun c360 => ?_) (fun c360 => ?_)
                     · skip
                       have c361 : z357.toInt = 0 := by omega
                       refine bs_lit (k := -2) rfl rfl fun z362 hz362 => ?_
                       refine Ev.step (j := 65) (s' := ([some (.ref 69), some (.int x1), none, none, none], [.ref 69, .int z362], (0, 0), hp356)) rfl rfl ?_
                       refine bs_getI 11 rfl rfl rfl Hhp356 (bs_R.uq Hhp356 (g := 11) rfl) (by decide) rfl fun z363 hz363 lz363 gz363 => ?_
                       first | (refine bs_sub rfl (by omega) (by omega) fun z364 hz364 => ?_) | (refine bs_any rfl fun z364 => ?_)
                       have rz364 := n_range z364
                       exact Ev.ret rfl rfl (by rw [hQ]; exact ⟨thp356, Hhp356, Fhp356, bs_an0, sf_S_cons (sf_s1 (x := y14) (show sf_v1 _ _ _ 36008 = _ from h358) (by omega) (by omega)) (sf_S_nil)⟩)
                     · skip
                       have ZL : z357 = 1 := Int32.toInt_inj.mp (show z357.toInt = 1 by omega)
                       obtain ⟨XL1, XL2, XL3⟩ := xhp356 (by rw [ZL]) _ hd0 (by omega)
                       refine Ev.step (j := 54) (s' := ([some (.ref 69), some (.int x1), none, none, none], [.ref 69], (0, 0), hp356)) rfl rfl ?_
                       exact by
                        refine bs_lit (k := 59) rfl rfl fun z365 hz365 => ?_
                        refine Ev.inl (L := (L_X11_sign Z_X11_isSign Z_X11_bad Z_X11_next)) (nL := 2) rfl (bs_rcv (g := 11) Hhp356 (bs_R.uq Hhp356 (g := 11) rfl) (by decide) rfl) rfl (Nat.le_of_ble_eq_true rfl) ?_
                        generalize hQ366 : (fun (o : ab_O) => Ev _ _ _ _) = Q366
                        refine (show Ev (ab_T (L_X11_sign Z_X11_isSign Z_X11_bad Z_X11_next)) 0 ([some (.ref 69), some (.int z365)], [], (0, 0), hp356) Q366 from ?_)
                        refine Ev.step (j := 1) (s' := ([some (.ref 69), some (.int z365)], [.ref 69], (0, 0), hp356)) rfl rfl ?_
                        refine Ev.step (j := 2) (s' := ([some (.ref 69), some (.int z365)], [.int z365, .ref 69], (0, 0), hp356)) rfl rfl ?_
                        refine Ev.inl (L := L_X11_isSign) (nL := 2) rfl (bs_rcv (g := 11) Hhp356 (bs_R.uq Hhp356 (g := 11) rfl) (by decide) rfl) rfl (Nat.le_of_ble_eq_true rfl) ?_
                        generalize hQ367 : (fun (o : ab_O) => Ev _ _ _ _) = Q367
                        refine (show Ev (ab_T L_X11_isSign) 0 ([some (.ref 69), some (.int z365)], [], (0, 0), hp356) Q367 from ?_)
                        refine Ev.step (j := 1) (s' := ([some (.ref 69), some (.int z365)], [.ref 69], (0, 0), hp356)) rfl rfl ?_
                        exact by
                         refine bs_getI 11 rfl rfl rfl Hhp356 (bs_R.uq Hhp356 (g := 11) rfl) (by decide) rfl fun z368 hz368 lz368 gz368 => ?_
                         refine bs_lit (k := 3) rfl rfl fun z369 hz369 => ?_
                         refine bs_ne rfl (fun c370 => ?_) (fun c370 => ?_)
                         · skip
                           refine bs_lit (k := 0) rfl rfl fun z371 hz371 => ?_
                           refine bs_zret rfl rfl (by omega) (by omega) ?_
                           rw [← hQ367]
                           refine (show Ev _ 5 ([some (.ref 69), some (.int z365)], [.int z371], (0, 0), hp356) _ from ?_)
                           refine bs_ifne rfl (fun c372 => ?_) (fun c372 => ?_)
                           · exfalso; omega
                           · skip
                             refine Ev.step (j := 9) (s' := ([some (.ref 69), some (.int z365)], [.ref 69], (0, 0), hp356)) rfl rfl ?_
                             exact by
                              refine bs_lit (k := 1) rfl rfl fun z373 hz373 => ?_
                              refine Ev.inl (L := L_X11_bad) (nL := 2) rfl (bs_rcv (g := 11) Hhp356 (bs_R.uq Hhp356 (g := 11) rfl) (by decide) rfl) rfl (Nat.le_of_ble_eq_true rfl) ?_
                              generalize hQ374 : (fun (o : ab_O) => Ev _ _ _ _) = Q374
                              refine (show Ev (ab_T L_X11_bad) 0 ([some (.ref 69), some (.int z373)], [], (0, 0), hp356) Q374 from ?_)
                              refine Ev.step (j := 1) (s' := ([some (.ref 69), some (.int z373)], [.ref 69], (0, 0), hp356)) rfl rfl ?_
                              refine Ev.step (j := 2) (s' := ([some (.ref 69), some (.int z373)], [.int z373, .ref 69], (0, 0), hp356)) rfl rfl ?_
                              refine bs_putI (W := [(11, 15, 15)]) (g := 11) rfl rfl Hhp356 (bs_R.uq Hhp356 (g := 11) rfl) (by decide) rfl rfl rfl rfl (Or.inl rfl) (by omega) (by omega) fun hp375 Hhp375 fhp375 rhp375 ehp375 qhp375 nhp375 => ?_
                              have Fhp375 := sf_fr_tr Fhp356 (sf_fr_wider (W := [(11, 0, 0), (11, 2, 5), (11, 11, 18), (11, 22, 22), (11, 25, 25), (11, 30, 30), (11, 32, 32), (132, 120, 252), (134, 0, 159), (138, 0, 1063), (139, 0, 132), (142, 0, 3), (999, 0, 0)]) rfl fhp375)
                              have h376 : sf_rd hp375 69 2 = some y14 := (ehp375 _ _ (Or.inr (by omega))).trans h358
                              have h377 : sf_rd hp375 69 30 = some d0 := (ehp375 _ _ (Or.inr (by omega))).trans h359
                              have h378 : sf_rd hp375 69 11 = some z368.toInt := (ehp375 _ _ (Or.inr (by omega))).trans hz368
                              refine Ev.step (j := 6) (s' := ([some (.ref 69), some (.int z373)], [.ref 69], (0, 0), hp375)) rfl rfl ?_
                              exact by
                               refine Ev.step (j := 7) (s' := ([some (.ref 69), some (.int z373)], [.ref 69, .ref 69], (0, 0), hp375)) rfl rfl ?_
                               refine bs_getI 11 rfl rfl rfl Hhp375 (bs_R.uq Hhp375 (g := 11) rfl) (by decide) rfl fun z379 hz379 lz379 gz379 => ?_
                               refine bs_putI (W := [(11, 16, 16)]) (g := 11) rfl rfl Hhp375 (bs_R.uq Hhp375 (g := 11) rfl) (by decide) rfl rfl rfl rfl (Or.inl rfl) (by omega) (by omega) fun hp380 Hhp380 fhp380 rhp380 ehp380 qhp380 nhp380 => ?_
                               have Fhp380 := sf_fr_tr Fhp375 (sf_fr_wider (W := [(11, 0, 0), (11, 2, 5), (11, 11, 18), (11, 22, 22), (11, 25, 25), (11, 30, 30), (11, 32, 32), (132, 120, 252), (134, 0, 159), (138, 0, 1063), (139, 0, 132), (142, 0, 3), (999, 0, 0)]) rfl fhp380)
                               have h381 : sf_rd hp380 69 2 = some y14 := (ehp380 _ _ (Or.inr (by omega))).trans h376
                               have h382 : sf_rd hp380 69 30 = some d0 := (ehp380 _ _ (Or.inr (by omega))).trans h377
                               have h383 : sf_rd hp380 69 11 = some z368.toInt := (ehp380 _ _ (Or.inr (by omega))).trans h378
                               have h384 : sf_rd hp380 69 15 = some z373.toInt := (ehp380 _ _ (Or.inr (by omega))).trans rhp375
                               have h385 : sf_rd hp380 69 12 = some z379.toInt := (ehp380 _ _ (Or.inr (by omega))).trans hz379
                               refine bs_lit (k := 0) rfl rfl fun z386 hz386 => ?_
                               exact by
                                refine bs_zret rfl rfl (by omega) (by omega) ?_
                                rw [← hQ374]
                                refine (show Ev _ 13 ([some (.ref 69), some (.int z365)], [.int z386], (0, 0), hp380) _ from ?_)
                                refine bs_zret rfl rfl (by omega) (by omega) ?_
                                rw [← hQ366]
                                refine (show Ev _ 59 ([some (.ref 69), some (.int x1), none, none, none], [.int z386], (0, 0), hp380) _ from ?_)
                                refine bs_ifne rfl (fun c387 => ?_) (fun c387 => ?_)
                                · exfalso; omega
                                · skip
                                  refine bs_lit (k := -2) rfl rfl fun z388 hz388 => ?_
                                  refine Ev.step (j := 65) (s' := ([some (.ref 69), some (.int x1), none, none, none], [.ref 69, .int z388], (0, 0), hp380)) rfl rfl ?_
                                  refine bs_getI 11 rfl rfl rfl Hhp380 (bs_R.uq Hhp380 (g := 11) rfl) (by decide) rfl fun z389 hz389 lz389 gz389 => ?_
                                  have e390 : z389.toInt = z379.toInt := Option.some.inj (hz389.symm.trans rhp380)
                                  first | (refine bs_sub rfl (by omega) (by omega) fun z391 hz391 => ?_) | (refine bs_any rfl fun z391 => ?_)
                                  have rz391 := n_range z391
                                  exact Ev.ret rfl rfl (by rw [hQ]; exact ⟨thp356, Hhp380, Fhp380, bs_an0, sf_S_cons (sf_s1 (x := y14) (show sf_v1 _ _ _ 36008 = _ from h381) (by omega) (by omega)) (sf_S_nil)⟩)
                         · skip
                           have c392 : z368.toInt = 3 := by omega
                           refine Ev.step (j := 9) (s' := ([some (.ref 69), some (.int z365)], [.ref 69], (0, 0), hp356)) rfl rfl ?_
                           exact by
                            refine bs_getI 11 rfl rfl rfl Hhp356 (bs_R.uq Hhp356 (g := 11) rfl) (by decide) rfl fun z393 hz393 lz393 gz393 => ?_
                            refine Ev.step (j := 13) (s' := ([some (.ref 69), some (.int z365)], [.int z365, .int z393], (0, 0), hp356)) rfl rfl ?_
                            refine bs_ne rfl (fun c394 => ?_) (fun c394 => ?_)
                            · skip
                              refine bs_lit (k := 0) rfl rfl fun z395 hz395 => ?_
                              refine bs_zret rfl rfl (by omega) (by omega) ?_
                              rw [← hQ367]
                              refine (show Ev _ 5 ([some (.ref 69), some (.int z365)], [.int z395], (0, 0), hp356) _ from ?_)
                              refine bs_ifne rfl (fun c396 => ?_) (fun c396 => ?_)
                              · exfalso; omega
                              · skip
                                refine Ev.step (j := 9) (s' := ([some (.ref 69), some (.int z365)], [.ref 69], (0, 0), hp356)) rfl rfl ?_
                                exact by
                                 refine bs_lit (k := 1) rfl rfl fun z397 hz397 => ?_
                                 refine Ev.inl (L := L_X11_bad) (nL := 2) rfl (bs_rcv (g := 11) Hhp356 (bs_R.uq Hhp356 (g := 11) rfl) (by decide) rfl) rfl (Nat.le_of_ble_eq_true rfl) ?_
                                 generalize hQ398 : (fun (o : ab_O) => Ev _ _ _ _) = Q398
                                 refine (show Ev (ab_T L_X11_bad) 0 ([some (.ref 69), some (.int z397)], [], (0, 0), hp356) Q398 from ?_)
                                 refine Ev.step (j := 1) (s' := ([some (.ref 69), some (.int z397)], [.ref 69], (0, 0), hp356)) rfl rfl ?_
                                 refine Ev.step (j := 2) (s' := ([some (.ref 69), some (.int z397)], [.int z397, .ref 69], (0, 0), hp356)) rfl rfl ?_
                                 refine bs_putI (W := [(11, 15, 15)]) (g := 11) rfl rfl Hhp356 (bs_R.uq Hhp356 (g := 11) rfl) (by decide) rfl rfl rfl rfl (Or.inl rfl) (by omega) (by omega) fun hp399 Hhp399 fhp399 rhp399 ehp399 qhp399 nhp399 => ?_
                                 have Fhp399 := sf_fr_tr Fhp356 (sf_fr_wider (W := [(11, 0, 0), (11, 2, 5), (11, 11, 18), (11, 22, 22), (11, 25, 25), (11, 30, 30), (11, 32, 32), (132, 120, 252), (134, 0, 159), (138, 0, 1063), (139, 0, 132), (142, 0, 3), (999, 0, 0)]) rfl fhp399)
                                 have h400 : sf_rd hp399 69 2 = some y14 := (ehp399 _ _ (Or.inr (by omega))).trans h358
                                 have h401 : sf_rd hp399 69 30 = some d0 := (ehp399 _ _ (Or.inr (by omega))).trans h359
                                 have h402 : sf_rd hp399 69 11 = some z368.toInt := (ehp399 _ _ (Or.inr (by omega))).trans hz368
                                 have h403 : sf_rd hp399 69 14 = some z393.toInt := (ehp399 _ _ (Or.inr (by omega))).trans hz393
                                 refine Ev.step (j := 6) (s' := ([some (.ref 69), some (.int z397)], [.ref 69], (0, 0), hp399)) rfl rfl ?_
                                 exact by
                                  refine Ev.step (j := 7) (s' := ([some (.ref 69), some (.int z397)], [.ref 69, .ref 69], (0, 0), hp399)) rfl rfl ?_
                                  refine bs_getI 11 rfl rfl rfl Hhp399 (bs_R.uq Hhp399 (g := 11) rfl) (by decide) rfl fun z404 hz404 lz404 gz404 => ?_
                                  refine bs_putI (W := [(11, 16, 16)]) (g := 11) rfl rfl Hhp399 (bs_R.uq Hhp399 (g := 11) rfl) (by decide) rfl rfl rfl rfl (Or.inl rfl) (by omega) (by omega) fun hp405 Hhp405 fhp405 rhp405 ehp405 qhp405 nhp405 => ?_
                                  have Fhp405 := sf_fr_tr Fhp399 (sf_fr_wider (W := [(11, 0, 0), (11, 2, 5), (11, 11, 18), (11, 22, 22), (11, 25, 25), (11, 30, 30), (11, 32, 32), (132, 120, 252), (134, 0, 159), (138, 0, 1063), (139, 0, 132), (142, 0, 3), (999, 0, 0)]) rfl fhp405)
                                  have h406 : sf_rd hp405 69 2 = some y14 := (ehp405 _ _ (Or.inr (by omega))).trans h400
                                  have h407 : sf_rd hp405 69 30 = some d0 := (ehp405 _ _ (Or.inr (by omega))).trans h401
                                  have h408 : sf_rd hp405 69 11 = some z368.toInt := (ehp405 _ _ (Or.inr (by omega))).trans h402
                                  have h409 : sf_rd hp405 69 14 = some z393.toInt := (ehp405 _ _ (Or.inr (by omega))).trans h403
                                  have h410 : sf_rd hp405 69 15 = some z397.toInt := (ehp405 _ _ (Or.inr (by omega))).trans rhp399
                                  have h411 : sf_rd hp405 69 12 = some z404.toInt := (ehp405 _ _ (Or.inr (by omega))).trans hz404
                                  refine bs_lit (k := 0) rfl rfl fun z412 hz412 => ?_
                                  exact by
                                   refine bs_zret rfl rfl (by omega) (by omega) ?_
                                   rw [← hQ398]
                                   refine (show Ev _ 13 ([some (.ref 69), some (.int z365)], [.int z412], (0, 0), hp405) _ from ?_)
                                   refine bs_zret rfl rfl (by omega) (by omega) ?_
                                   rw [← hQ366]
                                   refine (show Ev _ 59 ([some (.ref 69), some (.int x1), none, none, none], [.int z412], (0, 0), hp405) _ from ?_)
                                   refine bs_ifne rfl (fun c413 => ?_) (fun c413 => ?_)
                                   · exfalso; omega
                                   · skip
                                     refine bs_lit (k := -2) rfl rfl fun z414 hz414 => ?_
                                     refine Ev.step (j := 65) (s' := ([some (.ref 69), some (.int x1), none, none, none], [.ref 69, .int z414], (0, 0), hp405)) rfl rfl ?_
                                     refine bs_getI 11 rfl rfl rfl Hhp405 (bs_R.uq Hhp405 (g := 11) rfl) (by decide) rfl fun z415 hz415 lz415 gz415 => ?_
                                     have e416 : z415.toInt = z404.toInt := Option.some.inj (hz415.symm.trans rhp405)
                                     first | (refine bs_sub rfl (by omega) (by omega) fun z417 hz417 => ?_) | (refine bs_any rfl fun z417 => ?_)
                                     have rz417 := n_range z417
                                     exact Ev.ret rfl rfl (by rw [hQ]; exact ⟨thp356, Hhp405, Fhp405, bs_an0, sf_S_cons (sf_s1 (x := y14) (show sf_v1 _ _ _ 36008 = _ from h406) (by omega) (by omega)) (sf_S_nil)⟩)
                            · skip
                              have c418 : z393.toInt = 59 := by omega
                              refine bs_lit (k := 1) rfl rfl fun z419 hz419 => ?_
                              exact by
                               refine Ev.step (j := 21) (s' := ([some (.ref 69), some (.int z365)], [.int z419], (0, 0), hp356)) rfl rfl ?_
                               refine bs_zret rfl rfl (by omega) (by omega) ?_
                               rw [← hQ367]
                               refine (show Ev _ 5 ([some (.ref 69), some (.int z365)], [.int z419], (0, 0), hp356) _ from ?_)
                               refine bs_ifne rfl (fun c420 => ?_) (fun c420 => ?_)
                               · skip
                                 refine Ev.step (j := 15) (s' := ([some (.ref 69), some (.int z365)], [.ref 69], (0, 0), hp356)) rfl rfl ?_
                                 obtain ⟨y421, hy421, ly421, gy421⟩ := bs_fld (k := 4) Hhp356 (bs_R.uq Hhp356 (g := 11) rfl) (by decide) rfl
                                 have PGy421 := psi_ge hy421 hz368
                                 refine bs_callx (K := kq_X11_next_x) [.ref 69] [] rfl ce_X11_next_x Hhp356 rfl rfl rfl (bs_rcv (g := 11) Hhp356 (bs_R.uq Hhp356 (g := 11) rfl) (by decide) rfl) rfl ?_ (sf_S_nil) fun r422 hp423 thp423 Hhp423 fhp423 ahp423 php423 xhp423 => ?_
                                 · intro q k h
                                   match q, h with
                                   | 0, h => cases h; exact bs_jR (bs_R.uq Hhp356 (g := 11) rfl)
                                   | q + 1, h => cases h
                                 obtain rfl := ahp423.1 rfl
                                 have Fhp423 := sf_fr_tr Fhp356 (sf_fr_wider (W := [(11, 0, 0), (11, 2, 5), (11, 11, 18), (11, 22, 22), (11, 25, 25), (11, 30, 30), (11, 32, 32), (132, 120, 252), (134, 0, 159), (138, 0, 1063), (139, 0, 132), (142, 0, 3), (999, 0, 0)]) rfl fhp423)
                                 have h424 : sf_rd hp423 69 2 = some y14 := (fhp423.2.2.1 _ (bs_R.uq Hhp356 (g := 11) (p := 69) rfl).1 _ (by rw [(bs_R.uq Hhp356 (g := 11) (p := 69) rfl).2]; rfl)).trans h358
                                 have h425 : sf_rd hp423 69 30 = some d0 := (fhp423.2.2.1 _ (bs_R.uq Hhp356 (g := 11) (p := 69) rfl).1 _ (by rw [(bs_R.uq Hhp356 (g := 11) (p := 69) rfl).2]; rfl)).trans h359
                                 refine (show Ev _ 18 ([some (.ref 69), some (.int z365)], [], (0, 0), hp423) _ from ?_)
                                 have XNy421 := xhp423 _ hy421
                                 refine bs_lit (k := 1) rfl rfl fun z426 hz426 => ?_
                                 exact by
                                  refine bs_zret rfl rfl (by omega) (by omega) ?_
                                  rw [← hQ366]
                                  refine (show Ev _ 59 ([some (.ref 69), some (.int x1), none, none, none], [.int z426], (0, 0), hp423) _ from ?_)
                                  refine bs_ifne rfl (fun c427 => ?_) (fun c427 => ?_)
                                  · skip
                                    refine Ev.step (j := 71) (s' := ([some (.ref 69), some (.int x1), none, none, none], [.ref 69], (0, 0), hp423)) rfl rfl ?_
                                    refine Ev.step (j := 72) (s' := ([some (.ref 69), some (.int x1), none, none, none], [.ref 69, .ref 69], (0, 0), hp423)) rfl rfl ?_
                                    refine bs_getI 11 rfl rfl rfl Hhp423 (bs_R.uq Hhp423 (g := 11) rfl) (by decide) rfl fun z428 hz428 lz428 gz428 => ?_
                                    have e429 : z428.toInt = d0 := Option.some.inj (hz428.symm.trans h425)
                                    refine bs_lit (k := 1) rfl rfl fun z430 hz430 => ?_
                                    first | (refine bs_add rfl (by omega) (by omega) fun z431 hz431 => ?_) | (refine bs_any rfl fun z431 => ?_)
                                    have rz431 := n_range z431
                                    refine bs_putI (W := [(11, 30, 30)]) (g := 11) rfl rfl Hhp423 (bs_R.uq Hhp423 (g := 11) rfl) (by decide) rfl rfl rfl rfl (Or.inl rfl) (by omega) (by omega) fun hp432 Hhp432 fhp432 rhp432 ehp432 qhp432 nhp432 => ?_
                                    have Fhp432 := sf_fr_tr Fhp423 (sf_fr_wider (W := [(11, 0, 0), (11, 2, 5), (11, 11, 18), (11, 22, 22), (11, 25, 25), (11, 30, 30), (11, 32, 32), (132, 120, 252), (134, 0, 159), (138, 0, 1063), (139, 0, 132), (142, 0, 3), (999, 0, 0)]) rfl fhp432)
                                    have h433 : sf_rd hp432 69 2 = some y14 := (ehp432 _ _ (Or.inr (by omega))).trans h424
                                    refine Ev.step (j := 39) (s' := ([some (.ref 69), some (.int x1), none, none, none], [], (0, 0), hp432)) rfl rfl ?_
                                    have u434 := fhp356.2.2.2.2 rfl
                                    have u435 := fhp432.2.2.2.2 rfl
                                    have LGN : ∀ j : Nat, (j : Int) < z431.toInt → lg_ok hp432 j := by
                                      intro j hj
                                      by_cases e : (j : Int) < d0
                                      · exact lg_same (XL3 j e (LG0 j e)) (fun q q1 q2 => ((ehp432 _ _ (Or.inl (by decide))).trans (fhp423.2.2.1 _ (bs_R.uq Hhp356 (g := 134) (p := 73) rfl).1 _ (by rw [(bs_R.uq Hhp356 (g := 134) (p := 73) rfl).2]; rfl))))
                                      · have ej : j = d0.toNat := by omega
                                        subst ej
                                        exact lg_same XL2 (fun q q1 q2 => ((ehp432 _ _ (Or.inl (by decide))).trans (fhp423.2.2.1 _ (bs_R.uq Hhp356 (g := 134) (p := 73) rfl).1 _ (by rw [(bs_R.uq Hhp356 (g := 134) (p := 73) rfl).2]; rfl))))
                                    have INV : ∃ d : Int, sf_rd hp432 69 30 = some d ∧ 0 ≤ d ∧ d ≤ 40 ∧ ∀ j : Nat, (j : Int) < d → lg_ok hp432 j := ⟨_, rhp432, by omega, by omega, LGN⟩
                                    refine ih39 (hp432, thp423) ⟨Hhp432, Fhp432, h433, (by exact INV)⟩ ?_
                                    show (sf_psi hp432).toNat < (sf_psi hp37).toNat
                                    omega
                                  · exfalso; omega
                               · exfalso; omega
           · exfalso; omega
def kq_X11_log_lo : sf_Q := ([(1, 11, 0), (0, 0, 0)], [(1, 3, 0, -2147483648, -1, 0)], some (0, 0, 0), [], [(11, 0, 0)])
set_option maxRecDepth 100000 in
set_option maxHeartbeats 4000000 in
theorem ct_X11_log_lo : sf_ct kq_X11_log_lo Z_X11_log := by
  intro t hp as H hl hj hpre
  match as, hl with
  | [v0, v1], _ =>
    obtain ⟨a0, rfl, ra0⟩ := bs_aR (hj 0 _ rfl)
    obtain rfl := ra0.eq H (p := 69) rfl
    obtain ⟨x1, rfl⟩ := bs_aI (hj 1 _ rfl)
    have rg1 := n_range x1
    obtain ⟨pl0, ph0⟩ := bs_s1 (x := x1.toInt) rfl (hpre _ (List.mem_of_getElem? (i := 0) rfl))
    clear hpre hj
    have F0 : sf_fr [(11, 0, 0)] t hp t hp := sf_fr_rf
    refine bs_fin (K := kq_X11_log_lo) (L := (L_X11_log Z_X11_isIn Z_X11_taken Z_X11_next Z_X11_logLine Z_X11_sign Z_X11_tries Z_X11_does Z_X11_keep Z_X11_back)) (nL := 5) (Nat.le_of_ble_eq_true rfl) ?_
    obtain ⟨Q, hQ⟩ : ∃ Q : ab_O → Prop, Q = (fun o => ∃ t', sf_h t' o.2 ∧ sf_fr (kq_X11_log_lo).2.2.2.2 t hp t' o.2 ∧ sf_an t' o.2.1 (kq_X11_log_lo).2.2.1 o.1 ∧ sf_S (sf_v1 o.1 [.ref 69, .int x1] o.2) (kq_X11_log_lo).2.2.2.1) := ⟨_, rfl⟩
    rw [← hQ]
    refine (show Ev (ab_T (L_X11_log Z_X11_isIn Z_X11_taken Z_X11_next Z_X11_logLine Z_X11_sign Z_X11_tries Z_X11_does Z_X11_keep Z_X11_back)) 0 ([some (.ref 69), some (.int x1), none, none, none], [], (0, 0), hp) Q from ?_)
    exact by
     refine Ev.step (j := 1) (s' := ([some (.ref 69), some (.int x1), none, none, none], [.ref 69], (0, 0), hp)) rfl rfl ?_
     refine bs_lit (k := 0) rfl rfl fun z1 hz1 => ?_
     refine bs_putI (W := [(11, 0, 0)]) (g := 11) rfl rfl H (bs_R.uq H (g := 11) rfl) (by decide) rfl rfl rfl rfl (Or.inl rfl) (by omega) (by omega) fun hp2 Hhp2 fhp2 rhp2 ehp2 qhp2 nhp2 => ?_
     have Fhp2 := sf_fr_tr F0 (sf_fr_wider (W := [(11, 0, 0)]) rfl fhp2)
     refine Ev.step (j := 6) (s' := ([some (.ref 69), some (.int x1), none, none, none], [.int x1], (0, 0), hp2)) rfl rfl ?_
     refine bs_lit (k := 0) rfl rfl fun z3 hz3 => ?_
     refine bs_lit (k := 1) rfl rfl fun z4 hz4 => ?_
     refine Ev.inlS (L := L_X11_isIn) (nL := 3) rfl rfl (Nat.le_of_ble_eq_true rfl) ?_
     generalize hQ5 : (fun (o : ab_O) => Ev _ _ _ _) = Q5
     refine (show Ev (ab_T L_X11_isIn) 0 ([some (.int x1), some (.int z3), some (.int z4)], [], (0, 0), hp2) Q5 from ?_)
     exact by
      refine Ev.step (j := 1) (s' := ([some (.int x1), some (.int z3), some (.int z4)], [.int x1], (0, 0), hp2)) rfl rfl ?_
      refine Ev.step (j := 2) (s' := ([some (.int x1), some (.int z3), some (.int z4)], [.int z3, .int x1], (0, 0), hp2)) rfl rfl ?_
      refine bs_lt rfl (fun c6 => ?_) (fun c6 => ?_)
      · skip
        refine bs_lit (k := 0) rfl rfl fun z7 hz7 => ?_
        refine bs_zret rfl rfl (by omega) (by omega) ?_
        rw [← hQ5]
        refine (show Ev _ 11 ([some (.ref 69), some (.int x1), none, none, none], [.int z7], (0, 0), hp2) _ from ?_)
        refine bs_ifne rfl (fun c8 => ?_) (fun c8 => ?_)
        · exfalso; omega
        · skip
          refine bs_lit (k := -1000) rfl rfl fun z9 hz9 => ?_
          exact Ev.ret rfl rfl (by rw [hQ]; exact ⟨t, Hhp2, Fhp2, bs_an0, sf_S_nil⟩)
      · exfalso; omega
def kq_X11_log_hi : sf_Q := ([(1, 11, 0), (0, 0, 0)], [(1, 3, 0, 2, 2147483647, 0)], some (0, 0, 0), [], [(11, 0, 0)])
set_option maxRecDepth 100000 in
set_option maxHeartbeats 4000000 in
theorem ct_X11_log_hi : sf_ct kq_X11_log_hi Z_X11_log := by
  intro t hp as H hl hj hpre
  match as, hl with
  | [v0, v1], _ =>
    obtain ⟨a0, rfl, ra0⟩ := bs_aR (hj 0 _ rfl)
    obtain rfl := ra0.eq H (p := 69) rfl
    obtain ⟨x1, rfl⟩ := bs_aI (hj 1 _ rfl)
    have rg1 := n_range x1
    obtain ⟨pl0, ph0⟩ := bs_s1 (x := x1.toInt) rfl (hpre _ (List.mem_of_getElem? (i := 0) rfl))
    clear hpre hj
    have F0 : sf_fr [(11, 0, 0)] t hp t hp := sf_fr_rf
    refine bs_fin (K := kq_X11_log_hi) (L := (L_X11_log Z_X11_isIn Z_X11_taken Z_X11_next Z_X11_logLine Z_X11_sign Z_X11_tries Z_X11_does Z_X11_keep Z_X11_back)) (nL := 5) (Nat.le_of_ble_eq_true rfl) ?_
    obtain ⟨Q, hQ⟩ : ∃ Q : ab_O → Prop, Q = (fun o => ∃ t', sf_h t' o.2 ∧ sf_fr (kq_X11_log_hi).2.2.2.2 t hp t' o.2 ∧ sf_an t' o.2.1 (kq_X11_log_hi).2.2.1 o.1 ∧ sf_S (sf_v1 o.1 [.ref 69, .int x1] o.2) (kq_X11_log_hi).2.2.2.1) := ⟨_, rfl⟩
    rw [← hQ]
    refine (show Ev (ab_T (L_X11_log Z_X11_isIn Z_X11_taken Z_X11_next Z_X11_logLine Z_X11_sign Z_X11_tries Z_X11_does Z_X11_keep Z_X11_back)) 0 ([some (.ref 69), some (.int x1), none, none, none], [], (0, 0), hp) Q from ?_)
    exact by
     refine Ev.step (j := 1) (s' := ([some (.ref 69), some (.int x1), none, none, none], [.ref 69], (0, 0), hp)) rfl rfl ?_
     refine bs_lit (k := 0) rfl rfl fun z1 hz1 => ?_
     refine bs_putI (W := [(11, 0, 0)]) (g := 11) rfl rfl H (bs_R.uq H (g := 11) rfl) (by decide) rfl rfl rfl rfl (Or.inl rfl) (by omega) (by omega) fun hp2 Hhp2 fhp2 rhp2 ehp2 qhp2 nhp2 => ?_
     have Fhp2 := sf_fr_tr F0 (sf_fr_wider (W := [(11, 0, 0)]) rfl fhp2)
     refine Ev.step (j := 6) (s' := ([some (.ref 69), some (.int x1), none, none, none], [.int x1], (0, 0), hp2)) rfl rfl ?_
     refine bs_lit (k := 0) rfl rfl fun z3 hz3 => ?_
     refine bs_lit (k := 1) rfl rfl fun z4 hz4 => ?_
     refine Ev.inlS (L := L_X11_isIn) (nL := 3) rfl rfl (Nat.le_of_ble_eq_true rfl) ?_
     generalize hQ5 : (fun (o : ab_O) => Ev _ _ _ _) = Q5
     refine (show Ev (ab_T L_X11_isIn) 0 ([some (.int x1), some (.int z3), some (.int z4)], [], (0, 0), hp2) Q5 from ?_)
     exact by
      refine Ev.step (j := 1) (s' := ([some (.int x1), some (.int z3), some (.int z4)], [.int x1], (0, 0), hp2)) rfl rfl ?_
      refine Ev.step (j := 2) (s' := ([some (.int x1), some (.int z3), some (.int z4)], [.int z3, .int x1], (0, 0), hp2)) rfl rfl ?_
      refine bs_lt rfl (fun c6 => ?_) (fun c6 => ?_)
      · exfalso; omega
      · skip
        refine Ev.step (j := 6) (s' := ([some (.int x1), some (.int z3), some (.int z4)], [.int x1], (0, 0), hp2)) rfl rfl ?_
        refine Ev.step (j := 7) (s' := ([some (.int x1), some (.int z3), some (.int z4)], [.int z4, .int x1], (0, 0), hp2)) rfl rfl ?_
        refine bs_gt rfl (fun c7 => ?_) (fun c7 => ?_)
        · skip
          refine bs_lit (k := 0) rfl rfl fun z8 hz8 => ?_
          refine bs_zret rfl rfl (by omega) (by omega) ?_
          rw [← hQ5]
          refine (show Ev _ 11 ([some (.ref 69), some (.int x1), none, none, none], [.int z8], (0, 0), hp2) _ from ?_)
          exact by
           refine bs_ifne rfl (fun c9 => ?_) (fun c9 => ?_)
           · exfalso; omega
           · skip
             refine bs_lit (k := -1000) rfl rfl fun z10 hz10 => ?_
             exact Ev.ret rfl rfl (by rw [hQ]; exact ⟨t, Hhp2, Fhp2, bs_an0, sf_S_nil⟩)
        · exfalso; omega
end
