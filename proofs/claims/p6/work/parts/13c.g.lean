-- 63.b29.lean.txt
section
def kq_X7_clear_v : sf_Q := ([(1, 7, 0)], [], none, [], [(7, 7, 12), (119, 0, 47)])
def ke_X7_clear_v : List Value → ab_H → Option Value → ab_H → Prop := fun as _ _ hp' => ∀ a : Nat, as = [.ref a] → SC hp' a s0
set_option maxRecDepth 100000 in
set_option maxHeartbeats 4000000 in
theorem ce_X7_clear_v : sf_cE kq_X7_clear_v Z_X7_clear ke_X7_clear_v := by
  intro t hp as H hl hj hpre
  match as, hl with
  | [v0], _ =>
    obtain ⟨a0, rfl, ra0⟩ := bs_aR (hj 0 _ rfl)
    clear hpre hj
    have F0 : sf_fr [(7, 7, 12), (119, 0, 47)] t hp t hp := sf_fr_rf
    refine bs_finx (E := ke_X7_clear_v) (K := kq_X7_clear_v) (L := L_X7_clear) (nL := 2) (Nat.le_of_ble_eq_true rfl) ?_
    obtain ⟨Q, hQ⟩ : ∃ Q : ab_O → Prop, Q = (fun o => ∃ t', sf_h t' o.2 ∧ sf_fr (kq_X7_clear_v).2.2.2.2 t hp t' o.2 ∧ sf_an t' o.2.1 (kq_X7_clear_v).2.2.1 o.1 ∧ sf_S (sf_v1 o.1 [.ref a0] o.2) (kq_X7_clear_v).2.2.2.1 ∧ ke_X7_clear_v [.ref a0] hp o.1 o.2) := ⟨_, rfl⟩
    rw [← hQ]
    refine (show Ev (ab_T L_X7_clear) 0 ([some (.ref a0), none], [], (0, 0), hp) Q from ?_)
    refine bs_lit (k := 0) rfl rfl fun z1 hz1 => ?_
    refine Ev.step (j := 2) (s' := ([some (.ref a0), some (.int z1)], [], (0, 0), hp)) rfl rfl ?_
    refine bs_loop (ι := Int32 × ab_H × (Nat → Nat)) (fun ⟨k2, hp3, t4⟩ => ([some (.ref a0), some (.int k2)], [], (0, 0), hp3)) (fun ⟨k2, hp3, t4⟩ => (sf_h t4 hp3) ∧ (sf_fr [(7, 7, 12), (119, 0, 47)] t hp t4 hp3) ∧ (0 ≤ k2.toInt ∧ k2.toInt ≤ 48) ∧ (∀ j : Nat, (j : Int) < k2.toInt → sf_rd hp3 (rrD hp a0 3) j = some 0) ∧ (∀ k, sf_rr hp3 a0 k = sf_rr hp a0 k)) (fun ⟨k2, hp3, t4⟩ => (48 - k2.toInt).toNat) ?_ (z1, hp, t) ⟨H, F0, (by first | omega | assumption), (by first | exact INV | exact fun j h => absurd h (by omega)), (by first | exact RRN | exact fun _ => rfl)⟩
    rintro ⟨k2, hp3, t4⟩ ⟨Hhp3, Fhp3, i6, i7, i8⟩ ih5
    refine (show Ev _ 2 ([some (.ref a0), some (.int k2)], [], (0, 0), hp3) _ from ?_)
    refine Ev.step (j := 3) (s' := ([some (.ref a0), some (.int k2)], [.int k2], (0, 0), hp3)) rfl rfl ?_
    refine Ev.step (j := 4) (s' := ([some (.ref a0), some (.int k2)], [.ref a0, .int k2], (0, 0), hp3)) rfl rfl ?_
    refine bs_getR (g := 7) (g1 := 119) rfl rfl Hhp3 (ra0.fr Fhp3) (by decide) rfl fun b9 qb9 rb9 => ?_
    refine bs_alen (g := 119) (k := 48) rfl Hhp3 rb9 (by decide) rfl (by decide) (by decide) (by decide) fun z10 hz10 => ?_
    refine bs_ge rfl (fun c11 => ?_) (fun c11 => ?_)
    · skip
      refine Ev.step (j := 25) (s' := ([some (.ref a0), some (.int k2)], [.ref a0], (0, 0), hp3)) rfl rfl ?_
      refine bs_lit (k := 10) rfl rfl fun z12 hz12 => ?_
      refine bs_putIv (W := [(7, 7, 7)]) (g := 7) rfl rfl Hhp3 (ra0.fr Fhp3) (by decide) rfl rfl rfl rfl (Or.inl rfl) (by omega) (by omega) fun hp13 Hhp13 fhp13 rhp13 ehp13 qhp13 nhp13 => ?_
      have Fhp13 := sf_fr_tr Fhp3 (sf_fr_wider (W := [(7, 7, 12), (119, 0, 47)]) rfl fhp13)
      have r14 := rb9.fr fhp13
      refine Ev.step (j := 31) (s' := ([some (.ref a0), some (.int k2)], [.ref a0], (0, 0), hp13)) rfl rfl ?_
      refine bs_lit (k := 0) rfl rfl fun z15 hz15 => ?_
      refine bs_putIv (W := [(7, 8, 8)]) (g := 7) rfl rfl Hhp13 (ra0.fr Fhp13) (by decide) rfl rfl rfl rfl (Or.inl rfl) (by omega) (by omega) fun hp16 Hhp16 fhp16 rhp16 ehp16 qhp16 nhp16 => ?_
      have Fhp16 := sf_fr_tr Fhp13 (sf_fr_wider (W := [(7, 7, 12), (119, 0, 47)]) rfl fhp16)
      have h17 : sf_rd hp16 a0 7 = some z12.toInt := (ehp16 _ _ (Or.inr (by omega))).trans rhp13
      have r18 := r14.fr fhp16
      refine Ev.step (j := 36) (s' := ([some (.ref a0), some (.int k2)], [.ref a0], (0, 0), hp16)) rfl rfl ?_
      refine bs_lit (k := 0) rfl rfl fun z19 hz19 => ?_
      refine bs_putIv (W := [(7, 9, 9)]) (g := 7) rfl rfl Hhp16 (ra0.fr Fhp16) (by decide) rfl rfl rfl rfl (Or.inl rfl) (by omega) (by omega) fun hp20 Hhp20 fhp20 rhp20 ehp20 qhp20 nhp20 => ?_
      have Fhp20 := sf_fr_tr Fhp16 (sf_fr_wider (W := [(7, 7, 12), (119, 0, 47)]) rfl fhp20)
      have h21 : sf_rd hp20 a0 7 = some z12.toInt := (ehp20 _ _ (Or.inr (by omega))).trans h17
      have h22 : sf_rd hp20 a0 8 = some z15.toInt := (ehp20 _ _ (Or.inr (by omega))).trans rhp16
      have r23 := r18.fr fhp20
      refine Ev.step (j := 41) (s' := ([some (.ref a0), some (.int k2)], [.ref a0], (0, 0), hp20)) rfl rfl ?_
      refine bs_lit (k := 0) rfl rfl fun z24 hz24 => ?_
      refine bs_putIv (W := [(7, 10, 10)]) (g := 7) rfl rfl Hhp20 (ra0.fr Fhp20) (by decide) rfl rfl rfl rfl (Or.inl rfl) (by omega) (by omega) fun hp25 Hhp25 fhp25 rhp25 ehp25 qhp25 nhp25 => ?_
      have Fhp25 := sf_fr_tr Fhp20 (sf_fr_wider (W := [(7, 7, 12), (119, 0, 47)]) rfl fhp25)
      have h26 : sf_rd hp25 a0 7 = some z12.toInt := (ehp25 _ _ (Or.inr (by omega))).trans h21
      have h27 : sf_rd hp25 a0 8 = some z15.toInt := (ehp25 _ _ (Or.inr (by omega))).trans h22
      have h28 : sf_rd hp25 a0 9 = some z19.toInt := (ehp25 _ _ (Or.inr (by omega))).trans rhp20
      have r29 := r23.fr fhp25
      refine Ev.step (j := 46) (s' := ([some (.ref a0), some (.int k2)], [.ref a0], (0, 0), hp25)) rfl rfl ?_
      refine bs_lit (k := 0) rfl rfl fun z30 hz30 => ?_
      refine bs_putIv (W := [(7, 11, 11)]) (g := 7) rfl rfl Hhp25 (ra0.fr Fhp25) (by decide) rfl rfl rfl rfl (Or.inr ⟨rfl, by omega, by omega⟩) (by omega) (by omega) fun hp31 Hhp31 fhp31 rhp31 ehp31 qhp31 nhp31 => ?_
      have Fhp31 := sf_fr_tr Fhp25 (sf_fr_wider (W := [(7, 7, 12), (119, 0, 47)]) rfl fhp31)
      have h32 : sf_rd hp31 a0 7 = some z12.toInt := (ehp31 _ _ (Or.inr (by omega))).trans h26
      have h33 : sf_rd hp31 a0 8 = some z15.toInt := (ehp31 _ _ (Or.inr (by omega))).trans h27
      have h34 : sf_rd hp31 a0 9 = some z19.toInt := (ehp31 _ _ (Or.inr (by omega))).trans h28
      have h35 : sf_rd hp31 a0 10 = some z24.toInt := (ehp31 _ _ (Or.inr (by omega))).trans rhp25
      have r36 := r29.fr fhp31
      refine Ev.step (j := 51) (s' := ([some (.ref a0), some (.int k2)], [.ref a0], (0, 0), hp31)) rfl rfl ?_
      refine Ev.step (j := 52) (s' := ([some (.ref a0), some (.int k2)], [.long (0 : Int64), .ref a0], (0, 0), hp31)) rfl rfl ?_
      refine bs_putLv (W := [(7, 12, 12)]) (g := 7) rfl rfl Hhp31 (ra0.fr Fhp31) (by decide) rfl rfl rfl rfl fun hp37 Hhp37 fhp37 mhp37 lhp37 ehp37 qhp37 => ?_
      have Fhp37 := sf_fr_tr Fhp31 (sf_fr_wider (W := [(7, 7, 12), (119, 0, 47)]) rfl fhp37)
      have h38 : sf_rd hp37 a0 7 = some z12.toInt := (ehp37 _ _).trans h32
      have h39 : sf_rd hp37 a0 8 = some z15.toInt := (ehp37 _ _).trans h33
      have h40 : sf_rd hp37 a0 9 = some z19.toInt := (ehp37 _ _).trans h34
      have h41 : sf_rd hp37 a0 10 = some z24.toInt := (ehp37 _ _).trans h35
      have h42 : sf_rd hp37 a0 11 = some z30.toInt := (ehp37 _ _).trans rhp31
      have r43 := r36.fr fhp37
      exact Ev.ret rfl rfl (by rw [hQ]; exact ⟨t4, Hhp37, Fhp37, bs_anU, sf_S_nil, (fun a ha => by
              have RR : ∀ k, sf_rr hp37 a0 k = sf_rr hp a0 k := fun k => ((qhp37 _ _).trans ((qhp31 _ _).trans ((qhp25 _ _).trans ((qhp20 _ _).trans ((qhp16 _ _).trans ((qhp13 _ _).trans (i8 k)))))))
              have RD : ∀ k, rrD hp37 a0 k = rrD hp a0 k := fun k => by unfold rrD; rw [RR]
              cases ha
              exact ⟨h38.trans (congrArg some (by show _ = (10 : Int); omega)), h39.trans (congrArg some (by show _ = (0 : Int); omega)), h40.trans (congrArg some (by show _ = (0 : Int); omega)), h41.trans (congrArg some (by show _ = (0 : Int); omega)), h42.trans (congrArg some (by show _ = (0 : Int); omega)), ⟨_, mhp37, fun i _ => by show (0 : Int64).toBitVec.getLsbD i = false; exact BitVec.getLsbD_zero⟩, fun g hg => absurd (show (g : Int) < 0 from hg) (by omega), fun g hg => absurd (show (g : Int) < 0 from hg) (by omega), fun g hg => absurd (show (g : Int) < 0 from hg) (by omega), fun i hi => by rw [RD]; exact ((ehp37 _ _).trans ((ehp31 _ _ (Or.inl (bs_nq (rr_sort H ra0 (k := 3) (g := 119) rfl).1 ra0 (by decide)))).trans ((ehp25 _ _ (Or.inl (bs_nq (rr_sort H ra0 (k := 3) (g := 119) rfl).1 ra0 (by decide)))).trans ((ehp20 _ _ (Or.inl (bs_nq (rr_sort H ra0 (k := 3) (g := 119) rfl).1 ra0 (by decide)))).trans ((ehp16 _ _ (Or.inl (bs_nq (rr_sort H ra0 (k := 3) (g := 119) rfl).1 ra0 (by decide)))).trans (ehp13 _ _ (Or.inl (bs_nq (rr_sort H ra0 (k := 3) (g := 119) rfl).1 ra0 (by decide))))))))).trans ((i7 i (by omega)).trans (congrArg some (s0_h (by omega)).symm)), fun g hg => absurd (show (g : Int) < 0 from hg) (by omega), fun g hg => absurd (show (g : Int) < 0 from hg) (by omega), fun g hg => absurd (show (g : Int) < 0 from hg) (by omega), fun g hg => absurd (show (g : Int) < 0 from hg) (by omega), fun g hg => absurd (show (g : Int) < 0 from hg) (by omega)⟩)⟩)
    · skip
      refine Ev.step (j := 12) (s' := ([some (.ref a0), some (.int k2)], [.ref a0], (0, 0), hp3)) rfl rfl ?_
      refine bs_getR (g := 7) (g1 := 119) rfl rfl Hhp3 (ra0.fr Fhp3) (by decide) rfl fun b44 qb44 rb44 => ?_
      refine Ev.step (j := 16) (s' := ([some (.ref a0), some (.int k2)], [.int k2, .ref b44], (0, 0), hp3)) rfl rfl ?_
      refine bs_lit (k := 0) rfl rfl fun z45 hz45 => ?_
      refine bs_stv (W := [(119, 0, 47)]) (g := 119) 0 47 (0, 250) rfl Hhp3 rb44 (by decide) rfl rfl (by decide) rfl rfl (by omega) (by omega) (by dsimp only; omega) (by dsimp only; omega) fun hp46 Hhp46 fhp46 rhp46 ehp46 qhp46 nhp46 => ?_
      have Fhp46 := sf_fr_tr Fhp3 (sf_fr_wider (W := [(7, 7, 12), (119, 0, 47)]) rfl fhp46)
      have r47 := rb9.fr fhp46
      have r48 := rb44.fr fhp46
      refine bs_iinc (1) rfl rfl rfl rfl (by omega) (by omega) fun z49 hz49 => ?_
      refine (show Ev _ 21 ([some (.ref a0), some (.int z49)], [], (0, 0), hp46) _ from ?_)
      refine Ev.step (j := 2) (s' := ([some (.ref a0), some (.int z49)], [], (0, 0), hp46)) rfl rfl ?_
      have EB : b44 = rrD hp a0 3 := (rrD_of ((i8 3).symm.trans qb44)).symm
      have INV : ∀ j : Nat, (j : Int) < z49.toInt → sf_rd hp46 (rrD hp a0 3) j = some 0 := by
        intro j hj
        rcases (show (j : Int) < k2.toInt ∨ j = k2.toInt.toNat by omega) with h | h
        · exact (ehp46 _ _ (Or.inr (by omega))).trans (i7 j h)
        · rw [h, ← EB]; exact rhp46.trans (congrArg some (by omega))
      have RRN : ∀ k, sf_rr hp46 a0 k = sf_rr hp a0 k := fun k => (qhp46 _ _).trans (i8 k)
      refine ih5 (z49, hp46, t4) ⟨Hhp46, Fhp46, (by first | omega | assumption), (by first | exact INV | exact fun j h => absurd h (by omega)), (by first | exact RRN | exact fun _ => rfl)⟩ ?_
      show (48 - z49.toInt).toNat < (48 - k2.toInt).toNat
      omega
def kq_X9_step_v : sf_Q := ([(1, 9, 0)], [], none, [], [(9, 4, 8)])
def ke_X9_step_v : List Value → ab_H → Option Value → ab_H → Prop := fun _ hp _ hp' => ∀ (B : Nat → Int) (n lim m i : Nat), CK hp B n lim m i → i < m → CUR hp' (tok B n lim i) ∧ CK hp' B n lim m (i + 1)
set_option maxRecDepth 100000 in
set_option maxHeartbeats 4000000 in
theorem ce_X9_step_v : sf_cE kq_X9_step_v Z_X9_step ke_X9_step_v := by
  intro t hp as H hl hj hpre
  match as, hl with
  | [v0], _ =>
    obtain ⟨a0, rfl, ra0⟩ := bs_aR (hj 0 _ rfl)
    obtain rfl := ra0.eq H (p := 3) rfl
    clear hpre hj
    have F0 : sf_fr [(9, 4, 8)] t hp t hp := sf_fr_rf
    refine bs_finx (E := ke_X9_step_v) (K := kq_X9_step_v) (L := L_X9_step) (nL := 1) (Nat.le_of_ble_eq_true rfl) ?_
    obtain ⟨Q, hQ⟩ : ∃ Q : ab_O → Prop, Q = (fun o => ∃ t', sf_h t' o.2 ∧ sf_fr (kq_X9_step_v).2.2.2.2 t hp t' o.2 ∧ sf_an t' o.2.1 (kq_X9_step_v).2.2.1 o.1 ∧ sf_S (sf_v1 o.1 [.ref 3] o.2) (kq_X9_step_v).2.2.2.1 ∧ ke_X9_step_v [.ref 3] hp o.1 o.2) := ⟨_, rfl⟩
    rw [← hQ]
    refine (show Ev (ab_T L_X9_step) 0 ([some (.ref 3)], [], (0, 0), hp) Q from ?_)
    obtain ⟨i0, hi0, li0, ui0⟩ := bs_fld (k := 4) H (bs_R.uq H (g := 9) rfl) (by decide) rfl
    obtain ⟨m0, hm0, lm0, um0⟩ := bs_fld (k := 3) H (bs_R.uq H (g := 9) rfl) (by decide) rfl
    refine Ev.step (j := 1) (s' := ([some (.ref 3)], [.ref 3], (0, 0), hp)) rfl rfl ?_
    refine bs_getI 9 rfl rfl rfl H (bs_R.uq H (g := 9) rfl) (by decide) rfl fun z1 hz1 lz1 gz1 => ?_
    have e2 : z1.toInt = i0 := Option.some.inj (hz1.symm.trans hi0)
    refine Ev.step (j := 5) (s' := ([some (.ref 3)], [.ref 3, .int z1], (0, 0), hp)) rfl rfl ?_
    refine bs_getI 9 rfl rfl rfl H (bs_R.uq H (g := 9) rfl) (by decide) rfl fun z3 hz3 lz3 gz3 => ?_
    have e4 : z3.toInt = m0 := Option.some.inj (hz3.symm.trans hm0)
    refine bs_ge rfl (fun c5 => ?_) (fun c5 => ?_)
    · skip
      exact Ev.ret rfl rfl (by rw [hQ]; exact ⟨t, H, F0, bs_anU, sf_S_nil, (fun B n lim m i hC hi_ => by have e1 : i0 = (i : Int) := Option.some.inj (hi0.symm.trans hC.2.1); have e2 : m0 = (m : Int) := Option.some.inj (hm0.symm.trans hC.1.2.2.1); have m9 := hC.1.2.1; exfalso; omega)⟩)
    · skip
      refine Ev.step (j := 12) (s' := ([some (.ref 3)], [.ref 3], (0, 0), hp)) rfl rfl ?_
      refine bs_getI 9 rfl rfl rfl H (bs_R.uq H (g := 9) rfl) (by decide) rfl fun z6 hz6 lz6 gz6 => ?_
      have e7 : z6.toInt = i0 := Option.some.inj (hz6.symm.trans hi0)
      refine bs_lit (k := 901) rfl rfl fun z8 hz8 => ?_
      refine bs_ge rfl (fun c9 => ?_) (fun c9 => ?_)
      · skip
        exact Ev.ret rfl rfl (by rw [hQ]; exact ⟨t, H, F0, bs_anU, sf_S_nil, (fun B n lim m i hC hi_ => by have e1 : i0 = (i : Int) := Option.some.inj (hi0.symm.trans hC.2.1); have e2 : m0 = (m : Int) := Option.some.inj (hm0.symm.trans hC.1.2.2.1); have m9 := hC.1.2.1; exfalso; omega)⟩)
      · skip
        refine Ev.step (j := 22) (s' := ([some (.ref 3)], [.ref 3], (0, 0), hp)) rfl rfl ?_
        refine Ev.step (j := 23) (s' := ([some (.ref 3)], [.ref 3, .ref 3], (0, 0), hp)) rfl rfl ?_
        refine bs_getU (g := 9) (g1 := 124) rfl rfl H (bs_R.uq H (g := 9) rfl) (by decide) rfl rfl ?_
        refine Ev.step (j := 27) (s' := ([some (.ref 3)], [.ref 3, .ref 4, .ref 3], (0, 0), hp)) rfl rfl ?_
        refine bs_getI 9 rfl rfl rfl H (bs_R.uq H (g := 9) rfl) (by decide) rfl fun z10 hz10 lz10 gz10 => ?_
        have e11 : z10.toInt = i0 := Option.some.inj (hz10.symm.trans hi0)
        refine bs_ld (g := 124) 0 900 (-2147483648, 2147483647) rfl H (bs_R.uq H (g := 124) rfl) (by decide) rfl (by decide) (by decide) rfl (by decide) (by omega) (by omega) fun z12 hz12 lz12 gz12 => ?_
        dsimp only at lz12 gz12
        refine bs_putIv (W := [(9, 5, 5)]) (g := 9) rfl rfl H (bs_R.uq H (g := 9) rfl) (by decide) rfl rfl rfl rfl (Or.inl rfl) (by omega) (by omega) fun hp13 Hhp13 fhp13 rhp13 ehp13 qhp13 nhp13 => ?_
        have Fhp13 := sf_fr_tr F0 (sf_fr_wider (W := [(9, 4, 8)]) rfl fhp13)
        have h14 : sf_rd hp13 3 4 = some i0 := (ehp13 _ _ (Or.inr (by omega))).trans hi0
        have h15 : sf_rd hp13 3 3 = some m0 := (ehp13 _ _ (Or.inr (by omega))).trans hm0
        have h16 : sf_rd hp13 4 z10.toInt.toNat = some z12.toInt := (ehp13 _ _ (Or.inl (by decide))).trans hz12
        refine Ev.step (j := 35) (s' := ([some (.ref 3)], [.ref 3], (0, 0), hp13)) rfl rfl ?_
        refine Ev.step (j := 36) (s' := ([some (.ref 3)], [.ref 3, .ref 3], (0, 0), hp13)) rfl rfl ?_
        refine bs_getU (g := 9) (g1 := 125) rfl rfl Hhp13 (bs_R.uq Hhp13 (g := 9) rfl) (by decide) rfl rfl ?_
        refine Ev.step (j := 40) (s' := ([some (.ref 3)], [.ref 3, .ref 5, .ref 3], (0, 0), hp13)) rfl rfl ?_
        refine bs_getI 9 rfl rfl rfl Hhp13 (bs_R.uq Hhp13 (g := 9) rfl) (by decide) rfl fun z17 hz17 lz17 gz17 => ?_
        have e18 : z17.toInt = i0 := Option.some.inj (hz17.symm.trans h14)
        refine bs_ld (g := 125) 0 900 (-2147483648, 2147483647) rfl Hhp13 (bs_R.uq Hhp13 (g := 125) rfl) (by decide) rfl (by decide) (by decide) rfl (by decide) (by omega) (by omega) fun z19 hz19 lz19 gz19 => ?_
        dsimp only at lz19 gz19
        refine bs_putIv (W := [(9, 6, 6)]) (g := 9) rfl rfl Hhp13 (bs_R.uq Hhp13 (g := 9) rfl) (by decide) rfl rfl rfl rfl (Or.inl rfl) (by omega) (by omega) fun hp20 Hhp20 fhp20 rhp20 ehp20 qhp20 nhp20 => ?_
        have Fhp20 := sf_fr_tr Fhp13 (sf_fr_wider (W := [(9, 4, 8)]) rfl fhp20)
        have h21 : sf_rd hp20 3 4 = some i0 := (ehp20 _ _ (Or.inr (by omega))).trans h14
        have h22 : sf_rd hp20 3 3 = some m0 := (ehp20 _ _ (Or.inr (by omega))).trans h15
        have h23 : sf_rd hp20 4 z10.toInt.toNat = some z12.toInt := (ehp20 _ _ (Or.inl (by decide))).trans h16
        have h24 : sf_rd hp20 3 5 = some z12.toInt := (ehp20 _ _ (Or.inr (by omega))).trans rhp13
        have h25 : sf_rd hp20 5 z17.toInt.toNat = some z19.toInt := (ehp20 _ _ (Or.inl (by decide))).trans hz19
        refine Ev.step (j := 48) (s' := ([some (.ref 3)], [.ref 3], (0, 0), hp20)) rfl rfl ?_
        refine Ev.step (j := 49) (s' := ([some (.ref 3)], [.ref 3, .ref 3], (0, 0), hp20)) rfl rfl ?_
        refine bs_getU (g := 9) (g1 := 126) rfl rfl Hhp20 (bs_R.uq Hhp20 (g := 9) rfl) (by decide) rfl rfl ?_
        refine Ev.step (j := 53) (s' := ([some (.ref 3)], [.ref 3, .ref 6, .ref 3], (0, 0), hp20)) rfl rfl ?_
        refine bs_getI 9 rfl rfl rfl Hhp20 (bs_R.uq Hhp20 (g := 9) rfl) (by decide) rfl fun z26 hz26 lz26 gz26 => ?_
        have e27 : z26.toInt = i0 := Option.some.inj (hz26.symm.trans h21)
        refine bs_laldv (g := 126) rfl Hhp20 (bs_R.uq Hhp20 (g := 126) rfl) (by decide) rfl (by omega) (by show _ < ((901 : Nat) : Int); omega) fun w28 hw28 => ?_
        refine bs_putLv (W := [(9, 8, 8)]) (g := 9) rfl rfl Hhp20 (bs_R.uq Hhp20 (g := 9) rfl) (by decide) rfl rfl rfl rfl fun hp29 Hhp29 fhp29 mhp29 lhp29 ehp29 qhp29 => ?_
        have Fhp29 := sf_fr_tr Fhp20 (sf_fr_wider (W := [(9, 4, 8)]) rfl fhp29)
        have h30 : sf_rd hp29 3 4 = some i0 := (ehp29 _ _).trans h21
        have h31 : sf_rd hp29 3 3 = some m0 := (ehp29 _ _).trans h22
        have h32 : sf_rd hp29 4 z10.toInt.toNat = some z12.toInt := (ehp29 _ _).trans h23
        have h33 : sf_rd hp29 3 5 = some z12.toInt := (ehp29 _ _).trans h24
        have h34 : sf_rd hp29 5 z17.toInt.toNat = some z19.toInt := (ehp29 _ _).trans h25
        have h35 : sf_rd hp29 3 6 = some z19.toInt := (ehp29 _ _).trans rhp20
        have h36 : sf_rl hp29 6 z26.toInt.toNat = some w28 := (lhp29 _ _ (Or.inl (by decide))).trans hw28
        refine Ev.step (j := 61) (s' := ([some (.ref 3)], [.ref 3], (0, 0), hp29)) rfl rfl ?_
        refine Ev.step (j := 62) (s' := ([some (.ref 3)], [.ref 3, .ref 3], (0, 0), hp29)) rfl rfl ?_
        refine bs_getU (g := 9) (g1 := 126) rfl rfl Hhp29 (bs_R.uq Hhp29 (g := 9) rfl) (by decide) rfl rfl ?_
        refine Ev.step (j := 66) (s' := ([some (.ref 3)], [.ref 3, .ref 6, .ref 3], (0, 0), hp29)) rfl rfl ?_
        refine bs_getI 9 rfl rfl rfl Hhp29 (bs_R.uq Hhp29 (g := 9) rfl) (by decide) rfl fun z37 hz37 lz37 gz37 => ?_
        have e38 : z37.toInt = i0 := Option.some.inj (hz37.symm.trans h30)
        refine bs_laldv (g := 126) rfl Hhp29 (bs_R.uq Hhp29 (g := 126) rfl) (by decide) rfl (by omega) (by show _ < ((901 : Nat) : Int); omega) fun w39 hw39 => ?_
        refine bs_l2iv rfl fun z40 hz40 => ?_
        have rz40 := n_range z40
        refine bs_putIv (W := [(9, 7, 7)]) (g := 9) rfl rfl Hhp29 (bs_R.uq Hhp29 (g := 9) rfl) (by decide) rfl rfl rfl rfl (Or.inl rfl) (by omega) (by omega) fun hp41 Hhp41 fhp41 rhp41 ehp41 qhp41 nhp41 => ?_
        have Fhp41 := sf_fr_tr Fhp29 (sf_fr_wider (W := [(9, 4, 8)]) rfl fhp41)
        have h42 : sf_rd hp41 3 4 = some i0 := (ehp41 _ _ (Or.inr (by omega))).trans h30
        have h43 : sf_rd hp41 3 3 = some m0 := (ehp41 _ _ (Or.inr (by omega))).trans h31
        have h44 : sf_rd hp41 4 z10.toInt.toNat = some z12.toInt := (ehp41 _ _ (Or.inl (by decide))).trans h32
        have h45 : sf_rd hp41 3 5 = some z12.toInt := (ehp41 _ _ (Or.inr (by omega))).trans h33
        have h46 : sf_rd hp41 5 z17.toInt.toNat = some z19.toInt := (ehp41 _ _ (Or.inl (by decide))).trans h34
        have h47 : sf_rd hp41 3 6 = some z19.toInt := (ehp41 _ _ (Or.inr (by omega))).trans h35
        have h48 : sf_rl hp41 6 z26.toInt.toNat = some w28 := (nhp41 _ _).trans h36
        have h49 : sf_rl hp41 3 8 = some w28 := (nhp41 _ _).trans mhp29
        have h50 : sf_rl hp41 6 z37.toInt.toNat = some w39 := (nhp41 _ _).trans hw39
        refine Ev.step (j := 75) (s' := ([some (.ref 3)], [.ref 3], (0, 0), hp41)) rfl rfl ?_
        refine Ev.step (j := 76) (s' := ([some (.ref 3)], [.ref 3, .ref 3], (0, 0), hp41)) rfl rfl ?_
        refine bs_getI 9 rfl rfl rfl Hhp41 (bs_R.uq Hhp41 (g := 9) rfl) (by decide) rfl fun z51 hz51 lz51 gz51 => ?_
        have e52 : z51.toInt = i0 := Option.some.inj (hz51.symm.trans h42)
        refine bs_lit (k := 1) rfl rfl fun z53 hz53 => ?_
        first | (refine bs_add rfl (by omega) (by omega) fun z54 hz54 => ?_) | (refine bs_any rfl fun z54 => ?_)
        have rz54 := n_range z54
        refine bs_putIv (W := [(9, 4, 4)]) (g := 9) rfl rfl Hhp41 (bs_R.uq Hhp41 (g := 9) rfl) (by decide) rfl rfl rfl rfl (Or.inl rfl) (by omega) (by omega) fun hp55 Hhp55 fhp55 rhp55 ehp55 qhp55 nhp55 => ?_
        have Fhp55 := sf_fr_tr Fhp41 (sf_fr_wider (W := [(9, 4, 8)]) rfl fhp55)
        have h56 : sf_rd hp55 3 3 = some m0 := (ehp55 _ _ (Or.inr (by omega))).trans h43
        have h57 : sf_rd hp55 4 z10.toInt.toNat = some z12.toInt := (ehp55 _ _ (Or.inl (by decide))).trans h44
        have h58 : sf_rd hp55 3 5 = some z12.toInt := (ehp55 _ _ (Or.inr (by omega))).trans h45
        have h59 : sf_rd hp55 5 z17.toInt.toNat = some z19.toInt := (ehp55 _ _ (Or.inl (by decide))).trans h46
        have h60 : sf_rd hp55 3 6 = some z19.toInt := (ehp55 _ _ (Or.inr (by omega))).trans h47
        have h61 : sf_rd hp55 3 7 = some z40.toInt := (ehp55 _ _ (Or.inr (by omega))).trans rhp41
        have h62 : sf_rl hp55 6 z26.toInt.toNat = some w28 := (nhp55 _ _).trans h48
        have h63 : sf_rl hp55 3 8 = some w28 := (nhp55 _ _).trans h49
        have h64 : sf_rl hp55 6 z37.toInt.toNat = some w39 := (nhp55 _ _).trans h50
        exact Ev.ret rfl rfl (by rw [hQ]; exact ⟨t, Hhp55, Fhp55, bs_anU, sf_S_nil, (fun B n lim m i hC hi_ => by
                have e1 : i0 = (i : Int) := Option.some.inj (hi0.symm.trans hC.2.1); have e2 : m0 = (m : Int) := Option.some.inj (hm0.symm.trans hC.1.2.2.1); have m9 := hC.1.2.1; obtain ⟨t1, t2, w9, t3, t4⟩ := hC.1.2.2.2.1 i hi_
                have K1 : z12.toInt = (tok B n lim i).k := Option.some.inj (h57.symm.trans ((((ehp55 _ _ (Or.inl (by decide))).trans ((ehp41 _ _ (Or.inl (by decide))).trans ((ehp29 _ _).trans ((ehp20 _ _ (Or.inl (by decide))).trans (ehp13 _ _ (Or.inl (by decide)))))))).trans (bs_at t1 (by omega))))
                have K2 : z19.toInt = (tok B n lim i).pl := Option.some.inj (h59.symm.trans ((((ehp55 _ _ (Or.inl (by decide))).trans ((ehp41 _ _ (Or.inl (by decide))).trans ((ehp29 _ _).trans ((ehp20 _ _ (Or.inl (by decide))).trans (ehp13 _ _ (Or.inl (by decide)))))))).trans (bs_at t2 (by omega))))
                have W0 : w28 = w9 := Option.some.inj (h62.symm.trans ((((nhp55 _ _).trans ((nhp41 _ _).trans ((lhp29 _ _ (Or.inl (by decide))).trans ((nhp20 _ _).trans (nhp13 _ _)))))).trans (bl_at t3 (by omega))))
                have W1 : w39 = w9 := Option.some.inj (h64.symm.trans ((((nhp55 _ _).trans ((nhp41 _ _).trans ((lhp29 _ _ (Or.inl (by decide))).trans ((nhp20 _ _).trans (nhp13 _ _)))))).trans (bl_at t3 (by omega))))
                refine ⟨⟨h58.trans (congrArg some K1), h60.trans (congrArg some K2), fun h3 => ?_, fun h2 => CURn_i h63 (by rw [W0]; exact t4.2 h2)⟩, TKS_fr H hC.1 Fhp55 rfl rfl rfl rfl, rhp55.trans (congrArg some (by omega)), by omega⟩
                have N9 := tok_nok B n lim i h3
                have V9 := t4.1 h3
                have V8 : w39.toInt = (tok B n lim i).v := by rw [W1]; exact V9
                exact h61.trans (congrArg some ((hz40 (by omega) (by omega)).trans V8)))⟩)
def kq_X9_takeNumber_v : sf_Q := ([(1, 9, 0), (0, 0, 0), (0, 0, 0)], [], some (0, 0, 0), [(1, 0, 0, 0, 1, 0)], [(9, 4, 9)])
def ke_X9_takeNumber_v : List Value → ab_H → Option Value → ab_H → Prop := fun as hp r hp' => ∀ (lo hi : Int32), as = [.ref 3, .int lo, .int hi] → (∀ z : Int32, r = some (.int z) → z.toInt ≠ 0 → ∃ v : Int, sf_rd hp' 3 7 = some v ∧ lo.toInt ≤ v ∧ v ≤ hi.toInt) ∧ ∀ (B : Nat → Int) (n lim m i : Nat), CK hp B n lim m i → i < m → ∃ z : Int32, r = some (.int z) ∧ ((z.toInt = 1 ∧ (tok B n lim i).k = 3 ∧ lo.toInt ≤ (tok B n lim i).v ∧ (tok B n lim i).v ≤ hi.toInt ∧ CUR hp' (tok B n lim i) ∧ CK hp' B n lim m (i + 1) ∧ sf_rd hp' 3 9 = sf_rd hp 3 9) ∨ (z.toInt = 0 ∧ sf_rd hp' 3 6 = some (tok B n lim i).pl ∧ (((tok B n lim i).k ≠ 3 ∧ sf_rd hp' 3 9 = some 1) ∨ ((tok B n lim i).k = 3 ∧ ((tok B n lim i).v < lo.toInt ∨ hi.toInt < (tok B n lim i).v) ∧ sf_rd hp' 3 9 = some 2))))
set_option maxRecDepth 100000 in
set_option maxHeartbeats 4000000 in
theorem ce_X9_takeNumber_v : sf_cE kq_X9_takeNumber_v Z_X9_takeNumber ke_X9_takeNumber_v := by
  intro t hp as H hl hj hpre
  match as, hl with
  | [v0, v1, v2], _ =>
    obtain ⟨a0, rfl, ra0⟩ := bs_aR (hj 0 _ rfl)
    obtain rfl := ra0.eq H (p := 3) rfl
    obtain ⟨x1, rfl⟩ := bs_aI (hj 1 _ rfl)
    have rg1 := n_range x1
    obtain ⟨x2, rfl⟩ := bs_aI (hj 2 _ rfl)
    have rg2 := n_range x2
    clear hpre hj
    have F0 : sf_fr [(9, 4, 9)] t hp t hp := sf_fr_rf
    refine bs_finx (E := ke_X9_takeNumber_v) (K := kq_X9_takeNumber_v) (L := (L_X9_takeNumber Z_X9_step Z_X9_fail)) (nL := 3) (Nat.le_of_ble_eq_true rfl) ?_
    obtain ⟨Q, hQ⟩ : ∃ Q : ab_O → Prop, Q = (fun o => ∃ t', sf_h t' o.2 ∧ sf_fr (kq_X9_takeNumber_v).2.2.2.2 t hp t' o.2 ∧ sf_an t' o.2.1 (kq_X9_takeNumber_v).2.2.1 o.1 ∧ sf_S (sf_v1 o.1 [.ref 3, .int x1, .int x2] o.2) (kq_X9_takeNumber_v).2.2.2.1 ∧ ke_X9_takeNumber_v [.ref 3, .int x1, .int x2] hp o.1 o.2) := ⟨_, rfl⟩
    rw [← hQ]
    refine (show Ev (ab_T (L_X9_takeNumber Z_X9_step Z_X9_fail)) 0 ([some (.ref 3), some (.int x1), some (.int x2)], [], (0, 0), hp) Q from ?_)
    refine Ev.step (j := 1) (s' := ([some (.ref 3), some (.int x1), some (.int x2)], [.ref 3], (0, 0), hp)) rfl rfl ?_
    refine bs_callx (K := kq_X9_step_v) [.ref 3] [] rfl ce_X9_step_v H rfl rfl rfl (bs_rcv (g := 9) H (bs_R.uq H (g := 9) rfl) (by decide) rfl) rfl ?_ (sf_S_nil) fun r1 hp2 thp2 Hhp2 fhp2 ahp2 php2 xhp2 => ?_
    · intro q k h
      match q, h with
      | 0, h => cases h; exact bs_jR (bs_R.uq H (g := 9) rfl)
      | q + 1, h => cases h
    obtain rfl := ahp2.1 rfl
    have Fhp2 := sf_fr_tr F0 (sf_fr_wider (W := [(9, 4, 9)]) rfl fhp2)
    refine (show Ev _ 4 ([some (.ref 3), some (.int x1), some (.int x2)], [], (0, 0), hp2) _ from ?_)
    refine Ev.step (j := 5) (s' := ([some (.ref 3), some (.int x1), some (.int x2)], [.ref 3], (0, 0), hp2)) rfl rfl ?_
    refine bs_getI 9 rfl rfl rfl Hhp2 (bs_R.uq Hhp2 (g := 9) rfl) (by decide) rfl fun z3 hz3 lz3 gz3 => ?_
    refine bs_lit (k := 3) rfl rfl fun z4 hz4 => ?_
    refine bs_eq rfl (fun c5 => ?_) (fun c5 => ?_)
    · skip
      have c6 : z3.toInt = 3 := by omega
      refine Ev.step (j := 19) (s' := ([some (.ref 3), some (.int x1), some (.int x2)], [.ref 3], (0, 0), hp2)) rfl rfl ?_
      refine bs_getI 9 rfl rfl rfl Hhp2 (bs_R.uq Hhp2 (g := 9) rfl) (by decide) rfl fun z7 hz7 lz7 gz7 => ?_
      refine Ev.step (j := 23) (s' := ([some (.ref 3), some (.int x1), some (.int x2)], [.int x1, .int z7], (0, 0), hp2)) rfl rfl ?_
      refine bs_lt rfl (fun c8 => ?_) (fun c8 => ?_)
      · skip
        refine Ev.step (j := 35) (s' := ([some (.ref 3), some (.int x1), some (.int x2)], [.ref 3], (0, 0), hp2)) rfl rfl ?_
        refine bs_lit (k := 2) rfl rfl fun z9 hz9 => ?_
        refine Ev.inl (L := L_X9_fail) (nL := 2) rfl (bs_rcv (g := 9) Hhp2 (bs_R.uq Hhp2 (g := 9) rfl) (by decide) rfl) rfl (Nat.le_of_ble_eq_true rfl) ?_
        generalize hQ10 : (fun (o : ab_O) => Ev _ _ _ _) = Q10
        refine (show Ev (ab_T L_X9_fail) 0 ([some (.ref 3), some (.int z9)], [], (0, 0), hp2) Q10 from ?_)
        refine Ev.step (j := 1) (s' := ([some (.ref 3), some (.int z9)], [.ref 3], (0, 0), hp2)) rfl rfl ?_
        refine Ev.step (j := 2) (s' := ([some (.ref 3), some (.int z9)], [.int z9, .ref 3], (0, 0), hp2)) rfl rfl ?_
        refine bs_putIv (W := [(9, 9, 9)]) (g := 9) rfl rfl Hhp2 (bs_R.uq Hhp2 (g := 9) rfl) (by decide) rfl rfl rfl rfl (Or.inl rfl) (by omega) (by omega) fun hp11 Hhp11 fhp11 rhp11 ehp11 qhp11 nhp11 => ?_
        have Fhp11 := sf_fr_tr Fhp2 (sf_fr_wider (W := [(9, 4, 9)]) rfl fhp11)
        have h12 : sf_rd hp11 3 5 = some z3.toInt := (ehp11 _ _ (Or.inr (by omega))).trans hz3
        have h13 : sf_rd hp11 3 7 = some z7.toInt := (ehp11 _ _ (Or.inr (by omega))).trans hz7
        refine bs_lit (k := 0) rfl rfl fun z14 hz14 => ?_
        refine bs_zret rfl rfl (by omega) (by omega) ?_
        rw [← hQ10]
        refine (show Ev _ 39 ([some (.ref 3), some (.int x1), some (.int x2)], [.int z14], (0, 0), hp11) _ from ?_)
        refine bs_ifeq rfl (fun c15 => ?_) (fun c15 => ?_)
        · skip
          refine bs_lit (k := 0) rfl rfl fun z16 hz16 => ?_
          exact bs_zret rfl rfl (by omega) (by omega) (by rw [hQ]; exact ⟨thp2, Hhp11, Fhp11, bs_an0, sf_S_cons (sf_s1 (x := z16.toInt) rfl (by omega) (by omega)) (sf_S_nil), (fun lo hi ha => by
                  cases ha
                  refine ⟨fun z hz hne => ?_, fun B n lim m i hC hi_ => ?_⟩
                  · obtain rfl := Value.int.inj (Option.some.inj hz)
                    exact absurd hne (by omega)
                  · obtain ⟨⟨c1, c2, c3, c4⟩, CK1⟩ := xhp2 B n lim m i hC hi_
                    have KK : z3.toInt = (tok B n lim i).k := Option.some.inj (hz3.symm.trans c1)
                    have VV : z7.toInt = (tok B n lim i).v := Option.some.inj (hz7.symm.trans (c3 (by omega)))
                    exact ⟨z16, rfl, Or.inr ⟨by omega, ((ehp11 _ _ (Or.inr (by omega)))).trans c2, Or.inr ⟨by omega, by omega, rhp11.trans (congrArg some (by omega))⟩⟩⟩)⟩)
        · exfalso; omega
      · skip
        refine Ev.step (j := 27) (s' := ([some (.ref 3), some (.int x1), some (.int x2)], [.ref 3], (0, 0), hp2)) rfl rfl ?_
        refine bs_getI 9 rfl rfl rfl Hhp2 (bs_R.uq Hhp2 (g := 9) rfl) (by decide) rfl fun z17 hz17 lz17 gz17 => ?_
        have e18 : z17.toInt = z7.toInt := Option.some.inj (hz17.symm.trans hz7)
        refine Ev.step (j := 31) (s' := ([some (.ref 3), some (.int x1), some (.int x2)], [.int x2, .int z17], (0, 0), hp2)) rfl rfl ?_
        refine bs_le rfl (fun c19 => ?_) (fun c19 => ?_)
        · skip
          refine bs_lit (k := 1) rfl rfl fun z20 hz20 => ?_
          refine Ev.step (j := 47) (s' := ([some (.ref 3), some (.int x1), some (.int x2)], [.int z20], (0, 0), hp2)) rfl rfl ?_
          exact bs_zret rfl rfl (by omega) (by omega) (by rw [hQ]; exact ⟨thp2, Hhp2, Fhp2, bs_an0, sf_S_cons (sf_s1 (x := z20.toInt) rfl (by omega) (by omega)) (sf_S_nil), (fun lo hi ha => by
                  cases ha
                  refine ⟨fun z hz hne => ?_, fun B n lim m i hC hi_ => ?_⟩
                  · exact ⟨_, hz7, by omega, by omega⟩
                  · obtain ⟨⟨c1, c2, c3, c4⟩, CK1⟩ := xhp2 B n lim m i hC hi_
                    have KK : z3.toInt = (tok B n lim i).k := Option.some.inj (hz3.symm.trans c1)
                    have VV : z7.toInt = (tok B n lim i).v := Option.some.inj (hz7.symm.trans (c3 (by omega)))
                    exact ⟨z20, rfl, Or.inl ⟨by omega, by omega, by omega, by omega, ⟨c1, c2, c3, c4⟩, CK1, (fhp2.2.2.1 _ (bs_R.uq H (g := 9) (p := 3) rfl).1 _ (by rw [(bs_R.uq H (g := 9) (p := 3) rfl).2]; rfl))⟩⟩)⟩)
        · skip
          refine Ev.step (j := 35) (s' := ([some (.ref 3), some (.int x1), some (.int x2)], [.ref 3], (0, 0), hp2)) rfl rfl ?_
          refine bs_lit (k := 2) rfl rfl fun z21 hz21 => ?_
          refine Ev.inl (L := L_X9_fail) (nL := 2) rfl (bs_rcv (g := 9) Hhp2 (bs_R.uq Hhp2 (g := 9) rfl) (by decide) rfl) rfl (Nat.le_of_ble_eq_true rfl) ?_
          generalize hQ22 : (fun (o : ab_O) => Ev _ _ _ _) = Q22
          refine (show Ev (ab_T L_X9_fail) 0 ([some (.ref 3), some (.int z21)], [], (0, 0), hp2) Q22 from ?_)
          refine Ev.step (j := 1) (s' := ([some (.ref 3), some (.int z21)], [.ref 3], (0, 0), hp2)) rfl rfl ?_
          refine Ev.step (j := 2) (s' := ([some (.ref 3), some (.int z21)], [.int z21, .ref 3], (0, 0), hp2)) rfl rfl ?_
          refine bs_putIv (W := [(9, 9, 9)]) (g := 9) rfl rfl Hhp2 (bs_R.uq Hhp2 (g := 9) rfl) (by decide) rfl rfl rfl rfl (Or.inl rfl) (by omega) (by omega) fun hp23 Hhp23 fhp23 rhp23 ehp23 qhp23 nhp23 => ?_
          have Fhp23 := sf_fr_tr Fhp2 (sf_fr_wider (W := [(9, 4, 9)]) rfl fhp23)
          have h24 : sf_rd hp23 3 5 = some z3.toInt := (ehp23 _ _ (Or.inr (by omega))).trans hz3
          have h25 : sf_rd hp23 3 7 = some z7.toInt := (ehp23 _ _ (Or.inr (by omega))).trans hz7
          refine bs_lit (k := 0) rfl rfl fun z26 hz26 => ?_
          refine bs_zret rfl rfl (by omega) (by omega) ?_
          rw [← hQ22]
          refine (show Ev _ 39 ([some (.ref 3), some (.int x1), some (.int x2)], [.int z26], (0, 0), hp23) _ from ?_)
          refine bs_ifeq rfl (fun c27 => ?_) (fun c27 => ?_)
          · skip
            refine bs_lit (k := 0) rfl rfl fun z28 hz28 => ?_
            exact bs_zret rfl rfl (by omega) (by omega) (by rw [hQ]; exact ⟨thp2, Hhp23, Fhp23, bs_an0, sf_S_cons (sf_s1 (x := z28.toInt) rfl (by omega) (by omega)) (sf_S_nil), (fun lo hi ha => by
                    cases ha
                    refine ⟨fun z hz hne => ?_, fun B n lim m i hC hi_ => ?_⟩
                    · obtain rfl := Value.int.inj (Option.some.inj hz)
                      exact absurd hne (by omega)
                    · obtain ⟨⟨c1, c2, c3, c4⟩, CK1⟩ := xhp2 B n lim m i hC hi_
                      have KK : z3.toInt = (tok B n lim i).k := Option.some.inj (hz3.symm.trans c1)
                      have VV : z7.toInt = (tok B n lim i).v := Option.some.inj (hz7.symm.trans (c3 (by omega)))
                      exact ⟨z28, rfl, Or.inr ⟨by omega, ((ehp23 _ _ (Or.inr (by omega)))).trans c2, Or.inr ⟨by omega, by omega, rhp23.trans (congrArg some (by omega))⟩⟩⟩)⟩)
          · exfalso; omega
    · skip
      refine Ev.step (j := 13) (s' := ([some (.ref 3), some (.int x1), some (.int x2)], [.ref 3], (0, 0), hp2)) rfl rfl ?_
      refine bs_lit (k := 1) rfl rfl fun z29 hz29 => ?_
      refine Ev.inl (L := L_X9_fail) (nL := 2) rfl (bs_rcv (g := 9) Hhp2 (bs_R.uq Hhp2 (g := 9) rfl) (by decide) rfl) rfl (Nat.le_of_ble_eq_true rfl) ?_
      generalize hQ30 : (fun (o : ab_O) => Ev _ _ _ _) = Q30
      refine (show Ev (ab_T L_X9_fail) 0 ([some (.ref 3), some (.int z29)], [], (0, 0), hp2) Q30 from ?_)
      refine Ev.step (j := 1) (s' := ([some (.ref 3), some (.int z29)], [.ref 3], (0, 0), hp2)) rfl rfl ?_
      refine Ev.step (j := 2) (s' := ([some (.ref 3), some (.int z29)], [.int z29, .ref 3], (0, 0), hp2)) rfl rfl ?_
      refine bs_putIv (W := [(9, 9, 9)]) (g := 9) rfl rfl Hhp2 (bs_R.uq Hhp2 (g := 9) rfl) (by decide) rfl rfl rfl rfl (Or.inl rfl) (by omega) (by omega) fun hp31 Hhp31 fhp31 rhp31 ehp31 qhp31 nhp31 => ?_
      have Fhp31 := sf_fr_tr Fhp2 (sf_fr_wider (W := [(9, 4, 9)]) rfl fhp31)
      have h32 : sf_rd hp31 3 5 = some z3.toInt := (ehp31 _ _ (Or.inr (by omega))).trans hz3
      refine bs_lit (k := 0) rfl rfl fun z33 hz33 => ?_
      refine bs_zret rfl rfl (by omega) (by omega) ?_
      rw [← hQ30]
      refine (show Ev _ 17 ([some (.ref 3), some (.int x1), some (.int x2)], [.int z33], (0, 0), hp31) _ from ?_)
      exact bs_zret rfl rfl (by omega) (by omega) (by rw [hQ]; exact ⟨thp2, Hhp31, Fhp31, bs_an0, sf_S_cons (sf_s1 (x := z33.toInt) rfl (by omega) (by omega)) (sf_S_nil), (fun lo hi ha => by
              cases ha
              refine ⟨fun z hz hne => ?_, fun B n lim m i hC hi_ => ?_⟩
              · obtain rfl := Value.int.inj (Option.some.inj hz)
                exact absurd hne (by omega)
              · obtain ⟨⟨c1, c2, c3, c4⟩, CK1⟩ := xhp2 B n lim m i hC hi_
                have KK : z3.toInt = (tok B n lim i).k := Option.some.inj (hz3.symm.trans c1)
                exact ⟨z33, rfl, Or.inr ⟨by omega, ((ehp31 _ _ (Or.inr (by omega)))).trans c2, Or.inl ⟨by omega, rhp31.trans (congrArg some (by omega))⟩⟩⟩)⟩)
def kq_X7_readLoad_v : sf_Q := ([(1, 7, 0), (1, 9, 0)], [], some (0, 0, 0), [(1, 0, 0, 0, 1, 0)], [(7, 7, 7), (7, 11, 11), (9, 4, 9)])
def ke_X7_readLoad_v : List Value → ab_H → Option Value → ab_H → Prop := fun as hp r hp' => ∀ (a : Nat) (s : PS) (B : Nat → Int) (n lim m j : Nat), as = [.ref a, .ref 3] → SC hp a s → CK hp B n lim m (j + 1) → j + 1 < m → sf_rd hp 3 6 = some (tok B n lim j).pl → sf_rd hp 3 9 = some 0 → LRES hp' a B n lim m r (lnLoad (tok B n lim) s j)
set_option maxRecDepth 100000 in
set_option maxHeartbeats 4000000 in
theorem ce_X7_readLoad_v : sf_cE kq_X7_readLoad_v Z_X7_readLoad ke_X7_readLoad_v := by
  intro t hp as H hl hj hpre
  match as, hl with
  | [v0, v1], _ =>
    obtain ⟨a0, rfl, ra0⟩ := bs_aR (hj 0 _ rfl)
    obtain ⟨a1, rfl, ra1⟩ := bs_aR (hj 1 _ rfl)
    obtain rfl := ra1.eq H (p := 3) rfl
    clear hpre hj
    have F0 : sf_fr [(7, 7, 7), (7, 11, 11), (9, 4, 9)] t hp t hp := sf_fr_rf
    refine bs_finx (E := ke_X7_readLoad_v) (K := kq_X7_readLoad_v) (L := (L_X7_readLoad Z_X9_fail Z_X9_takeNumber)) (nL := 2) (Nat.le_of_ble_eq_true rfl) ?_
    obtain ⟨Q, hQ⟩ : ∃ Q : ab_O → Prop, Q = (fun o => ∃ t', sf_h t' o.2 ∧ sf_fr (kq_X7_readLoad_v).2.2.2.2 t hp t' o.2 ∧ sf_an t' o.2.1 (kq_X7_readLoad_v).2.2.1 o.1 ∧ sf_S (sf_v1 o.1 [.ref a0, .ref 3] o.2) (kq_X7_readLoad_v).2.2.2.1 ∧ ke_X7_readLoad_v [.ref a0, .ref 3] hp o.1 o.2) := ⟨_, rfl⟩
    rw [← hQ]
    refine (show Ev (ab_T (L_X7_readLoad Z_X9_fail Z_X9_takeNumber)) 0 ([some (.ref a0), some (.ref 3)], [], (0, 0), hp) Q from ?_)
    refine Ev.step (j := 1) (s' := ([some (.ref a0), some (.ref 3)], [.ref a0], (0, 0), hp)) rfl rfl ?_
    refine bs_getI 7 rfl rfl rfl H (ra0.fr F0) (by decide) rfl fun z1 hz1 lz1 gz1 => ?_
    refine bs_ifeq rfl (fun c2 => ?_) (fun c2 => ?_)
    · skip
      have c3 : z1.toInt = 0 := by omega
      refine Ev.step (j := 14) (s' := ([some (.ref a0), some (.ref 3)], [.ref 3], (0, 0), hp)) rfl rfl ?_
      refine bs_lit (k := 1) rfl rfl fun z4 hz4 => ?_
      refine bs_lit (k := 40) rfl rfl fun z5 hz5 => ?_
      refine bs_callx (K := kq_X9_takeNumber_v) [.ref 3, .int z4, .int z5] [] rfl ce_X9_takeNumber_v H rfl rfl rfl (bs_rcv (g := 9) H (bs_R.uq H (g := 9) rfl) (by decide) rfl) rfl ?_ (sf_S_nil) fun r6 hp7 thp7 Hhp7 fhp7 ahp7 php7 xhp7 => ?_
      · intro q k h
        match q, h with
        | 0, h => cases h; exact bs_jR (bs_R.uq H (g := 9) rfl)
        | 1, h => cases h; exact sf_j0
        | 2, h => cases h; exact sf_j0
        | q + 3, h => cases h
      obtain ⟨z8, rfl⟩ := bs_anI ahp7
      have rgz8 := n_range z8
      have Fhp7 := sf_fr_tr F0 (sf_fr_wider (W := [(7, 7, 7), (7, 11, 11), (9, 4, 9)]) rfl fhp7)
      have h9 : sf_rd hp7 a0 11 = some z1.toInt := (fhp7.2.2.1 _ (ra0.fr F0).1 _ (by rw [(ra0.fr F0).2]; rfl)).trans hz1
      obtain ⟨uz8, vz8⟩ := bs_s1 (x := z8.toInt) rfl (php7 _ (List.mem_of_getElem? (i := 0) rfl))
      refine (show Ev _ 20 ([some (.ref a0), some (.ref 3)], [.int z8], (0, 0), hp7) _ from ?_)
      refine bs_ifne rfl (fun c10 => ?_) (fun c10 => ?_)
      · skip
        refine Ev.step (j := 26) (s' := ([some (.ref a0), some (.ref 3)], [.ref a0], (0, 0), hp7)) rfl rfl ?_
        refine bs_lit (k := 1) rfl rfl fun z11 hz11 => ?_
        refine bs_putIv (W := [(7, 11, 11)]) (g := 7) rfl rfl Hhp7 (ra0.fr Fhp7) (by decide) rfl rfl rfl rfl (Or.inr ⟨rfl, by omega, by omega⟩) (by omega) (by omega) fun hp12 Hhp12 fhp12 rhp12 ehp12 qhp12 nhp12 => ?_
        have Fhp12 := sf_fr_tr Fhp7 (sf_fr_wider (W := [(7, 7, 7), (7, 11, 11), (9, 4, 9)]) rfl fhp12)
        refine Ev.step (j := 31) (s' := ([some (.ref a0), some (.ref 3)], [.ref a0], (0, 0), hp12)) rfl rfl ?_
        refine Ev.step (j := 32) (s' := ([some (.ref a0), some (.ref 3)], [.ref 3, .ref a0], (0, 0), hp12)) rfl rfl ?_
        refine bs_getI 9 rfl rfl rfl Hhp12 (bs_R.uq Hhp12 (g := 9) rfl) (by decide) rfl fun z13 hz13 lz13 gz13 => ?_
        refine bs_putIv (W := [(7, 7, 7)]) (g := 7) rfl rfl Hhp12 (ra0.fr Fhp12) (by decide) rfl rfl rfl rfl (Or.inl rfl) (by omega) (by omega) fun hp14 Hhp14 fhp14 rhp14 ehp14 qhp14 nhp14 => ?_
        have Fhp14 := sf_fr_tr Fhp12 (sf_fr_wider (W := [(7, 7, 7), (7, 11, 11), (9, 4, 9)]) rfl fhp14)
        have h15 : sf_rd hp14 a0 11 = some z11.toInt := (ehp14 _ _ (Or.inr (by omega))).trans rhp12
        have h16 : sf_rd hp14 3 7 = some z13.toInt := (ehp14 _ _ (Or.inl (bs_nq (bs_R.uq Hhp12 (g := 9) rfl) (ra0.fr Fhp12) (by decide)))).trans hz13
        refine bs_lit (k := 1) rfl rfl fun z17 hz17 => ?_
        exact bs_zret rfl rfl (by omega) (by omega) (by rw [hQ]; exact ⟨thp7, Hhp14, Fhp14, bs_an0, sf_S_cons (sf_s1 (x := z17.toInt) rfl (by omega) (by omega)) (sf_S_nil), (fun a s B n lim m j ha hS hC hj hpl h9 => by
                cases ha
                have LE : z1.toInt = cond s.ld 1 0 := Option.some.inj (hz1.symm.trans hS.ld)
                have LD : ¬ s.ld = true := fun hl => by rw [hl] at LE; have LE2 : _ = (1 : Int) := LE; omega
                rw [show lnLoad (tok B n lim) s j = _ from if_neg LD]
                obtain ⟨q1, rq1, X1⟩ := (xhp7 _ _ rfl).2 B n lim m (j + 1) hC hj
                obtain rfl := Value.int.inj (Option.some.inj rq1)
                obtain ⟨Y0, Y1, Y2, Y3, Y4, Y5, Y6⟩ := X1.resolve_right (fun h => absurd h.1 (by omega))
                rw [lnum_o Y1 (by omega) (by omega)]
                have S1 := SC_fr H ra0 hS fhp7 rfl rfl
                have C1 := TKS_fr Hhp7 Y5.1 fhp12 rfl rfl rfl rfl
                have C2 := TKS_fr Hhp12 C1 fhp14 rfl rfl rfl rfl
                have VV : z13.toInt = (tok B n lim (j + 1)).v := Option.some.inj (hz13.symm.trans (((ehp12 _ _ (Or.inl (bs_nq (bs_R.uq Hhp7 (g := 9) rfl) (ra0.fr Fhp7) (by decide))))).trans (Y4.2.2.1 Y1)))
                exact LRES_ok ⟨z17, rfl, by omega⟩ (SC_load Hhp7 (ra0.fr fhp7) S1 (fun k => ((qhp14 _ _).trans (qhp12 _ _))) (fun b q => (nhp14 _ _).trans (nhp12 _ _)) (fun b q h => (ehp14 _ _ (h.imp id (fun g => g.1))).trans (ehp12 _ _ (h.imp id (fun g => g.2)))) (rhp14.trans (congrArg some VV)) (h15.trans (congrArg some (by omega)))) ⟨C2, (((ehp14 _ _ (Or.inl (bs_nq (bs_R.uq Hhp12 (g := 9) rfl) (ra0.fr Fhp12) (by decide)))).trans (ehp12 _ _ (Or.inl (bs_nq (bs_R.uq Hhp7 (g := 9) rfl) (ra0.fr Fhp7) (by decide)))))).trans Y5.2.1, Y5.2.2⟩ ((((ehp14 _ _ (Or.inl (bs_nq (bs_R.uq Hhp12 (g := 9) rfl) (ra0.fr Fhp12) (by decide)))).trans (ehp12 _ _ (Or.inl (bs_nq (bs_R.uq Hhp7 (g := 9) rfl) (ra0.fr Fhp7) (by decide)))))).trans (Y6.trans h9)) (CK_more Y5.1 hj (by omega) (by omega)))⟩)
      · skip
        have c18 : z8.toInt = 0 := by omega
        refine bs_lit (k := 0) rfl rfl fun z19 hz19 => ?_
        exact bs_zret rfl rfl (by omega) (by omega) (by rw [hQ]; exact ⟨thp7, Hhp7, Fhp7, bs_an0, sf_S_cons (sf_s1 (x := z19.toInt) rfl (by omega) (by omega)) (sf_S_nil), (fun a s B n lim m j ha hS hC hj hpl h9 => by
                cases ha
                have LE : z1.toInt = cond s.ld 1 0 := Option.some.inj (hz1.symm.trans hS.ld)
                have LD : ¬ s.ld = true := fun hl => by rw [hl] at LE; have LE2 : _ = (1 : Int) := LE; omega
                rw [show lnLoad (tok B n lim) s j = _ from if_neg LD]
                obtain ⟨q1, rq1, X1⟩ := (xhp7 _ _ rfl).2 B n lim m (j + 1) hC hj
                obtain rfl := Value.int.inj (Option.some.inj rq1)
                rcases X1.resolve_left (fun h => absurd h.1 (by omega)) with ⟨_, P1, ⟨P2, P3⟩ | ⟨P2, P4, P3⟩⟩
                · rw [lnum_1 P2]
                  exact LRES_bad ⟨z19, rfl, by omega⟩ (P3) (P1)
                · rw [lnum_2 P2 (by omega)]
                  exact LRES_bad ⟨z19, rfl, by omega⟩ (P3) (P1))⟩)
    · skip
      refine Ev.step (j := 8) (s' := ([some (.ref a0), some (.ref 3)], [.ref 3], (0, 0), hp)) rfl rfl ?_
      refine bs_lit (k := 3) rfl rfl fun z20 hz20 => ?_
      refine Ev.inl (L := L_X9_fail) (nL := 2) rfl (bs_rcv (g := 9) H (bs_R.uq H (g := 9) rfl) (by decide) rfl) rfl (Nat.le_of_ble_eq_true rfl) ?_
      generalize hQ21 : (fun (o : ab_O) => Ev _ _ _ _) = Q21
      refine (show Ev (ab_T L_X9_fail) 0 ([some (.ref 3), some (.int z20)], [], (0, 0), hp) Q21 from ?_)
      refine Ev.step (j := 1) (s' := ([some (.ref 3), some (.int z20)], [.ref 3], (0, 0), hp)) rfl rfl ?_
      refine Ev.step (j := 2) (s' := ([some (.ref 3), some (.int z20)], [.int z20, .ref 3], (0, 0), hp)) rfl rfl ?_
      refine bs_putIv (W := [(9, 9, 9)]) (g := 9) rfl rfl H (bs_R.uq H (g := 9) rfl) (by decide) rfl rfl rfl rfl (Or.inl rfl) (by omega) (by omega) fun hp22 Hhp22 fhp22 rhp22 ehp22 qhp22 nhp22 => ?_
      have Fhp22 := sf_fr_tr F0 (sf_fr_wider (W := [(7, 7, 7), (7, 11, 11), (9, 4, 9)]) rfl fhp22)
      have h23 : sf_rd hp22 a0 11 = some z1.toInt := (ehp22 _ _ (Or.inl (bs_nq (ra0.fr F0) (bs_R.uq H (g := 9) rfl) (by decide)))).trans hz1
      refine bs_lit (k := 0) rfl rfl fun z24 hz24 => ?_
      refine bs_zret rfl rfl (by omega) (by omega) ?_
      rw [← hQ21]
      refine (show Ev _ 12 ([some (.ref a0), some (.ref 3)], [.int z24], (0, 0), hp22) _ from ?_)
      exact bs_zret rfl rfl (by omega) (by omega) (by rw [hQ]; exact ⟨t, Hhp22, Fhp22, bs_an0, sf_S_cons (sf_s1 (x := z24.toInt) rfl (by omega) (by omega)) (sf_S_nil), (fun a s B n lim m j ha hS hC hj hpl h9 => by
              cases ha
              have LE : z1.toInt = cond s.ld 1 0 := Option.some.inj (hz1.symm.trans hS.ld)
              have LD : s.ld = true := by cases hl : s.ld with | true => rfl | false => (rw [hl] at LE; have LE2 : _ = (0 : Int) := LE; omega)
              rw [show lnLoad (tok B n lim) s j = _ from if_pos LD]
              exact LRES_bad ⟨z24, rfl, by omega⟩ (rhp22.trans (congrArg some (by omega))) (((ehp22 _ _ (Or.inr (by omega)))).trans hpl))⟩)
def kq_X9_takeName_v : sf_Q := ([(1, 9, 0)], [], some (0, 0, 0), [(1, 0, 0, 0, 1, 0)], [(9, 4, 9)])
def ke_X9_takeName_v : List Value → ab_H → Option Value → ab_H → Prop := fun _ hp r hp' => ∀ (B : Nat → Int) (n lim m i : Nat), CK hp B n lim m i → i < m → ∃ z : Int32, r = some (.int z) ∧ ((z.toInt = 1 ∧ (tok B n lim i).k = 2 ∧ CUR hp' (tok B n lim i) ∧ CK hp' B n lim m (i + 1) ∧ sf_rd hp' 3 9 = sf_rd hp 3 9) ∨ (z.toInt = 0 ∧ sf_rd hp' 3 6 = some (tok B n lim i).pl ∧ (tok B n lim i).k ≠ 2 ∧ sf_rd hp' 3 9 = some 1))
set_option maxRecDepth 100000 in
set_option maxHeartbeats 4000000 in
theorem ce_X9_takeName_v : sf_cE kq_X9_takeName_v Z_X9_takeName ke_X9_takeName_v := by
  intro t hp as H hl hj hpre
  match as, hl with
  | [v0], _ =>
    obtain ⟨a0, rfl, ra0⟩ := bs_aR (hj 0 _ rfl)
    obtain rfl := ra0.eq H (p := 3) rfl
    clear hpre hj
    have F0 : sf_fr [(9, 4, 9)] t hp t hp := sf_fr_rf
    refine bs_finx (E := ke_X9_takeName_v) (K := kq_X9_takeName_v) (L := (L_X9_takeName Z_X9_step Z_X9_fail)) (nL := 1) (Nat.le_of_ble_eq_true rfl) ?_
    obtain ⟨Q, hQ⟩ : ∃ Q : ab_O → Prop, Q = (fun o => ∃ t', sf_h t' o.2 ∧ sf_fr (kq_X9_takeName_v).2.2.2.2 t hp t' o.2 ∧ sf_an t' o.2.1 (kq_X9_takeName_v).2.2.1 o.1 ∧ sf_S (sf_v1 o.1 [.ref 3] o.2) (kq_X9_takeName_v).2.2.2.1 ∧ ke_X9_takeName_v [.ref 3] hp o.1 o.2) := ⟨_, rfl⟩
    rw [← hQ]
    refine (show Ev (ab_T (L_X9_takeName Z_X9_step Z_X9_fail)) 0 ([some (.ref 3)], [], (0, 0), hp) Q from ?_)
    refine Ev.step (j := 1) (s' := ([some (.ref 3)], [.ref 3], (0, 0), hp)) rfl rfl ?_
    refine bs_callx (K := kq_X9_step_v) [.ref 3] [] rfl ce_X9_step_v H rfl rfl rfl (bs_rcv (g := 9) H (bs_R.uq H (g := 9) rfl) (by decide) rfl) rfl ?_ (sf_S_nil) fun r1 hp2 thp2 Hhp2 fhp2 ahp2 php2 xhp2 => ?_
    · intro q k h
      match q, h with
      | 0, h => cases h; exact bs_jR (bs_R.uq H (g := 9) rfl)
      | q + 1, h => cases h
    obtain rfl := ahp2.1 rfl
    have Fhp2 := sf_fr_tr F0 (sf_fr_wider (W := [(9, 4, 9)]) rfl fhp2)
    refine (show Ev _ 4 ([some (.ref 3)], [], (0, 0), hp2) _ from ?_)
    refine Ev.step (j := 5) (s' := ([some (.ref 3)], [.ref 3], (0, 0), hp2)) rfl rfl ?_
    refine bs_getI 9 rfl rfl rfl Hhp2 (bs_R.uq Hhp2 (g := 9) rfl) (by decide) rfl fun z3 hz3 lz3 gz3 => ?_
    refine bs_lit (k := 2) rfl rfl fun z4 hz4 => ?_
    refine bs_eq rfl (fun c5 => ?_) (fun c5 => ?_)
    · skip
      have c6 : z3.toInt = 2 := by omega
      refine bs_lit (k := 1) rfl rfl fun z7 hz7 => ?_
      refine Ev.step (j := 25) (s' := ([some (.ref 3)], [.int z7], (0, 0), hp2)) rfl rfl ?_
      exact bs_zret rfl rfl (by omega) (by omega) (by rw [hQ]; exact ⟨thp2, Hhp2, Fhp2, bs_an0, sf_S_cons (sf_s1 (x := z7.toInt) rfl (by omega) (by omega)) (sf_S_nil), (fun B n lim m i hC hi_ => by
              obtain ⟨⟨c1, c2, c3, c4⟩, CK1⟩ := xhp2 B n lim m i hC hi_; have KK : z3.toInt = (tok B n lim i).k := Option.some.inj (hz3.symm.trans c1)
              exact ⟨z7, rfl, Or.inl ⟨by omega, by omega, ⟨c1, c2, c3, c4⟩, CK1, (fhp2.2.2.1 _ (bs_R.uq H (g := 9) (p := 3) rfl).1 _ (by rw [(bs_R.uq H (g := 9) (p := 3) rfl).2]; rfl))⟩⟩)⟩)
    · skip
      refine Ev.step (j := 13) (s' := ([some (.ref 3)], [.ref 3], (0, 0), hp2)) rfl rfl ?_
      refine bs_lit (k := 1) rfl rfl fun z8 hz8 => ?_
      refine Ev.inl (L := L_X9_fail) (nL := 2) rfl (bs_rcv (g := 9) Hhp2 (bs_R.uq Hhp2 (g := 9) rfl) (by decide) rfl) rfl (Nat.le_of_ble_eq_true rfl) ?_
      generalize hQ9 : (fun (o : ab_O) => Ev _ _ _ _) = Q9
      refine (show Ev (ab_T L_X9_fail) 0 ([some (.ref 3), some (.int z8)], [], (0, 0), hp2) Q9 from ?_)
      refine Ev.step (j := 1) (s' := ([some (.ref 3), some (.int z8)], [.ref 3], (0, 0), hp2)) rfl rfl ?_
      refine Ev.step (j := 2) (s' := ([some (.ref 3), some (.int z8)], [.int z8, .ref 3], (0, 0), hp2)) rfl rfl ?_
      refine bs_putIv (W := [(9, 9, 9)]) (g := 9) rfl rfl Hhp2 (bs_R.uq Hhp2 (g := 9) rfl) (by decide) rfl rfl rfl rfl (Or.inl rfl) (by omega) (by omega) fun hp10 Hhp10 fhp10 rhp10 ehp10 qhp10 nhp10 => ?_
      have Fhp10 := sf_fr_tr Fhp2 (sf_fr_wider (W := [(9, 4, 9)]) rfl fhp10)
      have h11 : sf_rd hp10 3 5 = some z3.toInt := (ehp10 _ _ (Or.inr (by omega))).trans hz3
      refine bs_lit (k := 0) rfl rfl fun z12 hz12 => ?_
      refine bs_zret rfl rfl (by omega) (by omega) ?_
      rw [← hQ9]
      refine (show Ev _ 17 ([some (.ref 3)], [.int z12], (0, 0), hp10) _ from ?_)
      refine bs_ifeq rfl (fun c13 => ?_) (fun c13 => ?_)
      · skip
        refine bs_lit (k := 0) rfl rfl fun z14 hz14 => ?_
        exact bs_zret rfl rfl (by omega) (by omega) (by rw [hQ]; exact ⟨thp2, Hhp10, Fhp10, bs_an0, sf_S_cons (sf_s1 (x := z14.toInt) rfl (by omega) (by omega)) (sf_S_nil), (fun B n lim m i hC hi_ => by
                obtain ⟨⟨c1, c2, c3, c4⟩, CK1⟩ := xhp2 B n lim m i hC hi_; have KK : z3.toInt = (tok B n lim i).k := Option.some.inj (hz3.symm.trans c1)
                exact ⟨z14, rfl, Or.inr ⟨by omega, ((ehp10 _ _ (Or.inr (by omega)))).trans c2, by omega, rhp10.trans (congrArg some (by omega))⟩⟩)⟩)
      · exfalso; omega
def kq_X7_goodNamed_v : sf_Q := ([(1, 7, 0), (2, 0, 0)], [], some (0, 0, 0), [(1, 0, 0, -1, 5, 0)], [])
def ke_X7_goodNamed_v : List Value → ab_H → Option Value → ab_H → Prop := fun as hp r _ => ∀ (a : Nat) (w : Int64) (s : PS) (v : Int), as = [.ref a, .long w] → SC hp a s → w.toInt = c32 7 v → LW 7 v → ∃ z : Int32, r = some (.int z) ∧ z.toInt = fnd s.nm 0 (s.h 0) v
set_option maxRecDepth 100000 in
set_option maxHeartbeats 4000000 in
theorem ce_X7_goodNamed_v : sf_cE kq_X7_goodNamed_v Z_X7_goodNamed ke_X7_goodNamed_v := by
  intro t hp as H hl hj hpre
  match as, hl with
  | [v0, v1], _ =>
    obtain ⟨a0, rfl, ra0⟩ := bs_aR (hj 0 _ rfl)
    obtain ⟨wa1, rfl⟩ := bs_aL (hj 1 _ rfl)
    clear hpre hj
    have F0 : sf_fr [] t hp t hp := sf_fr_rf
    refine bs_finx (E := ke_X7_goodNamed_v) (K := kq_X7_goodNamed_v) (L := L_X7_goodNamed) (nL := 4) (Nat.le_of_ble_eq_true rfl) ?_
    obtain ⟨Q, hQ⟩ : ∃ Q : ab_O → Prop, Q = (fun o => ∃ t', sf_h t' o.2 ∧ sf_fr (kq_X7_goodNamed_v).2.2.2.2 t hp t' o.2 ∧ sf_an t' o.2.1 (kq_X7_goodNamed_v).2.2.1 o.1 ∧ sf_S (sf_v1 o.1 [.ref a0, .long wa1] o.2) (kq_X7_goodNamed_v).2.2.2.1 ∧ ke_X7_goodNamed_v [.ref a0, .long wa1] hp o.1 o.2) := ⟨_, rfl⟩
    rw [← hQ]
    refine (show Ev (ab_T L_X7_goodNamed) 0 ([some (.ref a0), some (.long wa1), none, none], [], (0, 0), hp) Q from ?_)
    refine bs_lit (k := 0) rfl rfl fun z1 hz1 => ?_
    refine Ev.step (j := 2) (s' := ([some (.ref a0), some (.long wa1), none, some (.int z1)], [], (0, 0), hp)) rfl rfl ?_
    refine bs_loop (ι := Int32) (fun k2 => ([some (.ref a0), some (.long wa1), none, some (.int k2)], [], (0, 0), hp)) (fun k2 => (0 ≤ k2.toInt ∧ k2.toInt ≤ 6) ∧ (∀ j : Nat, (j : Int) < k2.toInt → sf_rl hp (rrD hp a0 0) j ≠ some wa1)) (fun k2 => (6 - k2.toInt).toNat) ?_ z1 ⟨(by first | omega | assumption), (by first | exact INV | exact fun j h => absurd h (by omega))⟩
    rintro k2 ⟨i4, i5⟩ ih3
    refine (show Ev _ 2 ([some (.ref a0), some (.long wa1), none, some (.int k2)], [], (0, 0), hp) _ from ?_)
    refine Ev.step (j := 3) (s' := ([some (.ref a0), some (.long wa1), none, some (.int k2)], [.int k2], (0, 0), hp)) rfl rfl ?_
    refine Ev.step (j := 4) (s' := ([some (.ref a0), some (.long wa1), none, some (.int k2)], [.ref a0, .int k2], (0, 0), hp)) rfl rfl ?_
    refine bs_getI 7 rfl rfl rfl H (ra0.fr F0) (by decide) rfl fun z6 hz6 lz6 gz6 => ?_
    refine bs_ge rfl (fun c7 => ?_) (fun c7 => ?_)
    · skip
      refine bs_lit (k := -1) rfl rfl fun z8 hz8 => ?_
      exact Ev.ret rfl rfl (by rw [hQ]; exact ⟨t, H, F0, bs_an0, sf_S_cons (sf_s1 (x := z8.toInt) rfl (by omega) (by omega)) (sf_S_nil), (fun a w s v ha hS hw hv => by
              cases ha; have NN : z6.toInt = s.h 0 := Option.some.inj (hz6.symm.trans hS.goods)
              have NE_ : ∀ j : Nat, (j : Int) < s.h 0 → (j : Int) < k2.toInt → s.nm (j) ≠ v := fun j h1 h2 e => by
                obtain ⟨w', g1, g2⟩ := hS.gn j h1
                rw [e, ← hw] at g2
                exact i5 j h2 (by rw [g1, Int64.toInt_inj.mp g2])
              exact ⟨z8, rfl, (fnd_is (Or.inl ⟨by omega, fun j hj => by rw [Nat.zero_add]; exact NE_ j hj (by omega)⟩)).symm⟩)⟩)
    · skip
      refine Ev.step (j := 11) (s' := ([some (.ref a0), some (.long wa1), none, some (.int k2)], [.ref a0], (0, 0), hp)) rfl rfl ?_
      refine bs_getR (g := 7) (g1 := 116) rfl rfl H (ra0.fr F0) (by decide) rfl fun b9 qb9 rb9 => ?_
      refine Ev.step (j := 15) (s' := ([some (.ref a0), some (.long wa1), none, some (.int k2)], [.int k2, .ref b9], (0, 0), hp)) rfl rfl ?_
      refine bs_laldv (g := 116) rfl H rb9 (by decide) rfl (by omega) (by show _ < ((6 : Nat) : Int); omega) fun w10 hw10 => ?_
      have LA : sf_rl hp (rrD hp a0 0) k2.toInt.toNat = some w10 := by rw [rrD_of qb9]; exact hw10
      refine Ev.step (j := 17) (s' := ([some (.ref a0), some (.long wa1), none, some (.int k2)], [.long wa1, .long w10], (0, 0), hp)) rfl rfl ?_
      refine bs_lcmpv rfl fun z11 hz11 => ?_
      refine bs_ifne rfl (fun c12 => ?_) (fun c12 => ?_)
      · skip
        refine bs_iinc (1) rfl rfl rfl rfl (by omega) (by omega) fun z13 hz13 => ?_
        refine (show Ev _ 26 ([some (.ref a0), some (.long wa1), none, some (.int z13)], [], (0, 0), hp) _ from ?_)
        refine Ev.step (j := 2) (s' := ([some (.ref a0), some (.long wa1), none, some (.int z13)], [], (0, 0), hp)) rfl rfl ?_
        have INV : ∀ j : Nat, (j : Int) < z13.toInt → sf_rl hp (rrD hp a0 0) j ≠ some wa1 := by
          intro j hj
          rcases (show (j : Int) < k2.toInt ∨ j = k2.toInt.toNat by omega) with h | h
          · exact i5 j h
          · rw [h, LA]; intro e; exact absurd (hz11.mpr (Option.some.inj e)) (by omega)
        refine ih3 z13 ⟨(by first | omega | assumption), (by first | exact INV | exact fun j h => absurd h (by omega))⟩ ?_
        show (6 - z13.toInt).toNat < (6 - k2.toInt).toNat
        omega
      · skip
        have c14 : z11.toInt = 0 := by omega
        refine Ev.step (j := 22) (s' := ([some (.ref a0), some (.long wa1), none, some (.int k2)], [.int k2], (0, 0), hp)) rfl rfl ?_
        exact Ev.ret rfl rfl (by rw [hQ]; exact ⟨t, H, F0, bs_an0, sf_S_cons (sf_s1 (x := k2.toInt) rfl (by omega) (by omega)) (sf_S_nil), (fun a w s v ha hS hw hv => by
                cases ha; have NN : z6.toInt = s.h 0 := Option.some.inj (hz6.symm.trans hS.goods)
                have NE_ : ∀ j : Nat, (j : Int) < s.h 0 → (j : Int) < k2.toInt → s.nm (j) ≠ v := fun j h1 h2 e => by
                  obtain ⟨w', g1, g2⟩ := hS.gn j h1
                  rw [e, ← hw] at g2
                  exact i5 j h2 (by rw [g1, Int64.toInt_inj.mp g2])
                obtain ⟨w', g1, g2⟩ := hS.gn k2.toInt.toNat (by omega)
                have EW : w' = _ := Option.some.inj (g1.symm.trans LA)
                rw [EW, hz11.mp (by omega), hw] at g2
                exact ⟨k2, rfl, (fnd_is (Or.inr ⟨by omega, by omega, by rw [Nat.zero_add]; exact (c32_inj (hS.lg _ (by omega)) hv g2.symm), fun j hj => by rw [Nat.zero_add]; exact NE_ j (by omega) hj⟩)).symm⟩)⟩)
def kq_X7_manNamed_v : sf_Q := ([(1, 7, 0), (2, 0, 0)], [], some (0, 0, 0), [(1, 0, 0, -1, 7, 0)], [])
def ke_X7_manNamed_v : List Value → ab_H → Option Value → ab_H → Prop := fun as hp r _ => ∀ (a : Nat) (w : Int64) (s : PS) (v : Int), as = [.ref a, .long w] → SC hp a s → w.toInt = c32 7 v → LW 7 v → ∃ z : Int32, r = some (.int z) ∧ z.toInt = fnd s.nm 6 (s.h 1) v
set_option maxRecDepth 100000 in
set_option maxHeartbeats 4000000 in
theorem ce_X7_manNamed_v : sf_cE kq_X7_manNamed_v Z_X7_manNamed ke_X7_manNamed_v := by
  intro t hp as H hl hj hpre
  match as, hl with
  | [v0, v1], _ =>
    obtain ⟨a0, rfl, ra0⟩ := bs_aR (hj 0 _ rfl)
    obtain ⟨wa1, rfl⟩ := bs_aL (hj 1 _ rfl)
    clear hpre hj
    have F0 : sf_fr [] t hp t hp := sf_fr_rf
    refine bs_finx (E := ke_X7_manNamed_v) (K := kq_X7_manNamed_v) (L := L_X7_manNamed) (nL := 4) (Nat.le_of_ble_eq_true rfl) ?_
    obtain ⟨Q, hQ⟩ : ∃ Q : ab_O → Prop, Q = (fun o => ∃ t', sf_h t' o.2 ∧ sf_fr (kq_X7_manNamed_v).2.2.2.2 t hp t' o.2 ∧ sf_an t' o.2.1 (kq_X7_manNamed_v).2.2.1 o.1 ∧ sf_S (sf_v1 o.1 [.ref a0, .long wa1] o.2) (kq_X7_manNamed_v).2.2.2.1 ∧ ke_X7_manNamed_v [.ref a0, .long wa1] hp o.1 o.2) := ⟨_, rfl⟩
    rw [← hQ]
    refine (show Ev (ab_T L_X7_manNamed) 0 ([some (.ref a0), some (.long wa1), none, none], [], (0, 0), hp) Q from ?_)
    refine bs_lit (k := 0) rfl rfl fun z1 hz1 => ?_
    refine Ev.step (j := 2) (s' := ([some (.ref a0), some (.long wa1), none, some (.int z1)], [], (0, 0), hp)) rfl rfl ?_
    refine bs_loop (ι := Int32) (fun k2 => ([some (.ref a0), some (.long wa1), none, some (.int k2)], [], (0, 0), hp)) (fun k2 => (0 ≤ k2.toInt ∧ k2.toInt ≤ 8) ∧ (∀ j : Nat, (j : Int) < k2.toInt → sf_rl hp (rrD hp a0 1) j ≠ some wa1)) (fun k2 => (8 - k2.toInt).toNat) ?_ z1 ⟨(by first | omega | assumption), (by first | exact INV | exact fun j h => absurd h (by omega))⟩
    rintro k2 ⟨i4, i5⟩ ih3
    refine (show Ev _ 2 ([some (.ref a0), some (.long wa1), none, some (.int k2)], [], (0, 0), hp) _ from ?_)
    refine Ev.step (j := 3) (s' := ([some (.ref a0), some (.long wa1), none, some (.int k2)], [.int k2], (0, 0), hp)) rfl rfl ?_
    refine Ev.step (j := 4) (s' := ([some (.ref a0), some (.long wa1), none, some (.int k2)], [.ref a0, .int k2], (0, 0), hp)) rfl rfl ?_
    refine bs_getI 7 rfl rfl rfl H (ra0.fr F0) (by decide) rfl fun z6 hz6 lz6 gz6 => ?_
    refine bs_ge rfl (fun c7 => ?_) (fun c7 => ?_)
    · skip
      refine bs_lit (k := -1) rfl rfl fun z8 hz8 => ?_
      exact Ev.ret rfl rfl (by rw [hQ]; exact ⟨t, H, F0, bs_an0, sf_S_cons (sf_s1 (x := z8.toInt) rfl (by omega) (by omega)) (sf_S_nil), (fun a w s v ha hS hw hv => by
              cases ha; have NN : z6.toInt = s.h 1 := Option.some.inj (hz6.symm.trans hS.men)
              have NE_ : ∀ j : Nat, (j : Int) < s.h 1 → (j : Int) < k2.toInt → s.nm (6 + j) ≠ v := fun j h1 h2 e => by
                obtain ⟨w', g1, g2⟩ := hS.mn j h1
                rw [e, ← hw] at g2
                exact i5 j h2 (by rw [g1, Int64.toInt_inj.mp g2])
              exact ⟨z8, rfl, (fnd_is (Or.inl ⟨by omega, fun j hj => NE_ j hj (by omega)⟩)).symm⟩)⟩)
    · skip
      refine Ev.step (j := 11) (s' := ([some (.ref a0), some (.long wa1), none, some (.int k2)], [.ref a0], (0, 0), hp)) rfl rfl ?_
      refine bs_getR (g := 7) (g1 := 117) rfl rfl H (ra0.fr F0) (by decide) rfl fun b9 qb9 rb9 => ?_
      refine Ev.step (j := 15) (s' := ([some (.ref a0), some (.long wa1), none, some (.int k2)], [.int k2, .ref b9], (0, 0), hp)) rfl rfl ?_
      refine bs_laldv (g := 117) rfl H rb9 (by decide) rfl (by omega) (by show _ < ((8 : Nat) : Int); omega) fun w10 hw10 => ?_
      have LA : sf_rl hp (rrD hp a0 1) k2.toInt.toNat = some w10 := by rw [rrD_of qb9]; exact hw10
      refine Ev.step (j := 17) (s' := ([some (.ref a0), some (.long wa1), none, some (.int k2)], [.long wa1, .long w10], (0, 0), hp)) rfl rfl ?_
      refine bs_lcmpv rfl fun z11 hz11 => ?_
      refine bs_ifne rfl (fun c12 => ?_) (fun c12 => ?_)
      · skip
        refine bs_iinc (1) rfl rfl rfl rfl (by omega) (by omega) fun z13 hz13 => ?_
        refine (show Ev _ 26 ([some (.ref a0), some (.long wa1), none, some (.int z13)], [], (0, 0), hp) _ from ?_)
        refine Ev.step (j := 2) (s' := ([some (.ref a0), some (.long wa1), none, some (.int z13)], [], (0, 0), hp)) rfl rfl ?_
        have INV : ∀ j : Nat, (j : Int) < z13.toInt → sf_rl hp (rrD hp a0 1) j ≠ some wa1 := by
          intro j hj
          rcases (show (j : Int) < k2.toInt ∨ j = k2.toInt.toNat by omega) with h | h
          · exact i5 j h
          · rw [h, LA]; intro e; exact absurd (hz11.mpr (Option.some.inj e)) (by omega)
        refine ih3 z13 ⟨(by first | omega | assumption), (by first | exact INV | exact fun j h => absurd h (by omega))⟩ ?_
        show (8 - z13.toInt).toNat < (8 - k2.toInt).toNat
        omega
      · skip
        have c14 : z11.toInt = 0 := by omega
        refine Ev.step (j := 22) (s' := ([some (.ref a0), some (.long wa1), none, some (.int k2)], [.int k2], (0, 0), hp)) rfl rfl ?_
        exact Ev.ret rfl rfl (by rw [hQ]; exact ⟨t, H, F0, bs_an0, sf_S_cons (sf_s1 (x := k2.toInt) rfl (by omega) (by omega)) (sf_S_nil), (fun a w s v ha hS hw hv => by
                cases ha; have NN : z6.toInt = s.h 1 := Option.some.inj (hz6.symm.trans hS.men)
                have NE_ : ∀ j : Nat, (j : Int) < s.h 1 → (j : Int) < k2.toInt → s.nm (6 + j) ≠ v := fun j h1 h2 e => by
                  obtain ⟨w', g1, g2⟩ := hS.mn j h1
                  rw [e, ← hw] at g2
                  exact i5 j h2 (by rw [g1, Int64.toInt_inj.mp g2])
                obtain ⟨w', g1, g2⟩ := hS.mn k2.toInt.toNat (by omega)
                have EW : w' = _ := Option.some.inj (g1.symm.trans LA)
                rw [EW, hz11.mp (by omega), hw] at g2
                exact ⟨k2, rfl, (fnd_is (Or.inr ⟨by omega, by omega, (c32_inj (hS.lm _ (by omega)) hv g2.symm), fun j hj => NE_ j (by omega) hj⟩)).symm⟩)⟩)
def kq_X7_takeNewName_v : sf_Q := ([(1, 7, 0), (1, 9, 0)], [], some (0, 0, 0), [(1, 0, 0, 0, 1, 0)], [(9, 4, 9)])
def ke_X7_takeNewName_v : List Value → ab_H → Option Value → ab_H → Prop := fun as hp r hp' => ∀ (a : Nat) (s : PS) (B : Nat → Int) (n lim m i : Nat), as = [.ref a, .ref 3] → SC hp a s → CK hp B n lim m i → i < m → ∃ z : Int32, r = some (.int z) ∧ ((z.toInt = 1 ∧ (tok B n lim i).k = 2 ∧ ¬ (0 ≤ fnd s.nm 0 (s.h 0) (tok B n lim i).v ∨ 0 ≤ fnd s.nm 6 (s.h 1) (tok B n lim i).v) ∧ CUR hp' (tok B n lim i) ∧ CK hp' B n lim m (i + 1) ∧ sf_rd hp' 3 9 = sf_rd hp 3 9) ∨ (z.toInt = 0 ∧ sf_rd hp' 3 6 = some (tok B n lim i).pl ∧ (((tok B n lim i).k ≠ 2 ∧ sf_rd hp' 3 9 = some 1) ∨ ((tok B n lim i).k = 2 ∧ (0 ≤ fnd s.nm 0 (s.h 0) (tok B n lim i).v ∨ 0 ≤ fnd s.nm 6 (s.h 1) (tok B n lim i).v) ∧ sf_rd hp' 3 9 = some 3))))
set_option maxRecDepth 100000 in
set_option maxHeartbeats 4000000 in
theorem ce_X7_takeNewName_v : sf_cE kq_X7_takeNewName_v Z_X7_takeNewName ke_X7_takeNewName_v := by
  intro t hp as H hl hj hpre
  match as, hl with
  | [v0, v1], _ =>
    obtain ⟨a0, rfl, ra0⟩ := bs_aR (hj 0 _ rfl)
    obtain ⟨a1, rfl, ra1⟩ := bs_aR (hj 1 _ rfl)
    obtain rfl := ra1.eq H (p := 3) rfl
    clear hpre hj
    have F0 : sf_fr [(9, 4, 9)] t hp t hp := sf_fr_rf
    refine bs_finx (E := ke_X7_takeNewName_v) (K := kq_X7_takeNewName_v) (L := (L_X7_takeNewName Z_X9_takeName Z_X7_goodNamed Z_X7_manNamed Z_X9_fail)) (nL := 3) (Nat.le_of_ble_eq_true rfl) ?_
    obtain ⟨Q, hQ⟩ : ∃ Q : ab_O → Prop, Q = (fun o => ∃ t', sf_h t' o.2 ∧ sf_fr (kq_X7_takeNewName_v).2.2.2.2 t hp t' o.2 ∧ sf_an t' o.2.1 (kq_X7_takeNewName_v).2.2.1 o.1 ∧ sf_S (sf_v1 o.1 [.ref a0, .ref 3] o.2) (kq_X7_takeNewName_v).2.2.2.1 ∧ ke_X7_takeNewName_v [.ref a0, .ref 3] hp o.1 o.2) := ⟨_, rfl⟩
    rw [← hQ]
    refine (show Ev (ab_T (L_X7_takeNewName Z_X9_takeName Z_X7_goodNamed Z_X7_manNamed Z_X9_fail)) 0 ([some (.ref a0), some (.ref 3), none], [], (0, 0), hp) Q from ?_)
    refine Ev.step (j := 1) (s' := ([some (.ref a0), some (.ref 3), none], [.ref 3], (0, 0), hp)) rfl rfl ?_
    refine bs_callx (K := kq_X9_takeName_v) [.ref 3] [] rfl ce_X9_takeName_v H rfl rfl rfl (bs_rcv (g := 9) H (bs_R.uq H (g := 9) rfl) (by decide) rfl) rfl ?_ (sf_S_nil) fun r1 hp2 thp2 Hhp2 fhp2 ahp2 php2 xhp2 => ?_
    · intro q k h
      match q, h with
      | 0, h => cases h; exact bs_jR (bs_R.uq H (g := 9) rfl)
      | q + 1, h => cases h
    obtain ⟨z3, rfl⟩ := bs_anI ahp2
    have rgz3 := n_range z3
    have Fhp2 := sf_fr_tr F0 (sf_fr_wider (W := [(9, 4, 9)]) rfl fhp2)
    obtain ⟨uz3, vz3⟩ := bs_s1 (x := z3.toInt) rfl (php2 _ (List.mem_of_getElem? (i := 0) rfl))
    refine (show Ev _ 4 ([some (.ref a0), some (.ref 3), none], [.int z3], (0, 0), hp2) _ from ?_)
    refine bs_ifne rfl (fun c4 => ?_) (fun c4 => ?_)
    · skip
      refine Ev.step (j := 10) (s' := ([some (.ref a0), some (.ref 3), none], [.ref a0], (0, 0), hp2)) rfl rfl ?_
      refine Ev.step (j := 11) (s' := ([some (.ref a0), some (.ref 3), none], [.ref 3, .ref a0], (0, 0), hp2)) rfl rfl ?_
      refine bs_getLv (g := 9) rfl rfl Hhp2 (bs_R.uq Hhp2 (g := 9) rfl) (by decide) rfl fun w5 hw5 => ?_
      refine bs_callx (K := kq_X7_goodNamed_v) [.ref a0, .long w5] [] rfl ce_X7_goodNamed_v Hhp2 rfl rfl rfl (bs_rcv (g := 7) Hhp2 (ra0.fr Fhp2) (by decide) rfl) rfl ?_ (sf_S_nil) fun r6 hp7 thp7 Hhp7 fhp7 ahp7 php7 xhp7 => ?_
      · intro q k h
        match q, h with
        | 0, h => cases h; exact bs_jR (ra0.fr Fhp2)
        | 1, h => cases h; exact sf_j2
        | q + 2, h => cases h
      obtain ⟨z8, rfl⟩ := bs_anI ahp7
      have rgz8 := n_range z8
      have Fhp7 := sf_fr_tr Fhp2 (sf_fr_wider (W := [(9, 4, 9)]) rfl fhp7)
      have h9 : sf_rl hp7 3 8 = some w5 := (sf_rl_cell (fhp7.2.2.2.1 _ (bs_R.uq Hhp2 (g := 9) (p := 3) rfl).1 (by rw [(bs_R.uq Hhp2 (g := 9) (p := 3) rfl).2]; rfl))).trans hw5
      obtain ⟨uz8, vz8⟩ := bs_s1 (x := z8.toInt) rfl (php7 _ (List.mem_of_getElem? (i := 0) rfl))
      refine (show Ev _ 17 ([some (.ref a0), some (.ref 3), none], [.int z8], (0, 0), hp7) _ from ?_)
      refine bs_lit (k := -1) rfl rfl fun z10 hz10 => ?_
      refine bs_ne rfl (fun c11 => ?_) (fun c11 => ?_)
      · skip
        refine bs_lit (k := 0) rfl rfl fun z12 hz12 => ?_
        refine Ev.step (j := 39) (s' := ([some (.ref a0), some (.ref 3), some (.int z12)], [], (0, 0), hp7)) rfl rfl ?_
        refine Ev.step (j := 40) (s' := ([some (.ref a0), some (.ref 3), some (.int z12)], [.int z12], (0, 0), hp7)) rfl rfl ?_
        refine bs_ifne rfl (fun c13 => ?_) (fun c13 => ?_)
        · exfalso; omega
        · skip
          refine Ev.step (j := 44) (s' := ([some (.ref a0), some (.ref 3), some (.int z12)], [.ref 3], (0, 0), hp7)) rfl rfl ?_
          refine bs_lit (k := 3) rfl rfl fun z14 hz14 => ?_
          refine Ev.inl (L := L_X9_fail) (nL := 2) rfl (bs_rcv (g := 9) Hhp7 (bs_R.uq Hhp7 (g := 9) rfl) (by decide) rfl) rfl (Nat.le_of_ble_eq_true rfl) ?_
          generalize hQ15 : (fun (o : ab_O) => Ev _ _ _ _) = Q15
          refine (show Ev (ab_T L_X9_fail) 0 ([some (.ref 3), some (.int z14)], [], (0, 0), hp7) Q15 from ?_)
          refine Ev.step (j := 1) (s' := ([some (.ref 3), some (.int z14)], [.ref 3], (0, 0), hp7)) rfl rfl ?_
          refine Ev.step (j := 2) (s' := ([some (.ref 3), some (.int z14)], [.int z14, .ref 3], (0, 0), hp7)) rfl rfl ?_
          refine bs_putIv (W := [(9, 9, 9)]) (g := 9) rfl rfl Hhp7 (bs_R.uq Hhp7 (g := 9) rfl) (by decide) rfl rfl rfl rfl (Or.inl rfl) (by omega) (by omega) fun hp16 Hhp16 fhp16 rhp16 ehp16 qhp16 nhp16 => ?_
          have Fhp16 := sf_fr_tr Fhp7 (sf_fr_wider (W := [(9, 4, 9)]) rfl fhp16)
          have h17 : sf_rl hp16 3 8 = some w5 := (nhp16 _ _).trans h9
          refine bs_lit (k := 0) rfl rfl fun z18 hz18 => ?_
          refine bs_zret rfl rfl (by omega) (by omega) ?_
          rw [← hQ15]
          refine (show Ev _ 48 ([some (.ref a0), some (.ref 3), some (.int z12)], [.int z18], (0, 0), hp16) _ from ?_)
          refine bs_ifeq rfl (fun c19 => ?_) (fun c19 => ?_)
          · skip
            refine bs_lit (k := 0) rfl rfl fun z20 hz20 => ?_
            exact bs_zret rfl rfl (by omega) (by omega) (by rw [hQ]; exact ⟨thp7, Hhp16, Fhp16, bs_an0, sf_S_cons (sf_s1 (x := z20.toInt) rfl (by omega) (by omega)) (sf_S_nil), (fun a s B n lim m i ha hS hC hi_ => by
                    cases ha
                    obtain ⟨q1, rq1, X1⟩ := xhp2 B n lim m i hC hi_
                    obtain rfl := Value.int.inj (Option.some.inj rq1)
                    obtain ⟨Y1, X2, X3, X4, X5⟩ := X1.resolve_right (fun h => absurd h.1 (by omega))
                    obtain ⟨wq9, W1, W2⟩ := X3.2.2.2 X2
                    have WE : w5 = wq9 := Option.some.inj (hw5.symm.trans W1)
                    have LW9 := (tok_wok B n lim i (Or.inl X2)).1
                    have S1 := SC_fr H ra0 hS fhp2 rfl rfl
                    obtain ⟨q2, rq2, G2⟩ := xhp7 _ _ s (tok B n lim i).v rfl S1 (by rw [WE]; exact W2) LW9
                    obtain rfl := Value.int.inj (Option.some.inj rq2)
                    exact ⟨z20, rfl, Or.inr ⟨by omega, (((ehp16 _ _ (Or.inr (by omega))).trans (fhp7.2.2.1 _ (bs_R.uq Hhp2 (g := 9) (p := 3) rfl).1 _ (by rw [(bs_R.uq Hhp2 (g := 9) (p := 3) rfl).2]; rfl)))).trans X3.2.1, Or.inr ⟨X2, by omega, rhp16.trans (congrArg some (by omega))⟩⟩⟩)⟩)
          · exfalso; omega
      · skip
        have c21 : z8.toInt = -1 := by omega
        refine Ev.step (j := 22) (s' := ([some (.ref a0), some (.ref 3), none], [.ref a0], (0, 0), hp7)) rfl rfl ?_
        refine Ev.step (j := 23) (s' := ([some (.ref a0), some (.ref 3), none], [.ref 3, .ref a0], (0, 0), hp7)) rfl rfl ?_
        refine bs_getLe (g := 9) rfl rfl Hhp7 (bs_R.uq Hhp7 (g := 9) rfl) (by decide) rfl h9 ?_
        refine bs_callx (K := kq_X7_manNamed_v) [.ref a0, .long w5] [] rfl ce_X7_manNamed_v Hhp7 rfl rfl rfl (bs_rcv (g := 7) Hhp7 (ra0.fr Fhp7) (by decide) rfl) rfl ?_ (sf_S_nil) fun r22 hp23 thp23 Hhp23 fhp23 ahp23 php23 xhp23 => ?_
        · intro q k h
          match q, h with
          | 0, h => cases h; exact bs_jR (ra0.fr Fhp7)
          | 1, h => cases h; exact sf_j2
          | q + 2, h => cases h
        obtain ⟨z24, rfl⟩ := bs_anI ahp23
        have rgz24 := n_range z24
        have Fhp23 := sf_fr_tr Fhp7 (sf_fr_wider (W := [(9, 4, 9)]) rfl fhp23)
        have h25 : sf_rl hp23 3 8 = some w5 := (sf_rl_cell (fhp23.2.2.2.1 _ (bs_R.uq Hhp7 (g := 9) (p := 3) rfl).1 (by rw [(bs_R.uq Hhp7 (g := 9) (p := 3) rfl).2]; rfl))).trans h9
        obtain ⟨uz24, vz24⟩ := bs_s1 (x := z24.toInt) rfl (php23 _ (List.mem_of_getElem? (i := 0) rfl))
        refine (show Ev _ 29 ([some (.ref a0), some (.ref 3), none], [.int z24], (0, 0), hp23) _ from ?_)
        refine bs_lit (k := -1) rfl rfl fun z26 hz26 => ?_
        refine bs_ne rfl (fun c27 => ?_) (fun c27 => ?_)
        · skip
          refine bs_lit (k := 0) rfl rfl fun z28 hz28 => ?_
          refine Ev.step (j := 39) (s' := ([some (.ref a0), some (.ref 3), some (.int z28)], [], (0, 0), hp23)) rfl rfl ?_
          refine Ev.step (j := 40) (s' := ([some (.ref a0), some (.ref 3), some (.int z28)], [.int z28], (0, 0), hp23)) rfl rfl ?_
          refine bs_ifne rfl (fun c29 => ?_) (fun c29 => ?_)
          · exfalso; omega
          · skip
            refine Ev.step (j := 44) (s' := ([some (.ref a0), some (.ref 3), some (.int z28)], [.ref 3], (0, 0), hp23)) rfl rfl ?_
            refine bs_lit (k := 3) rfl rfl fun z30 hz30 => ?_
            refine Ev.inl (L := L_X9_fail) (nL := 2) rfl (bs_rcv (g := 9) Hhp23 (bs_R.uq Hhp23 (g := 9) rfl) (by decide) rfl) rfl (Nat.le_of_ble_eq_true rfl) ?_
            generalize hQ31 : (fun (o : ab_O) => Ev _ _ _ _) = Q31
            refine (show Ev (ab_T L_X9_fail) 0 ([some (.ref 3), some (.int z30)], [], (0, 0), hp23) Q31 from ?_)
            refine Ev.step (j := 1) (s' := ([some (.ref 3), some (.int z30)], [.ref 3], (0, 0), hp23)) rfl rfl ?_
            refine Ev.step (j := 2) (s' := ([some (.ref 3), some (.int z30)], [.int z30, .ref 3], (0, 0), hp23)) rfl rfl ?_
            refine bs_putIv (W := [(9, 9, 9)]) (g := 9) rfl rfl Hhp23 (bs_R.uq Hhp23 (g := 9) rfl) (by decide) rfl rfl rfl rfl (Or.inl rfl) (by omega) (by omega) fun hp32 Hhp32 fhp32 rhp32 ehp32 qhp32 nhp32 => ?_
            have Fhp32 := sf_fr_tr Fhp23 (sf_fr_wider (W := [(9, 4, 9)]) rfl fhp32)
            have h33 : sf_rl hp32 3 8 = some w5 := (nhp32 _ _).trans h25
            refine bs_lit (k := 0) rfl rfl fun z34 hz34 => ?_
            refine bs_zret rfl rfl (by omega) (by omega) ?_
            rw [← hQ31]
            refine (show Ev _ 48 ([some (.ref a0), some (.ref 3), some (.int z28)], [.int z34], (0, 0), hp32) _ from ?_)
            refine bs_ifeq rfl (fun c35 => ?_) (fun c35 => ?_)
            · skip
              refine bs_lit (k := 0) rfl rfl fun z36 hz36 => ?_
              exact bs_zret rfl rfl (by omega) (by omega) (by rw [hQ]; exact ⟨thp23, Hhp32, Fhp32, bs_an0, sf_S_cons (sf_s1 (x := z36.toInt) rfl (by omega) (by omega)) (sf_S_nil), (fun a s B n lim m i ha hS hC hi_ => by
                      cases ha
                      obtain ⟨q1, rq1, X1⟩ := xhp2 B n lim m i hC hi_
                      obtain rfl := Value.int.inj (Option.some.inj rq1)
                      obtain ⟨Y1, X2, X3, X4, X5⟩ := X1.resolve_right (fun h => absurd h.1 (by omega))
                      obtain ⟨wq9, W1, W2⟩ := X3.2.2.2 X2
                      have WE : w5 = wq9 := Option.some.inj (hw5.symm.trans W1)
                      have LW9 := (tok_wok B n lim i (Or.inl X2)).1
                      have S1 := SC_fr H ra0 hS fhp2 rfl rfl
                      have S2 := SC_fr Hhp2 (ra0.fr fhp2) S1 fhp7 rfl rfl
                      obtain ⟨q2, rq2, G2⟩ := xhp7 _ _ s (tok B n lim i).v rfl S1 (by rw [WE]; exact W2) LW9
                      obtain rfl := Value.int.inj (Option.some.inj rq2)
                      obtain ⟨q3, rq3, G3⟩ := xhp23 _ _ s (tok B n lim i).v rfl S2 (by rw [WE]; exact W2) LW9
                      obtain rfl := Value.int.inj (Option.some.inj rq3)
                      exact ⟨z36, rfl, Or.inr ⟨by omega, (((ehp32 _ _ (Or.inr (by omega))).trans ((fhp23.2.2.1 _ (bs_R.uq Hhp7 (g := 9) (p := 3) rfl).1 _ (by rw [(bs_R.uq Hhp7 (g := 9) (p := 3) rfl).2]; rfl)).trans (fhp7.2.2.1 _ (bs_R.uq Hhp2 (g := 9) (p := 3) rfl).1 _ (by rw [(bs_R.uq Hhp2 (g := 9) (p := 3) rfl).2]; rfl))))).trans X3.2.1, Or.inr ⟨X2, by omega, rhp32.trans (congrArg some (by omega))⟩⟩⟩)⟩)
            · exfalso; omega
        · skip
          have c37 : z24.toInt = -1 := by omega
          refine bs_lit (k := 1) rfl rfl fun z38 hz38 => ?_
          refine Ev.step (j := 38) (s' := ([some (.ref a0), some (.ref 3), none], [.int z38], (0, 0), hp23)) rfl rfl ?_
          refine Ev.step (j := 39) (s' := ([some (.ref a0), some (.ref 3), some (.int z38)], [], (0, 0), hp23)) rfl rfl ?_
          refine Ev.step (j := 40) (s' := ([some (.ref a0), some (.ref 3), some (.int z38)], [.int z38], (0, 0), hp23)) rfl rfl ?_
          refine bs_ifne rfl (fun c39 => ?_) (fun c39 => ?_)
          · skip
            refine bs_lit (k := 1) rfl rfl fun z40 hz40 => ?_
            refine Ev.step (j := 56) (s' := ([some (.ref a0), some (.ref 3), some (.int z38)], [.int z40], (0, 0), hp23)) rfl rfl ?_
            exact bs_zret rfl rfl (by omega) (by omega) (by rw [hQ]; exact ⟨thp23, Hhp23, Fhp23, bs_an0, sf_S_cons (sf_s1 (x := z40.toInt) rfl (by omega) (by omega)) (sf_S_nil), (fun a s B n lim m i ha hS hC hi_ => by
                    cases ha
                    obtain ⟨q1, rq1, X1⟩ := xhp2 B n lim m i hC hi_
                    obtain rfl := Value.int.inj (Option.some.inj rq1)
                    obtain ⟨Y1, X2, X3, X4, X5⟩ := X1.resolve_right (fun h => absurd h.1 (by omega))
                    obtain ⟨wq9, W1, W2⟩ := X3.2.2.2 X2
                    have WE : w5 = wq9 := Option.some.inj (hw5.symm.trans W1)
                    have LW9 := (tok_wok B n lim i (Or.inl X2)).1
                    have S1 := SC_fr H ra0 hS fhp2 rfl rfl
                    have S2 := SC_fr Hhp2 (ra0.fr fhp2) S1 fhp7 rfl rfl
                    obtain ⟨q2, rq2, G2⟩ := xhp7 _ _ s (tok B n lim i).v rfl S1 (by rw [WE]; exact W2) LW9
                    obtain rfl := Value.int.inj (Option.some.inj rq2)
                    obtain ⟨q3, rq3, G3⟩ := xhp23 _ _ s (tok B n lim i).v rfl S2 (by rw [WE]; exact W2) LW9
                    obtain rfl := Value.int.inj (Option.some.inj rq3)
                    have C1 := TKS_fr Hhp2 X4.1 fhp7 rfl rfl rfl rfl
                    have C2 := TKS_fr Hhp7 C1 fhp23 rfl rfl rfl rfl
                    exact ⟨z40, rfl, Or.inl ⟨by omega, X2, by omega, ⟨(((fhp23.2.2.1 _ (bs_R.uq Hhp7 (g := 9) (p := 3) rfl).1 _ (by rw [(bs_R.uq Hhp7 (g := 9) (p := 3) rfl).2]; rfl)).trans (fhp7.2.2.1 _ (bs_R.uq Hhp2 (g := 9) (p := 3) rfl).1 _ (by rw [(bs_R.uq Hhp2 (g := 9) (p := 3) rfl).2]; rfl)))).trans X3.1, (((fhp23.2.2.1 _ (bs_R.uq Hhp7 (g := 9) (p := 3) rfl).1 _ (by rw [(bs_R.uq Hhp7 (g := 9) (p := 3) rfl).2]; rfl)).trans (fhp7.2.2.1 _ (bs_R.uq Hhp2 (g := 9) (p := 3) rfl).1 _ (by rw [(bs_R.uq Hhp2 (g := 9) (p := 3) rfl).2]; rfl)))).trans X3.2.1, fun h => (((fhp23.2.2.1 _ (bs_R.uq Hhp7 (g := 9) (p := 3) rfl).1 _ (by rw [(bs_R.uq Hhp7 (g := 9) (p := 3) rfl).2]; rfl)).trans (fhp7.2.2.1 _ (bs_R.uq Hhp2 (g := 9) (p := 3) rfl).1 _ (by rw [(bs_R.uq Hhp2 (g := 9) (p := 3) rfl).2]; rfl)))).trans (X3.2.2.1 h), fun h => by obtain ⟨w, g1, g2⟩ := X3.2.2.2 h; exact CURn_i ((((sf_rl_cell (fhp23.2.2.2.1 _ (bs_R.uq Hhp7 (g := 9) (p := 3) rfl).1 (by rw [(bs_R.uq Hhp7 (g := 9) (p := 3) rfl).2]; rfl))).trans (sf_rl_cell (fhp7.2.2.2.1 _ (bs_R.uq Hhp2 (g := 9) (p := 3) rfl).1 (by rw [(bs_R.uq Hhp2 (g := 9) (p := 3) rfl).2]; rfl))))).trans g1) g2⟩, ⟨C2, (((fhp23.2.2.1 _ (bs_R.uq Hhp7 (g := 9) (p := 3) rfl).1 _ (by rw [(bs_R.uq Hhp7 (g := 9) (p := 3) rfl).2]; rfl)).trans (fhp7.2.2.1 _ (bs_R.uq Hhp2 (g := 9) (p := 3) rfl).1 _ (by rw [(bs_R.uq Hhp2 (g := 9) (p := 3) rfl).2]; rfl)))).trans X4.2.1, X4.2.2⟩, (((fhp23.2.2.1 _ (bs_R.uq Hhp7 (g := 9) (p := 3) rfl).1 _ (by rw [(bs_R.uq Hhp7 (g := 9) (p := 3) rfl).2]; rfl)).trans (fhp7.2.2.1 _ (bs_R.uq Hhp2 (g := 9) (p := 3) rfl).1 _ (by rw [(bs_R.uq Hhp2 (g := 9) (p := 3) rfl).2]; rfl)))).trans X5⟩⟩)⟩)
          · exfalso; omega
    · skip
      have c41 : z3.toInt = 0 := by omega
      refine bs_lit (k := 0) rfl rfl fun z42 hz42 => ?_
      exact bs_zret rfl rfl (by omega) (by omega) (by rw [hQ]; exact ⟨thp2, Hhp2, Fhp2, bs_an0, sf_S_cons (sf_s1 (x := z42.toInt) rfl (by omega) (by omega)) (sf_S_nil), (fun a s B n lim m i ha hS hC hi_ => by
              cases ha
              obtain ⟨q1, rq1, X1⟩ := xhp2 B n lim m i hC hi_
              obtain rfl := Value.int.inj (Option.some.inj rq1)
              rcases X1 with X | ⟨_, X2, X3, X4⟩
              · exact absurd X.1 (by omega)
              · exact ⟨z42, rfl, Or.inr ⟨by omega, X2, Or.inl ⟨X3, X4⟩⟩⟩)⟩)
def kq_X7_readGood_v : sf_Q := ([(1, 7, 0), (1, 9, 0)], [], some (0, 0, 0), [(1, 0, 0, 0, 1, 0)], [(7, 8, 8), (9, 4, 9), (116, 0, 0)])
def ke_X7_readGood_v : List Value → ab_H → Option Value → ab_H → Prop := fun as hp r hp' => ∀ (a : Nat) (s : PS) (B : Nat → Int) (n lim m j : Nat), as = [.ref a, .ref 3] → SC hp a s → CK hp B n lim m (j + 1) → j + 1 < m → sf_rd hp 3 6 = some (tok B n lim j).pl → sf_rd hp 3 9 = some 0 → LRES hp' a B n lim m r (lnGood (tok B n lim) s j)
set_option maxRecDepth 100000 in
set_option maxHeartbeats 4000000 in
theorem ce_X7_readGood_v : sf_cE kq_X7_readGood_v Z_X7_readGood ke_X7_readGood_v := by
  intro t hp as H hl hj hpre
  match as, hl with
  | [v0, v1], _ =>
    obtain ⟨a0, rfl, ra0⟩ := bs_aR (hj 0 _ rfl)
    obtain ⟨a1, rfl, ra1⟩ := bs_aR (hj 1 _ rfl)
    obtain rfl := ra1.eq H (p := 3) rfl
    clear hpre hj
    have F0 : sf_fr [(7, 8, 8), (9, 4, 9), (116, 0, 0)] t hp t hp := sf_fr_rf
    refine bs_finx (E := ke_X7_readGood_v) (K := kq_X7_readGood_v) (L := (L_X7_readGood Z_X9_fail Z_X7_takeNewName)) (nL := 2) (Nat.le_of_ble_eq_true rfl) ?_
    obtain ⟨Q, hQ⟩ : ∃ Q : ab_O → Prop, Q = (fun o => ∃ t', sf_h t' o.2 ∧ sf_fr (kq_X7_readGood_v).2.2.2.2 t hp t' o.2 ∧ sf_an t' o.2.1 (kq_X7_readGood_v).2.2.1 o.1 ∧ sf_S (sf_v1 o.1 [.ref a0, .ref 3] o.2) (kq_X7_readGood_v).2.2.2.1 ∧ ke_X7_readGood_v [.ref a0, .ref 3] hp o.1 o.2) := ⟨_, rfl⟩
    rw [← hQ]
    refine (show Ev (ab_T (L_X7_readGood Z_X9_fail Z_X7_takeNewName)) 0 ([some (.ref a0), some (.ref 3)], [], (0, 0), hp) Q from ?_)
    refine Ev.step (j := 1) (s' := ([some (.ref a0), some (.ref 3)], [.ref a0], (0, 0), hp)) rfl rfl ?_
    refine bs_getI 7 rfl rfl rfl H (ra0.fr F0) (by decide) rfl fun z1 hz1 lz1 gz1 => ?_
    refine bs_lit (k := 6) rfl rfl fun z2 hz2 => ?_
    refine bs_lt rfl (fun c3 => ?_) (fun c3 => ?_)
    · skip
      refine Ev.step (j := 16) (s' := ([some (.ref a0), some (.ref 3)], [.ref a0], (0, 0), hp)) rfl rfl ?_
      refine Ev.step (j := 17) (s' := ([some (.ref a0), some (.ref 3)], [.ref 3, .ref a0], (0, 0), hp)) rfl rfl ?_
      refine bs_callx (K := kq_X7_takeNewName_v) [.ref a0, .ref 3] [] rfl ce_X7_takeNewName_v H rfl rfl rfl (bs_rcv (g := 7) H (ra0.fr F0) (by decide) rfl) rfl ?_ (sf_S_nil) fun r4 hp5 thp5 Hhp5 fhp5 ahp5 php5 xhp5 => ?_
      · intro q k h
        match q, h with
        | 0, h => cases h; exact bs_jR (ra0.fr F0)
        | 1, h => cases h; exact bs_jR (bs_R.uq H (g := 9) rfl)
        | q + 2, h => cases h
      obtain ⟨z6, rfl⟩ := bs_anI ahp5
      have rgz6 := n_range z6
      have Fhp5 := sf_fr_tr F0 (sf_fr_wider (W := [(7, 8, 8), (9, 4, 9), (116, 0, 0)]) rfl fhp5)
      have h7 : sf_rd hp5 a0 8 = some z1.toInt := (fhp5.2.2.1 _ (ra0.fr F0).1 _ (by rw [(ra0.fr F0).2]; rfl)).trans hz1
      obtain ⟨uz6, vz6⟩ := bs_s1 (x := z6.toInt) rfl (php5 _ (List.mem_of_getElem? (i := 0) rfl))
      refine (show Ev _ 20 ([some (.ref a0), some (.ref 3)], [.int z6], (0, 0), hp5) _ from ?_)
      refine bs_ifne rfl (fun c8 => ?_) (fun c8 => ?_)
      · skip
        refine Ev.step (j := 26) (s' := ([some (.ref a0), some (.ref 3)], [.ref a0], (0, 0), hp5)) rfl rfl ?_
        refine bs_getR (g := 7) (g1 := 116) rfl rfl Hhp5 (ra0.fr Fhp5) (by decide) rfl fun b9 qb9 rb9 => ?_
        refine Ev.step (j := 30) (s' := ([some (.ref a0), some (.ref 3)], [.ref a0, .ref b9], (0, 0), hp5)) rfl rfl ?_
        refine bs_getI 7 rfl rfl rfl Hhp5 (ra0.fr Fhp5) (by decide) rfl fun z10 hz10 lz10 gz10 => ?_
        have e11 : z10.toInt = z1.toInt := Option.some.inj (hz10.symm.trans h7)
        refine Ev.step (j := 34) (s' := ([some (.ref a0), some (.ref 3)], [.ref 3, .int z10, .ref b9], (0, 0), hp5)) rfl rfl ?_
        refine bs_getLv (g := 9) rfl rfl Hhp5 (bs_R.uq Hhp5 (g := 9) rfl) (by decide) rfl fun w12 hw12 => ?_
        refine bs_lastv (W := [(116, 0, 0)]) (g := 116) rfl Hhp5 rb9 (by decide) rfl rfl (by omega) (by show _ < ((6 : Nat) : Int); omega) fun hp13 Hhp13 fhp13 mhp13 lhp13 ehp13 qhp13 => ?_
        have Fhp13 := sf_fr_tr Fhp5 (sf_fr_wider (W := [(7, 8, 8), (9, 4, 9), (116, 0, 0)]) rfl fhp13)
        have h14 : sf_rd hp13 a0 8 = some z1.toInt := (ehp13 _ _).trans h7
        have h15 : sf_rl hp13 3 8 = some w12 := (lhp13 _ _ (Or.inl (bs_nq (bs_R.uq Hhp5 (g := 9) rfl) rb9 (by decide)))).trans hw12
        have r16 := rb9.fr fhp13
        refine Ev.step (j := 39) (s' := ([some (.ref a0), some (.ref 3)], [.ref a0], (0, 0), hp13)) rfl rfl ?_
        refine Ev.step (j := 40) (s' := ([some (.ref a0), some (.ref 3)], [.ref a0, .ref a0], (0, 0), hp13)) rfl rfl ?_
        refine bs_getI 7 rfl rfl rfl Hhp13 (ra0.fr Fhp13) (by decide) rfl fun z17 hz17 lz17 gz17 => ?_
        have e18 : z17.toInt = z1.toInt := Option.some.inj (hz17.symm.trans h14)
        refine bs_lit (k := 1) rfl rfl fun z19 hz19 => ?_
        first | (refine bs_add rfl (by omega) (by omega) fun z20 hz20 => ?_) | (refine bs_any rfl fun z20 => ?_)
        have rz20 := n_range z20
        refine bs_putIv (W := [(7, 8, 8)]) (g := 7) rfl rfl Hhp13 (ra0.fr Fhp13) (by decide) rfl rfl rfl rfl (Or.inl rfl) (by omega) (by omega) fun hp21 Hhp21 fhp21 rhp21 ehp21 qhp21 nhp21 => ?_
        have Fhp21 := sf_fr_tr Fhp13 (sf_fr_wider (W := [(7, 8, 8), (9, 4, 9), (116, 0, 0)]) rfl fhp21)
        have h22 : sf_rl hp21 3 8 = some w12 := (nhp21 _ _).trans h15
        have h23 : sf_rl hp21 b9 z10.toInt.toNat = some w12 := (nhp21 _ _).trans mhp13
        have r24 := r16.fr fhp21
        refine bs_lit (k := 1) rfl rfl fun z25 hz25 => ?_
        exact bs_zret rfl rfl (by omega) (by omega) (by rw [hQ]; exact ⟨thp5, Hhp21, Fhp21, bs_an0, sf_S_cons (sf_s1 (x := z25.toInt) rfl (by omega) (by omega)) (sf_S_nil), (fun a s B n lim m j ha hS hC hj hpl h9 => by
                cases ha
                have GE : z1.toInt = s.h 0 := Option.some.inj (hz1.symm.trans hS.goods)
                rw [show lnGood (tok B n lim) s j = _ from if_neg (by omega)]
                obtain ⟨q1, rq1, X1⟩ := xhp5 _ s B n lim m (j + 1) rfl hS hC hj
                obtain rfl := Value.int.inj (Option.some.inj rq1)
                obtain ⟨Y0, Y1, Y2, Y3, Y4, Y5⟩ := X1.resolve_right (fun h => absurd h.1 (by omega))
                rw [lnew_o Y1 Y2]
                have S1 := SC_fr H ra0 hS fhp5 rfl rfl
                have C1 := TKS_fr Hhp5 Y4.1 fhp13 rfl rfl rfl rfl
                have C2 := TKS_fr Hhp13 C1 fhp21 rfl rfl rfl rfl
                obtain ⟨wq9, W1, W2⟩ := Y3.2.2.2 Y1
                have WE : w12 = wq9 := Option.some.inj (hw12.symm.trans W1)
                have LW9 := (tok_wok B n lim (j + 1) (Or.inl Y1)).1
                have EB0 := rrD_of qb9
                have EI : (s.h 0).toNat = z10.toInt.toNat := by omega
                exact LRES_ok ⟨z25, rfl, by omega⟩ (SC_good (w := w12) Hhp5 (ra0.fr fhp5) S1 (by omega) (by omega) (by rw [WE]; exact W2) LW9 (fun k => ((qhp21 _ _).trans (qhp13 _ _))) (by rw [EB0, EI]; exact (nhp21 _ _).trans mhp13) (fun b q h => (nhp21 _ _).trans (lhp13 _ _ (by rw [EB0, EI] at h; exact h))) (fun b q h => (ehp21 _ _ h).trans (ehp13 _ _)) (rhp21.trans (congrArg some (by omega)))) ⟨C2, (((ehp21 _ _ (Or.inl (bs_nq (bs_R.uq Hhp13 (g := 9) rfl) (ra0.fr Fhp13) (by decide)))).trans (ehp13 _ _))).trans Y4.2.1, Y4.2.2⟩ ((((ehp21 _ _ (Or.inl (bs_nq (bs_R.uq Hhp13 (g := 9) rfl) (ra0.fr Fhp13) (by decide)))).trans (ehp13 _ _))).trans (Y5.trans h9)) (CK_more Y4.1 hj (by omega) (by omega)))⟩)
      · skip
        have c26 : z6.toInt = 0 := by omega
        refine bs_lit (k := 0) rfl rfl fun z27 hz27 => ?_
        exact bs_zret rfl rfl (by omega) (by omega) (by rw [hQ]; exact ⟨thp5, Hhp5, Fhp5, bs_an0, sf_S_cons (sf_s1 (x := z27.toInt) rfl (by omega) (by omega)) (sf_S_nil), (fun a s B n lim m j ha hS hC hj hpl h9 => by
                cases ha
                have GE : z1.toInt = s.h 0 := Option.some.inj (hz1.symm.trans hS.goods)
                rw [show lnGood (tok B n lim) s j = _ from if_neg (by omega)]
                obtain ⟨q1, rq1, X1⟩ := xhp5 _ s B n lim m (j + 1) rfl hS hC hj
                obtain rfl := Value.int.inj (Option.some.inj rq1)
                rcases X1.resolve_left (fun h => absurd h.1 (by omega)) with ⟨_, P1, ⟨P2, P3⟩ | ⟨P2, P4, P3⟩⟩
                · rw [lnew_1 P2]
                  exact LRES_bad ⟨z27, rfl, by omega⟩ (P3) (P1)
                · rw [lnew_3 P2 P4]
                  exact LRES_bad ⟨z27, rfl, by omega⟩ (P3) (P1))⟩)
    · skip
      refine Ev.step (j := 10) (s' := ([some (.ref a0), some (.ref 3)], [.ref 3], (0, 0), hp)) rfl rfl ?_
      refine bs_lit (k := 4) rfl rfl fun z28 hz28 => ?_
      refine Ev.inl (L := L_X9_fail) (nL := 2) rfl (bs_rcv (g := 9) H (bs_R.uq H (g := 9) rfl) (by decide) rfl) rfl (Nat.le_of_ble_eq_true rfl) ?_
      generalize hQ29 : (fun (o : ab_O) => Ev _ _ _ _) = Q29
      refine (show Ev (ab_T L_X9_fail) 0 ([some (.ref 3), some (.int z28)], [], (0, 0), hp) Q29 from ?_)
      refine Ev.step (j := 1) (s' := ([some (.ref 3), some (.int z28)], [.ref 3], (0, 0), hp)) rfl rfl ?_
      refine Ev.step (j := 2) (s' := ([some (.ref 3), some (.int z28)], [.int z28, .ref 3], (0, 0), hp)) rfl rfl ?_
      refine bs_putIv (W := [(9, 9, 9)]) (g := 9) rfl rfl H (bs_R.uq H (g := 9) rfl) (by decide) rfl rfl rfl rfl (Or.inl rfl) (by omega) (by omega) fun hp30 Hhp30 fhp30 rhp30 ehp30 qhp30 nhp30 => ?_
      have Fhp30 := sf_fr_tr F0 (sf_fr_wider (W := [(7, 8, 8), (9, 4, 9), (116, 0, 0)]) rfl fhp30)
      have h31 : sf_rd hp30 a0 8 = some z1.toInt := (ehp30 _ _ (Or.inl (bs_nq (ra0.fr F0) (bs_R.uq H (g := 9) rfl) (by decide)))).trans hz1
      refine bs_lit (k := 0) rfl rfl fun z32 hz32 => ?_
      refine bs_zret rfl rfl (by omega) (by omega) ?_
      rw [← hQ29]
      refine (show Ev _ 14 ([some (.ref a0), some (.ref 3)], [.int z32], (0, 0), hp30) _ from ?_)
      exact bs_zret rfl rfl (by omega) (by omega) (by rw [hQ]; exact ⟨t, Hhp30, Fhp30, bs_an0, sf_S_cons (sf_s1 (x := z32.toInt) rfl (by omega) (by omega)) (sf_S_nil), (fun a s B n lim m j ha hS hC hj hpl h9 => by
              cases ha
              have GE : z1.toInt = s.h 0 := Option.some.inj (hz1.symm.trans hS.goods)
              rw [show lnGood (tok B n lim) s j = _ from if_pos (by omega)]
              exact LRES_bad ⟨z32, rfl, by omega⟩ (rhp30.trans (congrArg some (by omega))) (((ehp30 _ _ (Or.inr (by omega)))).trans hpl))⟩)
def kq_X7_readMan_v : sf_Q := ([(1, 7, 0), (1, 9, 0)], [], some (0, 0, 0), [(1, 0, 0, 0, 1, 0)], [(7, 9, 9), (9, 4, 9), (117, 0, 0), (118, 0, 7)])
def ke_X7_readMan_v : List Value → ab_H → Option Value → ab_H → Prop := fun as hp r hp' => ∀ (a : Nat) (s : PS) (B : Nat → Int) (n lim m j : Nat), as = [.ref a, .ref 3] → SC hp a s → CK hp B n lim m (j + 1) → j + 1 < m → sf_rd hp 3 6 = some (tok B n lim j).pl → sf_rd hp 3 9 = some 0 → LRES hp' a B n lim m r (lnMan (tok B n lim) s j)
set_option maxRecDepth 100000 in
set_option maxHeartbeats 4000000 in
theorem ce_X7_readMan_v : sf_cE kq_X7_readMan_v Z_X7_readMan ke_X7_readMan_v := by
  intro t hp as H hl hj hpre
  match as, hl with
  | [v0, v1], _ =>
    obtain ⟨a0, rfl, ra0⟩ := bs_aR (hj 0 _ rfl)
    obtain ⟨a1, rfl, ra1⟩ := bs_aR (hj 1 _ rfl)
    obtain rfl := ra1.eq H (p := 3) rfl
    clear hpre hj
    have F0 : sf_fr [(7, 9, 9), (9, 4, 9), (117, 0, 0), (118, 0, 7)] t hp t hp := sf_fr_rf
    refine bs_finx (E := ke_X7_readMan_v) (K := kq_X7_readMan_v) (L := (L_X7_readMan Z_X9_fail Z_X7_takeNewName Z_X9_takeNumber)) (nL := 4) (Nat.le_of_ble_eq_true rfl) ?_
    obtain ⟨Q, hQ⟩ : ∃ Q : ab_O → Prop, Q = (fun o => ∃ t', sf_h t' o.2 ∧ sf_fr (kq_X7_readMan_v).2.2.2.2 t hp t' o.2 ∧ sf_an t' o.2.1 (kq_X7_readMan_v).2.2.1 o.1 ∧ sf_S (sf_v1 o.1 [.ref a0, .ref 3] o.2) (kq_X7_readMan_v).2.2.2.1 ∧ ke_X7_readMan_v [.ref a0, .ref 3] hp o.1 o.2) := ⟨_, rfl⟩
    rw [← hQ]
    refine (show Ev (ab_T (L_X7_readMan Z_X9_fail Z_X7_takeNewName Z_X9_takeNumber)) 0 ([some (.ref a0), some (.ref 3), none, none], [], (0, 0), hp) Q from ?_)
    refine Ev.step (j := 1) (s' := ([some (.ref a0), some (.ref 3), none, none], [.ref a0], (0, 0), hp)) rfl rfl ?_
    refine bs_getI 7 rfl rfl rfl H (ra0.fr F0) (by decide) rfl fun z1 hz1 lz1 gz1 => ?_
    refine bs_lit (k := 8) rfl rfl fun z2 hz2 => ?_
    refine bs_lt rfl (fun c3 => ?_) (fun c3 => ?_)
    · skip
      refine Ev.step (j := 16) (s' := ([some (.ref a0), some (.ref 3), none, none], [.ref a0], (0, 0), hp)) rfl rfl ?_
      refine Ev.step (j := 17) (s' := ([some (.ref a0), some (.ref 3), none, none], [.ref 3, .ref a0], (0, 0), hp)) rfl rfl ?_
      refine bs_callx (K := kq_X7_takeNewName_v) [.ref a0, .ref 3] [] rfl ce_X7_takeNewName_v H rfl rfl rfl (bs_rcv (g := 7) H (ra0.fr F0) (by decide) rfl) rfl ?_ (sf_S_nil) fun r4 hp5 thp5 Hhp5 fhp5 ahp5 php5 xhp5 => ?_
      · intro q k h
        match q, h with
        | 0, h => cases h; exact bs_jR (ra0.fr F0)
        | 1, h => cases h; exact bs_jR (bs_R.uq H (g := 9) rfl)
        | q + 2, h => cases h
      obtain ⟨z6, rfl⟩ := bs_anI ahp5
      have rgz6 := n_range z6
      have Fhp5 := sf_fr_tr F0 (sf_fr_wider (W := [(7, 9, 9), (9, 4, 9), (117, 0, 0), (118, 0, 7)]) rfl fhp5)
      have h7 : sf_rd hp5 a0 9 = some z1.toInt := (fhp5.2.2.1 _ (ra0.fr F0).1 _ (by rw [(ra0.fr F0).2]; rfl)).trans hz1
      obtain ⟨uz6, vz6⟩ := bs_s1 (x := z6.toInt) rfl (php5 _ (List.mem_of_getElem? (i := 0) rfl))
      refine (show Ev _ 20 ([some (.ref a0), some (.ref 3), none, none], [.int z6], (0, 0), hp5) _ from ?_)
      refine bs_ifne rfl (fun c8 => ?_) (fun c8 => ?_)
      · skip
        refine Ev.step (j := 26) (s' := ([some (.ref a0), some (.ref 3), none, none], [.ref 3], (0, 0), hp5)) rfl rfl ?_
        refine bs_getLv (g := 9) rfl rfl Hhp5 (bs_R.uq Hhp5 (g := 9) rfl) (by decide) rfl fun w9 hw9 => ?_
        refine Ev.step (j := 30) (s' := ([some (.ref a0), some (.ref 3), some (.long w9), none], [], (0, 0), hp5)) rfl rfl ?_
        refine Ev.step (j := 31) (s' := ([some (.ref a0), some (.ref 3), some (.long w9), none], [.ref 3], (0, 0), hp5)) rfl rfl ?_
        refine bs_lit (k := 0) rfl rfl fun z10 hz10 => ?_
        refine bs_lit (k := 1) rfl rfl fun z11 hz11 => ?_
        refine bs_callx (K := kq_X9_takeNumber_v) [.ref 3, .int z10, .int z11] [] rfl ce_X9_takeNumber_v Hhp5 rfl rfl rfl (bs_rcv (g := 9) Hhp5 (bs_R.uq Hhp5 (g := 9) rfl) (by decide) rfl) rfl ?_ (sf_S_nil) fun r12 hp13 thp13 Hhp13 fhp13 ahp13 php13 xhp13 => ?_
        · intro q k h
          match q, h with
          | 0, h => cases h; exact bs_jR (bs_R.uq Hhp5 (g := 9) rfl)
          | 1, h => cases h; exact sf_j0
          | 2, h => cases h; exact sf_j0
          | q + 3, h => cases h
        obtain ⟨z14, rfl⟩ := bs_anI ahp13
        have rgz14 := n_range z14
        have Fhp13 := sf_fr_tr Fhp5 (sf_fr_wider (W := [(7, 9, 9), (9, 4, 9), (117, 0, 0), (118, 0, 7)]) rfl fhp13)
        have h15 : sf_rd hp13 a0 9 = some z1.toInt := (fhp13.2.2.1 _ (ra0.fr Fhp5).1 _ (by rw [(ra0.fr Fhp5).2]; rfl)).trans h7
        obtain ⟨uz14, vz14⟩ := bs_s1 (x := z14.toInt) rfl (php13 _ (List.mem_of_getElem? (i := 0) rfl))
        refine (show Ev _ 36 ([some (.ref a0), some (.ref 3), some (.long w9), none], [.int z14], (0, 0), hp13) _ from ?_)
        refine bs_ifne rfl (fun c16 => ?_) (fun c16 => ?_)
        · skip
          refine Ev.step (j := 42) (s' := ([some (.ref a0), some (.ref 3), some (.long w9), none], [.ref a0], (0, 0), hp13)) rfl rfl ?_
          refine bs_getR (g := 7) (g1 := 117) rfl rfl Hhp13 (ra0.fr Fhp13) (by decide) rfl fun b17 qb17 rb17 => ?_
          refine Ev.step (j := 46) (s' := ([some (.ref a0), some (.ref 3), some (.long w9), none], [.ref a0, .ref b17], (0, 0), hp13)) rfl rfl ?_
          refine bs_getI 7 rfl rfl rfl Hhp13 (ra0.fr Fhp13) (by decide) rfl fun z18 hz18 lz18 gz18 => ?_
          have e19 : z18.toInt = z1.toInt := Option.some.inj (hz18.symm.trans h15)
          refine Ev.step (j := 50) (s' := ([some (.ref a0), some (.ref 3), some (.long w9), none], [.long w9, .int z18, .ref b17], (0, 0), hp13)) rfl rfl ?_
          refine bs_lastv (W := [(117, 0, 0)]) (g := 117) rfl Hhp13 rb17 (by decide) rfl rfl (by omega) (by show _ < ((8 : Nat) : Int); omega) fun hp20 Hhp20 fhp20 mhp20 lhp20 ehp20 qhp20 => ?_
          have Fhp20 := sf_fr_tr Fhp13 (sf_fr_wider (W := [(7, 9, 9), (9, 4, 9), (117, 0, 0), (118, 0, 7)]) rfl fhp20)
          have h21 : sf_rd hp20 a0 9 = some z1.toInt := (ehp20 _ _).trans h15
          have r22 := rb17.fr fhp20
          refine Ev.step (j := 52) (s' := ([some (.ref a0), some (.ref 3), some (.long w9), none], [.ref a0], (0, 0), hp20)) rfl rfl ?_
          refine bs_getR (g := 7) (g1 := 118) rfl rfl Hhp20 (ra0.fr Fhp20) (by decide) rfl fun b23 qb23 rb23 => ?_
          refine Ev.step (j := 56) (s' := ([some (.ref a0), some (.ref 3), some (.long w9), none], [.ref a0, .ref b23], (0, 0), hp20)) rfl rfl ?_
          refine bs_getI 7 rfl rfl rfl Hhp20 (ra0.fr Fhp20) (by decide) rfl fun z24 hz24 lz24 gz24 => ?_
          have e25 : z24.toInt = z1.toInt := Option.some.inj (hz24.symm.trans h21)
          refine Ev.step (j := 60) (s' := ([some (.ref a0), some (.ref 3), some (.long w9), none], [.ref 3, .int z24, .ref b23], (0, 0), hp20)) rfl rfl ?_
          refine bs_getI 9 rfl rfl rfl Hhp20 (bs_R.uq Hhp20 (g := 9) rfl) (by decide) rfl fun z26 hz26 lz26 gz26 => ?_
          refine bs_stv (W := [(118, 0, 7)]) (g := 118) 0 7 (-2147483648, 2147483647) rfl Hhp20 rb23 (by decide) rfl rfl (by decide) rfl rfl (by omega) (by omega) (by dsimp only; omega) (by dsimp only; omega) fun hp27 Hhp27 fhp27 rhp27 ehp27 qhp27 nhp27 => ?_
          have Fhp27 := sf_fr_tr Fhp20 (sf_fr_wider (W := [(7, 9, 9), (9, 4, 9), (117, 0, 0), (118, 0, 7)]) rfl fhp27)
          have h28 : sf_rd hp27 a0 9 = some z1.toInt := (ehp27 _ _ (Or.inl (bs_nq (ra0.fr Fhp20) rb23 (by decide)))).trans h21
          have h29 : sf_rd hp27 3 7 = some z26.toInt := (ehp27 _ _ (Or.inl (bs_nq (bs_R.uq Hhp20 (g := 9) rfl) rb23 (by decide)))).trans hz26
          have h30 : sf_rl hp27 b17 z18.toInt.toNat = some w9 := (nhp27 _ _).trans mhp20
          have r31 := r22.fr fhp27
          have r32 := rb23.fr fhp27
          refine Ev.step (j := 65) (s' := ([some (.ref a0), some (.ref 3), some (.long w9), none], [.ref a0], (0, 0), hp27)) rfl rfl ?_
          refine Ev.step (j := 66) (s' := ([some (.ref a0), some (.ref 3), some (.long w9), none], [.ref a0, .ref a0], (0, 0), hp27)) rfl rfl ?_
          refine bs_getI 7 rfl rfl rfl Hhp27 (ra0.fr Fhp27) (by decide) rfl fun z33 hz33 lz33 gz33 => ?_
          have e34 : z33.toInt = z1.toInt := Option.some.inj (hz33.symm.trans h28)
          refine bs_lit (k := 1) rfl rfl fun z35 hz35 => ?_
          first | (refine bs_add rfl (by omega) (by omega) fun z36 hz36 => ?_) | (refine bs_any rfl fun z36 => ?_)
          have rz36 := n_range z36
          refine bs_putIv (W := [(7, 9, 9)]) (g := 7) rfl rfl Hhp27 (ra0.fr Fhp27) (by decide) rfl rfl rfl rfl (Or.inl rfl) (by omega) (by omega) fun hp37 Hhp37 fhp37 rhp37 ehp37 qhp37 nhp37 => ?_
          have Fhp37 := sf_fr_tr Fhp27 (sf_fr_wider (W := [(7, 9, 9), (9, 4, 9), (117, 0, 0), (118, 0, 7)]) rfl fhp37)
          have h38 : sf_rd hp37 3 7 = some z26.toInt := (ehp37 _ _ (Or.inl (bs_nq (bs_R.uq Hhp27 (g := 9) rfl) (ra0.fr Fhp27) (by decide)))).trans h29
          have h39 : sf_rd hp37 b23 z24.toInt.toNat = some z26.toInt := (ehp37 _ _ (Or.inl (bs_nq r32 (ra0.fr Fhp27) (by decide)))).trans rhp27
          have h40 : sf_rl hp37 b17 z18.toInt.toNat = some w9 := (nhp37 _ _).trans h30
          have r41 := r31.fr fhp37
          have r42 := r32.fr fhp37
          refine bs_lit (k := 1) rfl rfl fun z43 hz43 => ?_
          exact bs_zret rfl rfl (by omega) (by omega) (by rw [hQ]; exact ⟨thp13, Hhp37, Fhp37, bs_an0, sf_S_cons (sf_s1 (x := z43.toInt) rfl (by omega) (by omega)) (sf_S_nil), (fun a s B n lim m j ha hS hC hj hpl h9 => by
                  cases ha
                  have GE : z1.toInt = s.h 1 := Option.some.inj (hz1.symm.trans hS.men)
                  rw [show lnMan (tok B n lim) s j = _ from if_neg (by omega)]
                  obtain ⟨q1, rq1, X1⟩ := xhp5 _ s B n lim m (j + 1) rfl hS hC hj
                  obtain rfl := Value.int.inj (Option.some.inj rq1)
                  obtain ⟨Y0, Y1, Y2, Y3, Y4, Y5⟩ := X1.resolve_right (fun h => absurd h.1 (by omega))
                  rw [lnew_o Y1 Y2]
                  have J2 : j + 2 < m := CK_more Y4.1 hj (by omega) (by omega)
                  obtain ⟨q2, rq2, X2⟩ := (xhp13 _ _ rfl).2 B n lim m (j + 2) Y4 J2
                  obtain rfl := Value.int.inj (Option.some.inj rq2)
                  obtain ⟨Z0, Z1, Z2, Z3, Z4, Z5, Z6⟩ := X2.resolve_right (fun h => absurd h.1 (by omega))
                  rw [lnum_o Z1 (by omega) (by omega)]
                  have S1 := SC_fr H ra0 hS fhp5 rfl rfl
                  have S2 := SC_fr Hhp5 (ra0.fr fhp5) S1 fhp13 rfl rfl
                  have C1 := TKS_fr Hhp13 Z5.1 fhp20 rfl rfl rfl rfl
                  have C2 := TKS_fr Hhp20 C1 fhp27 rfl rfl rfl rfl
                  have C3 := TKS_fr Hhp27 C2 fhp37 rfl rfl rfl rfl
                  obtain ⟨wq9, W1, W2⟩ := Y3.2.2.2 Y1
                  have WE : w9 = wq9 := Option.some.inj (hw9.symm.trans W1)
                  have LW9 := (tok_wok B n lim (j + 1) (Or.inl Y1)).1
                  have VV : z26.toInt = (tok B n lim (j + 2)).v := Option.some.inj (hz26.symm.trans (((ehp20 _ _)).trans (Z4.2.2.1 Z1)))
                  have EB1 := rrD_of qb17
                  have EB2 := rrD_of ((qhp20 _ _).symm.trans qb23)
                  have EI : (s.h 1).toNat = z18.toInt.toNat := by omega
                  have EJ : (s.h 1).toNat = z24.toInt.toNat := by omega
                  exact LRES_ok ⟨z43, rfl, by omega⟩ (SC_man (w := w9) Hhp13 ((ra0.fr fhp5).fr fhp13) S2 (by omega) (by rw [WE]; exact W2) LW9 (fun k => ((qhp37 _ _).trans ((qhp27 _ _).trans (qhp20 _ _)))) (by rw [EB1, EI]; exact (nhp37 _ _).trans ((nhp27 _ _).trans mhp20)) (fun b q h => (nhp37 _ _).trans ((nhp27 _ _).trans (lhp20 _ _ (by rw [EB1, EI] at h; exact h)))) (fun b q h g => (ehp37 _ _ h).trans ((ehp27 _ _ (by rw [EB2, EJ] at g; exact g)).trans (ehp20 _ _))) (rhp37.trans (congrArg some (by omega))) (by rw [EB2, EJ]; exact h39.trans (congrArg some VV))) ⟨C3, (((ehp37 _ _ (Or.inl (bs_nq (bs_R.uq Hhp27 (g := 9) rfl) (ra0.fr Fhp27) (by decide)))).trans ((ehp27 _ _ (Or.inl (bs_nq (bs_R.uq Hhp20 (g := 9) rfl) rb23 (by decide)))).trans (ehp20 _ _)))).trans Z5.2.1, Z5.2.2⟩ ((((ehp37 _ _ (Or.inl (bs_nq (bs_R.uq Hhp27 (g := 9) rfl) (ra0.fr Fhp27) (by decide)))).trans ((ehp27 _ _ (Or.inl (bs_nq (bs_R.uq Hhp20 (g := 9) rfl) rb23 (by decide)))).trans (ehp20 _ _)))).trans (Z6.trans (Y5.trans h9))) (CK_more Z5.1 J2 (by omega) (by omega)))⟩)
        · skip
          have c44 : z14.toInt = 0 := by omega
          refine bs_lit (k := 0) rfl rfl fun z45 hz45 => ?_
          exact bs_zret rfl rfl (by omega) (by omega) (by rw [hQ]; exact ⟨thp13, Hhp13, Fhp13, bs_an0, sf_S_cons (sf_s1 (x := z45.toInt) rfl (by omega) (by omega)) (sf_S_nil), (fun a s B n lim m j ha hS hC hj hpl h9 => by
                  cases ha
                  have GE : z1.toInt = s.h 1 := Option.some.inj (hz1.symm.trans hS.men)
                  rw [show lnMan (tok B n lim) s j = _ from if_neg (by omega)]
                  obtain ⟨q1, rq1, X1⟩ := xhp5 _ s B n lim m (j + 1) rfl hS hC hj
                  obtain rfl := Value.int.inj (Option.some.inj rq1)
                  obtain ⟨Y0, Y1, Y2, Y3, Y4, Y5⟩ := X1.resolve_right (fun h => absurd h.1 (by omega))
                  rw [lnew_o Y1 Y2]
                  have J2 : j + 2 < m := CK_more Y4.1 hj (by omega) (by omega)
                  obtain ⟨q2, rq2, X2⟩ := (xhp13 _ _ rfl).2 B n lim m (j + 2) Y4 J2
                  obtain rfl := Value.int.inj (Option.some.inj rq2)
                  rcases X2.resolve_left (fun h => absurd h.1 (by omega)) with ⟨_, P1, ⟨P2, P3⟩ | ⟨P2, P4, P3⟩⟩
                  · rw [lnum_1 P2]
                    exact LRES_bad ⟨z45, rfl, by omega⟩ (P3) (P1)
                  · rw [lnum_2 P2 (by omega)]
                    exact LRES_bad ⟨z45, rfl, by omega⟩ (P3) (P1))⟩)
      · skip
        have c46 : z6.toInt = 0 := by omega
        refine bs_lit (k := 0) rfl rfl fun z47 hz47 => ?_
        exact bs_zret rfl rfl (by omega) (by omega) (by rw [hQ]; exact ⟨thp5, Hhp5, Fhp5, bs_an0, sf_S_cons (sf_s1 (x := z47.toInt) rfl (by omega) (by omega)) (sf_S_nil), (fun a s B n lim m j ha hS hC hj hpl h9 => by
                cases ha
                have GE : z1.toInt = s.h 1 := Option.some.inj (hz1.symm.trans hS.men)
                rw [show lnMan (tok B n lim) s j = _ from if_neg (by omega)]
                obtain ⟨q1, rq1, X1⟩ := xhp5 _ s B n lim m (j + 1) rfl hS hC hj
                obtain rfl := Value.int.inj (Option.some.inj rq1)
                rcases X1.resolve_left (fun h => absurd h.1 (by omega)) with ⟨_, P1, ⟨P2, P3⟩ | ⟨P2, P4, P3⟩⟩
                · rw [lnew_1 P2]
                  exact LRES_bad ⟨z47, rfl, by omega⟩ (P3) (P1)
                · rw [lnew_3 P2 P4]
                  exact LRES_bad ⟨z47, rfl, by omega⟩ (P3) (P1))⟩)
    · skip
      refine Ev.step (j := 10) (s' := ([some (.ref a0), some (.ref 3), none, none], [.ref 3], (0, 0), hp)) rfl rfl ?_
      refine bs_lit (k := 4) rfl rfl fun z48 hz48 => ?_
      refine Ev.inl (L := L_X9_fail) (nL := 2) rfl (bs_rcv (g := 9) H (bs_R.uq H (g := 9) rfl) (by decide) rfl) rfl (Nat.le_of_ble_eq_true rfl) ?_
      generalize hQ49 : (fun (o : ab_O) => Ev _ _ _ _) = Q49
      refine (show Ev (ab_T L_X9_fail) 0 ([some (.ref 3), some (.int z48)], [], (0, 0), hp) Q49 from ?_)
      refine Ev.step (j := 1) (s' := ([some (.ref 3), some (.int z48)], [.ref 3], (0, 0), hp)) rfl rfl ?_
      refine Ev.step (j := 2) (s' := ([some (.ref 3), some (.int z48)], [.int z48, .ref 3], (0, 0), hp)) rfl rfl ?_
      refine bs_putIv (W := [(9, 9, 9)]) (g := 9) rfl rfl H (bs_R.uq H (g := 9) rfl) (by decide) rfl rfl rfl rfl (Or.inl rfl) (by omega) (by omega) fun hp50 Hhp50 fhp50 rhp50 ehp50 qhp50 nhp50 => ?_
      have Fhp50 := sf_fr_tr F0 (sf_fr_wider (W := [(7, 9, 9), (9, 4, 9), (117, 0, 0), (118, 0, 7)]) rfl fhp50)
      have h51 : sf_rd hp50 a0 9 = some z1.toInt := (ehp50 _ _ (Or.inl (bs_nq (ra0.fr F0) (bs_R.uq H (g := 9) rfl) (by decide)))).trans hz1
      refine bs_lit (k := 0) rfl rfl fun z52 hz52 => ?_
      refine bs_zret rfl rfl (by omega) (by omega) ?_
      rw [← hQ49]
      refine (show Ev _ 14 ([some (.ref a0), some (.ref 3), none, none], [.int z52], (0, 0), hp50) _ from ?_)
      exact bs_zret rfl rfl (by omega) (by omega) (by rw [hQ]; exact ⟨t, Hhp50, Fhp50, bs_an0, sf_S_cons (sf_s1 (x := z52.toInt) rfl (by omega) (by omega)) (sf_S_nil), (fun a s B n lim m j ha hS hC hj hpl h9 => by
              cases ha
              have GE : z1.toInt = s.h 1 := Option.some.inj (hz1.symm.trans hS.men)
              rw [show lnMan (tok B n lim) s j = _ from if_pos (by omega)]
              exact LRES_bad ⟨z52, rfl, by omega⟩ (rhp50.trans (congrArg some (by omega))) (((ehp50 _ _ (Or.inr (by omega)))).trans hpl))⟩)
def kq_X7_takeMan_v : sf_Q := ([(1, 7, 0), (1, 9, 0)], [], some (0, 0, 0), [(1, 0, 0, -1, 7, 0)], [(9, 4, 9)])
def ke_X7_takeMan_v : List Value → ab_H → Option Value → ab_H → Prop := fun as hp r hp' => ∀ (a : Nat) (s : PS) (B : Nat → Int) (n lim m i : Nat), as = [.ref a, .ref 3] → SC hp a s → CK hp B n lim m i → i < m → ∃ z : Int32, r = some (.int z) ∧ ((0 ≤ z.toInt ∧ z.toInt = fnd s.nm 6 (s.h 1) (tok B n lim i).v ∧ (tok B n lim i).k = 2 ∧ CK hp' B n lim m (i + 1) ∧ sf_rd hp' 3 9 = sf_rd hp 3 9 ∧ sf_rd hp' 3 6 = some (tok B n lim i).pl) ∨ (z.toInt = -1 ∧ sf_rd hp' 3 6 = some (tok B n lim i).pl ∧ (((tok B n lim i).k ≠ 2 ∧ sf_rd hp' 3 9 = some 1) ∨ ((tok B n lim i).k = 2 ∧ fnd s.nm 6 (s.h 1) (tok B n lim i).v < 0 ∧ sf_rd hp' 3 9 = some 3))))
set_option maxRecDepth 100000 in
set_option maxHeartbeats 4000000 in
theorem ce_X7_takeMan_v : sf_cE kq_X7_takeMan_v Z_X7_takeMan ke_X7_takeMan_v := by
  intro t hp as H hl hj hpre
  match as, hl with
  | [v0, v1], _ =>
    obtain ⟨a0, rfl, ra0⟩ := bs_aR (hj 0 _ rfl)
    obtain ⟨a1, rfl, ra1⟩ := bs_aR (hj 1 _ rfl)
    obtain rfl := ra1.eq H (p := 3) rfl
    clear hpre hj
    have F0 : sf_fr [(9, 4, 9)] t hp t hp := sf_fr_rf
    refine bs_finx (E := ke_X7_takeMan_v) (K := kq_X7_takeMan_v) (L := (L_X7_takeMan Z_X9_takeName Z_X7_manNamed Z_X9_fail)) (nL := 3) (Nat.le_of_ble_eq_true rfl) ?_
    obtain ⟨Q, hQ⟩ : ∃ Q : ab_O → Prop, Q = (fun o => ∃ t', sf_h t' o.2 ∧ sf_fr (kq_X7_takeMan_v).2.2.2.2 t hp t' o.2 ∧ sf_an t' o.2.1 (kq_X7_takeMan_v).2.2.1 o.1 ∧ sf_S (sf_v1 o.1 [.ref a0, .ref 3] o.2) (kq_X7_takeMan_v).2.2.2.1 ∧ ke_X7_takeMan_v [.ref a0, .ref 3] hp o.1 o.2) := ⟨_, rfl⟩
    rw [← hQ]
    refine (show Ev (ab_T (L_X7_takeMan Z_X9_takeName Z_X7_manNamed Z_X9_fail)) 0 ([some (.ref a0), some (.ref 3), none], [], (0, 0), hp) Q from ?_)
    refine Ev.step (j := 1) (s' := ([some (.ref a0), some (.ref 3), none], [.ref 3], (0, 0), hp)) rfl rfl ?_
    refine bs_callx (K := kq_X9_takeName_v) [.ref 3] [] rfl ce_X9_takeName_v H rfl rfl rfl (bs_rcv (g := 9) H (bs_R.uq H (g := 9) rfl) (by decide) rfl) rfl ?_ (sf_S_nil) fun r1 hp2 thp2 Hhp2 fhp2 ahp2 php2 xhp2 => ?_
    · intro q k h
      match q, h with
      | 0, h => cases h; exact bs_jR (bs_R.uq H (g := 9) rfl)
      | q + 1, h => cases h
    obtain ⟨z3, rfl⟩ := bs_anI ahp2
    have rgz3 := n_range z3
    have Fhp2 := sf_fr_tr F0 (sf_fr_wider (W := [(9, 4, 9)]) rfl fhp2)
    obtain ⟨uz3, vz3⟩ := bs_s1 (x := z3.toInt) rfl (php2 _ (List.mem_of_getElem? (i := 0) rfl))
    refine (show Ev _ 4 ([some (.ref a0), some (.ref 3), none], [.int z3], (0, 0), hp2) _ from ?_)
    refine bs_ifne rfl (fun c4 => ?_) (fun c4 => ?_)
    · skip
      refine Ev.step (j := 10) (s' := ([some (.ref a0), some (.ref 3), none], [.ref a0], (0, 0), hp2)) rfl rfl ?_
      refine Ev.step (j := 11) (s' := ([some (.ref a0), some (.ref 3), none], [.ref 3, .ref a0], (0, 0), hp2)) rfl rfl ?_
      refine bs_getLv (g := 9) rfl rfl Hhp2 (bs_R.uq Hhp2 (g := 9) rfl) (by decide) rfl fun w5 hw5 => ?_
      refine bs_callx (K := kq_X7_manNamed_v) [.ref a0, .long w5] [] rfl ce_X7_manNamed_v Hhp2 rfl rfl rfl (bs_rcv (g := 7) Hhp2 (ra0.fr Fhp2) (by decide) rfl) rfl ?_ (sf_S_nil) fun r6 hp7 thp7 Hhp7 fhp7 ahp7 php7 xhp7 => ?_
      · intro q k h
        match q, h with
        | 0, h => cases h; exact bs_jR (ra0.fr Fhp2)
        | 1, h => cases h; exact sf_j2
        | q + 2, h => cases h
      obtain ⟨z8, rfl⟩ := bs_anI ahp7
      have rgz8 := n_range z8
      have Fhp7 := sf_fr_tr Fhp2 (sf_fr_wider (W := [(9, 4, 9)]) rfl fhp7)
      have h9 : sf_rl hp7 3 8 = some w5 := (sf_rl_cell (fhp7.2.2.2.1 _ (bs_R.uq Hhp2 (g := 9) (p := 3) rfl).1 (by rw [(bs_R.uq Hhp2 (g := 9) (p := 3) rfl).2]; rfl))).trans hw5
      obtain ⟨uz8, vz8⟩ := bs_s1 (x := z8.toInt) rfl (php7 _ (List.mem_of_getElem? (i := 0) rfl))
      refine (show Ev _ 17 ([some (.ref a0), some (.ref 3), none], [.int z8], (0, 0), hp7) _ from ?_)
      refine Ev.step (j := 18) (s' := ([some (.ref a0), some (.ref 3), some (.int z8)], [], (0, 0), hp7)) rfl rfl ?_
      refine Ev.step (j := 19) (s' := ([some (.ref a0), some (.ref 3), some (.int z8)], [.int z8], (0, 0), hp7)) rfl rfl ?_
      refine bs_lit (k := -1) rfl rfl fun z10 hz10 => ?_
      refine bs_ne rfl (fun c11 => ?_) (fun c11 => ?_)
      · skip
        refine Ev.step (j := 30) (s' := ([some (.ref a0), some (.ref 3), some (.int z8)], [.int z8], (0, 0), hp7)) rfl rfl ?_
        exact Ev.ret rfl rfl (by rw [hQ]; exact ⟨thp7, Hhp7, Fhp7, bs_an0, sf_S_cons (sf_s1 (x := z8.toInt) rfl (by omega) (by omega)) (sf_S_nil), (fun a s B n lim m i ha hS hC hi_ => by
                cases ha
                obtain ⟨q1, rq1, X1⟩ := xhp2 B n lim m i hC hi_
                obtain rfl := Value.int.inj (Option.some.inj rq1)
                obtain ⟨Y1, X2, X3, X4, X5⟩ := X1.resolve_right (fun h => absurd h.1 (by omega))
                obtain ⟨wq9, W1, W2⟩ := X3.2.2.2 X2
                have WE : w5 = wq9 := Option.some.inj (hw5.symm.trans W1)
                have LW9 := (tok_wok B n lim i (Or.inl X2)).1
                have S1 := SC_fr H ra0 hS fhp2 rfl rfl
                obtain ⟨q2, rq2, G2⟩ := xhp7 _ _ s (tok B n lim i).v rfl S1 (by rw [WE]; exact W2) LW9
                obtain rfl := Value.int.inj (Option.some.inj rq2)
                have C1 := TKS_fr Hhp2 X4.1 fhp7 rfl rfl rfl rfl
                exact ⟨z8, rfl, Or.inl ⟨by omega, G2, X2, ⟨C1, ((fhp7.2.2.1 _ (bs_R.uq Hhp2 (g := 9) (p := 3) rfl).1 _ (by rw [(bs_R.uq Hhp2 (g := 9) (p := 3) rfl).2]; rfl))).trans X4.2.1, X4.2.2⟩, ((fhp7.2.2.1 _ (bs_R.uq Hhp2 (g := 9) (p := 3) rfl).1 _ (by rw [(bs_R.uq Hhp2 (g := 9) (p := 3) rfl).2]; rfl))).trans X5, ((fhp7.2.2.1 _ (bs_R.uq Hhp2 (g := 9) (p := 3) rfl).1 _ (by rw [(bs_R.uq Hhp2 (g := 9) (p := 3) rfl).2]; rfl))).trans X3.2.1⟩⟩)⟩)
      · skip
        have c12 : z8.toInt = -1 := by omega
        refine Ev.step (j := 24) (s' := ([some (.ref a0), some (.ref 3), some (.int z8)], [.ref 3], (0, 0), hp7)) rfl rfl ?_
        refine bs_lit (k := 3) rfl rfl fun z13 hz13 => ?_
        refine Ev.inl (L := L_X9_fail) (nL := 2) rfl (bs_rcv (g := 9) Hhp7 (bs_R.uq Hhp7 (g := 9) rfl) (by decide) rfl) rfl (Nat.le_of_ble_eq_true rfl) ?_
        generalize hQ14 : (fun (o : ab_O) => Ev _ _ _ _) = Q14
        refine (show Ev (ab_T L_X9_fail) 0 ([some (.ref 3), some (.int z13)], [], (0, 0), hp7) Q14 from ?_)
        refine Ev.step (j := 1) (s' := ([some (.ref 3), some (.int z13)], [.ref 3], (0, 0), hp7)) rfl rfl ?_
        refine Ev.step (j := 2) (s' := ([some (.ref 3), some (.int z13)], [.int z13, .ref 3], (0, 0), hp7)) rfl rfl ?_
        refine bs_putIv (W := [(9, 9, 9)]) (g := 9) rfl rfl Hhp7 (bs_R.uq Hhp7 (g := 9) rfl) (by decide) rfl rfl rfl rfl (Or.inl rfl) (by omega) (by omega) fun hp15 Hhp15 fhp15 rhp15 ehp15 qhp15 nhp15 => ?_
        have Fhp15 := sf_fr_tr Fhp7 (sf_fr_wider (W := [(9, 4, 9)]) rfl fhp15)
        have h16 : sf_rl hp15 3 8 = some w5 := (nhp15 _ _).trans h9
        refine bs_lit (k := 0) rfl rfl fun z17 hz17 => ?_
        refine bs_zret rfl rfl (by omega) (by omega) ?_
        rw [← hQ14]
        refine (show Ev _ 28 ([some (.ref a0), some (.ref 3), some (.int z8)], [.int z17], (0, 0), hp15) _ from ?_)
        refine Ev.step (j := 29) (s' := ([some (.ref a0), some (.ref 3), some (.int z8)], [], (0, 0), hp15)) rfl rfl ?_
        refine Ev.step (j := 30) (s' := ([some (.ref a0), some (.ref 3), some (.int z8)], [.int z8], (0, 0), hp15)) rfl rfl ?_
        exact Ev.ret rfl rfl (by rw [hQ]; exact ⟨thp7, Hhp15, Fhp15, bs_an0, sf_S_cons (sf_s1 (x := z8.toInt) rfl (by omega) (by omega)) (sf_S_nil), (fun a s B n lim m i ha hS hC hi_ => by
                cases ha
                obtain ⟨q1, rq1, X1⟩ := xhp2 B n lim m i hC hi_
                obtain rfl := Value.int.inj (Option.some.inj rq1)
                obtain ⟨Y1, X2, X3, X4, X5⟩ := X1.resolve_right (fun h => absurd h.1 (by omega))
                obtain ⟨wq9, W1, W2⟩ := X3.2.2.2 X2
                have WE : w5 = wq9 := Option.some.inj (hw5.symm.trans W1)
                have LW9 := (tok_wok B n lim i (Or.inl X2)).1
                have S1 := SC_fr H ra0 hS fhp2 rfl rfl
                obtain ⟨q2, rq2, G2⟩ := xhp7 _ _ s (tok B n lim i).v rfl S1 (by rw [WE]; exact W2) LW9
                obtain rfl := Value.int.inj (Option.some.inj rq2)
                exact ⟨z8, rfl, Or.inr ⟨by omega, (((ehp15 _ _ (Or.inr (by omega))).trans (fhp7.2.2.1 _ (bs_R.uq Hhp2 (g := 9) (p := 3) rfl).1 _ (by rw [(bs_R.uq Hhp2 (g := 9) (p := 3) rfl).2]; rfl)))).trans X3.2.1, Or.inr ⟨X2, by omega, rhp15.trans (congrArg some (by omega))⟩⟩⟩)⟩)
    · skip
      have c18 : z3.toInt = 0 := by omega
      refine bs_lit (k := -1) rfl rfl fun z19 hz19 => ?_
      exact Ev.ret rfl rfl (by rw [hQ]; exact ⟨thp2, Hhp2, Fhp2, bs_an0, sf_S_cons (sf_s1 (x := z19.toInt) rfl (by omega) (by omega)) (sf_S_nil), (fun a s B n lim m i ha hS hC hi_ => by
              cases ha
              obtain ⟨q1, rq1, X1⟩ := xhp2 B n lim m i hC hi_
              obtain rfl := Value.int.inj (Option.some.inj rq1)
              rcases X1 with X | ⟨_, X2, X3, X4⟩
              · exact absurd X.1 (by omega)
              · exact ⟨z19, rfl, Or.inr ⟨by omega, X2, Or.inl ⟨X3, X4⟩⟩⟩)⟩)
def kq_X7_isMissTold_v : sf_Q := ([(1, 7, 0), (0, 0, 0), (0, 0, 0)], [], some (0, 0, 0), [(1, 0, 0, 0, 1, 0)], [])
def ke_X7_isMissTold_v : List Value → ab_H → Option Value → ab_H → Prop := fun as hp r _ => ∀ (a : Nat) (m q : Int32) (s : PS), as = [.ref a, .int m, .int q] → SC hp a s → ∃ z : Int32, r = some (.int z) ∧ (z.toInt = 1 → mtold s.h m.toInt q.toInt (s.h 3).toNat = true) ∧ (mtold s.h m.toInt q.toInt (s.h 3).toNat = true → z.toInt = 1)
set_option maxRecDepth 100000 in
set_option maxHeartbeats 4000000 in
theorem ce_X7_isMissTold_v : sf_cE kq_X7_isMissTold_v Z_X7_isMissTold ke_X7_isMissTold_v := by
  intro t hp as H hl hj hpre
  match as, hl with
  | [v0, v1, v2], _ =>
    obtain ⟨a0, rfl, ra0⟩ := bs_aR (hj 0 _ rfl)
    obtain ⟨x1, rfl⟩ := bs_aI (hj 1 _ rfl)
    have rg1 := n_range x1
    obtain ⟨x2, rfl⟩ := bs_aI (hj 2 _ rfl)
    have rg2 := n_range x2
    clear hpre hj
    have F0 : sf_fr [] t hp t hp := sf_fr_rf
    refine bs_finx (E := ke_X7_isMissTold_v) (K := kq_X7_isMissTold_v) (L := L_X7_isMissTold) (nL := 4) (Nat.le_of_ble_eq_true rfl) ?_
    obtain ⟨Q, hQ⟩ : ∃ Q : ab_O → Prop, Q = (fun o => ∃ t', sf_h t' o.2 ∧ sf_fr (kq_X7_isMissTold_v).2.2.2.2 t hp t' o.2 ∧ sf_an t' o.2.1 (kq_X7_isMissTold_v).2.2.1 o.1 ∧ sf_S (sf_v1 o.1 [.ref a0, .int x1, .int x2] o.2) (kq_X7_isMissTold_v).2.2.2.1 ∧ ke_X7_isMissTold_v [.ref a0, .int x1, .int x2] hp o.1 o.2) := ⟨_, rfl⟩
    rw [← hQ]
    refine (show Ev (ab_T L_X7_isMissTold) 0 ([some (.ref a0), some (.int x1), some (.int x2), none], [], (0, 0), hp) Q from ?_)
    refine bs_lit (k := 0) rfl rfl fun z1 hz1 => ?_
    refine Ev.step (j := 2) (s' := ([some (.ref a0), some (.int x1), some (.int x2), some (.int z1)], [], (0, 0), hp)) rfl rfl ?_
    refine bs_loop (ι := Int32) (fun k2 => ([some (.ref a0), some (.int x1), some (.int x2), some (.int k2)], [], (0, 0), hp)) (fun k2 => (0 ≤ k2.toInt ∧ k2.toInt ≤ 20) ∧ (∀ j : Nat, (j : Int) < k2.toInt → ¬ (sf_rd hp (rrD hp a0 4) j = some x1.toInt ∧ sf_rd hp (rrD hp a0 5) j = some x2.toInt))) (fun k2 => (20 - k2.toInt).toNat) ?_ z1 ⟨(by first | omega | assumption), (by first | exact INV | exact fun j h => absurd h (by omega))⟩
    rintro k2 ⟨i4, i5⟩ ih3
    refine (show Ev _ 2 ([some (.ref a0), some (.int x1), some (.int x2), some (.int k2)], [], (0, 0), hp) _ from ?_)
    refine Ev.step (j := 3) (s' := ([some (.ref a0), some (.int x1), some (.int x2), some (.int k2)], [.int k2], (0, 0), hp)) rfl rfl ?_
    refine Ev.step (j := 4) (s' := ([some (.ref a0), some (.int x1), some (.int x2), some (.int k2)], [.ref a0, .int k2], (0, 0), hp)) rfl rfl ?_
    refine bs_getI 7 rfl rfl rfl H (ra0.fr F0) (by decide) rfl fun z6 hz6 lz6 gz6 => ?_
    refine bs_ge rfl (fun c7 => ?_) (fun c7 => ?_)
    · skip
      refine bs_lit (k := 0) rfl rfl fun z8 hz8 => ?_
      exact bs_zret rfl rfl (by omega) (by omega) (by rw [hQ]; exact ⟨t, H, F0, bs_an0, sf_S_cons (sf_s1 (x := z8.toInt) rfl (by omega) (by omega)) (sf_S_nil), (fun a m q s ha hS => by
              cases ha; have NN : z6.toInt = s.h 3 := Option.some.inj (hz6.symm.trans hS.miss)
              exact ⟨z8, rfl, fun e => absurd e (by omega), fun e => by obtain ⟨j, j1, j2, j3⟩ := (mtold_iff _).mp e; exact absurd ⟨(hS.m4 j (by omega)).trans (congrArg some j2), (hS.m5 j (by omega)).trans (congrArg some j3)⟩ (i5 j (by omega))⟩)⟩)
    · skip
      refine Ev.step (j := 11) (s' := ([some (.ref a0), some (.int x1), some (.int x2), some (.int k2)], [.ref a0], (0, 0), hp)) rfl rfl ?_
      refine bs_getR (g := 7) (g1 := 120) rfl rfl H (ra0.fr F0) (by decide) rfl fun b9 qb9 rb9 => ?_
      refine Ev.step (j := 15) (s' := ([some (.ref a0), some (.int x1), some (.int x2), some (.int k2)], [.int k2, .ref b9], (0, 0), hp)) rfl rfl ?_
      refine bs_ld (g := 120) 0 19 (0, 7) rfl H rb9 (by decide) rfl (by decide) (by decide) rfl (by decide) (by omega) (by omega) fun z10 hz10 lz10 gz10 => ?_
      dsimp only at lz10 gz10
      have V4 : sf_rd hp (rrD hp a0 4) k2.toInt.toNat = some z10.toInt := by rw [rrD_of qb9]; exact hz10
      refine Ev.step (j := 17) (s' := ([some (.ref a0), some (.int x1), some (.int x2), some (.int k2)], [.int x1, .int z10], (0, 0), hp)) rfl rfl ?_
      refine bs_ne rfl (fun c11 => ?_) (fun c11 => ?_)
      · skip
        refine bs_iinc (1) rfl rfl rfl rfl (by omega) (by omega) fun z12 hz12 => ?_
        refine (show Ev _ 35 ([some (.ref a0), some (.int x1), some (.int x2), some (.int z12)], [], (0, 0), hp) _ from ?_)
        refine Ev.step (j := 2) (s' := ([some (.ref a0), some (.int x1), some (.int x2), some (.int z12)], [], (0, 0), hp)) rfl rfl ?_
        have INV : ∀ j : Nat, (j : Int) < z12.toInt → ¬ (sf_rd hp (rrD hp a0 4) j = some x1.toInt ∧ sf_rd hp (rrD hp a0 5) j = some x2.toInt) := by
          intro j hj
          rcases (show (j : Int) < k2.toInt ∨ j = k2.toInt.toNat by omega) with h | h
          · exact i5 j h
          · rw [h, V4]; intro e; have := Option.some.inj e.1; omega
        refine ih3 z12 ⟨(by first | omega | assumption), (by first | exact INV | exact fun j h => absurd h (by omega))⟩ ?_
        show (20 - z12.toInt).toNat < (20 - k2.toInt).toNat
        omega
      · skip
        refine Ev.step (j := 21) (s' := ([some (.ref a0), some (.int x1), some (.int x2), some (.int k2)], [.ref a0], (0, 0), hp)) rfl rfl ?_
        refine bs_getR (g := 7) (g1 := 121) rfl rfl H (ra0.fr F0) (by decide) rfl fun b13 qb13 rb13 => ?_
        refine Ev.step (j := 25) (s' := ([some (.ref a0), some (.int x1), some (.int x2), some (.int k2)], [.int k2, .ref b13], (0, 0), hp)) rfl rfl ?_
        refine bs_ld (g := 121) 0 19 (0, 7) rfl H rb13 (by decide) rfl (by decide) (by decide) rfl (by decide) (by omega) (by omega) fun z14 hz14 lz14 gz14 => ?_
        dsimp only at lz14 gz14
        have V5 : sf_rd hp (rrD hp a0 5) k2.toInt.toNat = some z14.toInt := by rw [rrD_of qb13]; exact hz14
        refine Ev.step (j := 27) (s' := ([some (.ref a0), some (.int x1), some (.int x2), some (.int k2)], [.int x2, .int z14], (0, 0), hp)) rfl rfl ?_
        refine bs_ne rfl (fun c15 => ?_) (fun c15 => ?_)
        · skip
          refine bs_iinc (1) rfl rfl rfl rfl (by omega) (by omega) fun z16 hz16 => ?_
          refine (show Ev _ 35 ([some (.ref a0), some (.int x1), some (.int x2), some (.int z16)], [], (0, 0), hp) _ from ?_)
          refine Ev.step (j := 2) (s' := ([some (.ref a0), some (.int x1), some (.int x2), some (.int z16)], [], (0, 0), hp)) rfl rfl ?_
          have INV : ∀ j : Nat, (j : Int) < z16.toInt → ¬ (sf_rd hp (rrD hp a0 4) j = some x1.toInt ∧ sf_rd hp (rrD hp a0 5) j = some x2.toInt) := by
            intro j hj
            rcases (show (j : Int) < k2.toInt ∨ j = k2.toInt.toNat by omega) with h | h
            · exact i5 j h
            · rw [h, V5]; intro e; have := Option.some.inj e.2; omega
          refine ih3 z16 ⟨(by first | omega | assumption), (by first | exact INV | exact fun j h => absurd h (by omega))⟩ ?_
          show (20 - z16.toInt).toNat < (20 - k2.toInt).toNat
          omega
        · skip
          refine bs_lit (k := 1) rfl rfl fun z17 hz17 => ?_
          exact bs_zret rfl rfl (by omega) (by omega) (by rw [hQ]; exact ⟨t, H, F0, bs_an0, sf_S_cons (sf_s1 (x := z17.toInt) rfl (by omega) (by omega)) (sf_S_nil), (fun a m q s ha hS => by
                  cases ha; have NN : z6.toInt = s.h 3 := Option.some.inj (hz6.symm.trans hS.miss)
                  have G4 := Option.some.inj ((hS.m4 k2.toInt.toNat (by omega)).symm.trans V4)
                  have G5 := Option.some.inj ((hS.m5 k2.toInt.toNat (by omega)).symm.trans V5)
                  exact ⟨z17, rfl, fun _ => (mtold_iff _).mpr ⟨k2.toInt.toNat, by omega, by omega, by omega⟩, fun _ => by omega⟩)⟩)
def kq_X7_readMisses_v : sf_Q := ([(1, 7, 0), (1, 9, 0)], [], some (0, 0, 0), [(1, 0, 0, 0, 1, 0)], [(7, 10, 10), (9, 4, 9), (120, 0, 19), (121, 0, 19), (122, 0, 19)])
def ke_X7_readMisses_v : List Value → ab_H → Option Value → ab_H → Prop := fun as hp r hp' => ∀ (a : Nat) (s : PS) (B : Nat → Int) (n lim m j : Nat), as = [.ref a, .ref 3] → SC hp a s → CK hp B n lim m (j + 1) → j + 1 < m → sf_rd hp 3 6 = some (tok B n lim j).pl → sf_rd hp 3 9 = some 0 → LRES hp' a B n lim m r (lnMiss (tok B n lim) s j)
set_option maxRecDepth 100000 in
set_option maxHeartbeats 4000000 in
theorem ce_X7_readMisses_v : sf_cE kq_X7_readMisses_v Z_X7_readMisses ke_X7_readMisses_v := by
  intro t hp as H hl hj hpre
  match as, hl with
  | [v0, v1], _ =>
    obtain ⟨a0, rfl, ra0⟩ := bs_aR (hj 0 _ rfl)
    obtain ⟨a1, rfl, ra1⟩ := bs_aR (hj 1 _ rfl)
    obtain rfl := ra1.eq H (p := 3) rfl
    clear hpre hj
    have F0 : sf_fr [(7, 10, 10), (9, 4, 9), (120, 0, 19), (121, 0, 19), (122, 0, 19)] t hp t hp := sf_fr_rf
    refine bs_finx (E := ke_X7_readMisses_v) (K := kq_X7_readMisses_v) (L := (L_X7_readMisses Z_X9_fail Z_X7_takeMan Z_X7_isMissTold Z_X9_takeNumber)) (nL := 4) (Nat.le_of_ble_eq_true rfl) ?_
    obtain ⟨Q, hQ⟩ : ∃ Q : ab_O → Prop, Q = (fun o => ∃ t', sf_h t' o.2 ∧ sf_fr (kq_X7_readMisses_v).2.2.2.2 t hp t' o.2 ∧ sf_an t' o.2.1 (kq_X7_readMisses_v).2.2.1 o.1 ∧ sf_S (sf_v1 o.1 [.ref a0, .ref 3] o.2) (kq_X7_readMisses_v).2.2.2.1 ∧ ke_X7_readMisses_v [.ref a0, .ref 3] hp o.1 o.2) := ⟨_, rfl⟩
    rw [← hQ]
    refine (show Ev (ab_T (L_X7_readMisses Z_X9_fail Z_X7_takeMan Z_X7_isMissTold Z_X9_takeNumber)) 0 ([some (.ref a0), some (.ref 3), none, none], [], (0, 0), hp) Q from ?_)
    refine Ev.step (j := 1) (s' := ([some (.ref a0), some (.ref 3), none, none], [.ref a0], (0, 0), hp)) rfl rfl ?_
    refine bs_getI 7 rfl rfl rfl H (ra0.fr F0) (by decide) rfl fun z1 hz1 lz1 gz1 => ?_
    refine bs_lit (k := 20) rfl rfl fun z2 hz2 => ?_
    refine bs_lt rfl (fun c3 => ?_) (fun c3 => ?_)
    · skip
      refine Ev.step (j := 16) (s' := ([some (.ref a0), some (.ref 3), none, none], [.ref a0], (0, 0), hp)) rfl rfl ?_
      refine Ev.step (j := 17) (s' := ([some (.ref a0), some (.ref 3), none, none], [.ref 3, .ref a0], (0, 0), hp)) rfl rfl ?_
      refine bs_callx (K := kq_X7_takeMan_v) [.ref a0, .ref 3] [] rfl ce_X7_takeMan_v H rfl rfl rfl (bs_rcv (g := 7) H (ra0.fr F0) (by decide) rfl) rfl ?_ (sf_S_nil) fun r4 hp5 thp5 Hhp5 fhp5 ahp5 php5 xhp5 => ?_
      · intro q k h
        match q, h with
        | 0, h => cases h; exact bs_jR (ra0.fr F0)
        | 1, h => cases h; exact bs_jR (bs_R.uq H (g := 9) rfl)
        | q + 2, h => cases h
      obtain ⟨z6, rfl⟩ := bs_anI ahp5
      have rgz6 := n_range z6
      have Fhp5 := sf_fr_tr F0 (sf_fr_wider (W := [(7, 10, 10), (9, 4, 9), (120, 0, 19), (121, 0, 19), (122, 0, 19)]) rfl fhp5)
      have h7 : sf_rd hp5 a0 10 = some z1.toInt := (fhp5.2.2.1 _ (ra0.fr F0).1 _ (by rw [(ra0.fr F0).2]; rfl)).trans hz1
      obtain ⟨uz6, vz6⟩ := bs_s1 (x := z6.toInt) rfl (php5 _ (List.mem_of_getElem? (i := 0) rfl))
      refine (show Ev _ 20 ([some (.ref a0), some (.ref 3), none, none], [.int z6], (0, 0), hp5) _ from ?_)
      refine Ev.step (j := 21) (s' := ([some (.ref a0), some (.ref 3), some (.int z6), none], [], (0, 0), hp5)) rfl rfl ?_
      refine Ev.step (j := 22) (s' := ([some (.ref a0), some (.ref 3), some (.int z6), none], [.int z6], (0, 0), hp5)) rfl rfl ?_
      refine bs_lit (k := -1) rfl rfl fun z8 hz8 => ?_
      refine bs_ne rfl (fun c9 => ?_) (fun c9 => ?_)
      · skip
        refine Ev.step (j := 29) (s' := ([some (.ref a0), some (.ref 3), some (.int z6), none], [.ref a0], (0, 0), hp5)) rfl rfl ?_
        refine Ev.step (j := 30) (s' := ([some (.ref a0), some (.ref 3), some (.int z6), none], [.ref 3, .ref a0], (0, 0), hp5)) rfl rfl ?_
        refine bs_callx (K := kq_X7_takeMan_v) [.ref a0, .ref 3] [] rfl ce_X7_takeMan_v Hhp5 rfl rfl rfl (bs_rcv (g := 7) Hhp5 (ra0.fr Fhp5) (by decide) rfl) rfl ?_ (sf_S_nil) fun r10 hp11 thp11 Hhp11 fhp11 ahp11 php11 xhp11 => ?_
        · intro q k h
          match q, h with
          | 0, h => cases h; exact bs_jR (ra0.fr Fhp5)
          | 1, h => cases h; exact bs_jR (bs_R.uq Hhp5 (g := 9) rfl)
          | q + 2, h => cases h
        obtain ⟨z12, rfl⟩ := bs_anI ahp11
        have rgz12 := n_range z12
        have Fhp11 := sf_fr_tr Fhp5 (sf_fr_wider (W := [(7, 10, 10), (9, 4, 9), (120, 0, 19), (121, 0, 19), (122, 0, 19)]) rfl fhp11)
        have h13 : sf_rd hp11 a0 10 = some z1.toInt := (fhp11.2.2.1 _ (ra0.fr Fhp5).1 _ (by rw [(ra0.fr Fhp5).2]; rfl)).trans h7
        obtain ⟨uz12, vz12⟩ := bs_s1 (x := z12.toInt) rfl (php11 _ (List.mem_of_getElem? (i := 0) rfl))
        refine (show Ev _ 33 ([some (.ref a0), some (.ref 3), some (.int z6), none], [.int z12], (0, 0), hp11) _ from ?_)
        refine Ev.step (j := 34) (s' := ([some (.ref a0), some (.ref 3), some (.int z6), some (.int z12)], [], (0, 0), hp11)) rfl rfl ?_
        refine Ev.step (j := 35) (s' := ([some (.ref a0), some (.ref 3), some (.int z6), some (.int z12)], [.int z12], (0, 0), hp11)) rfl rfl ?_
        refine bs_lit (k := -1) rfl rfl fun z14 hz14 => ?_
        refine bs_ne rfl (fun c15 => ?_) (fun c15 => ?_)
        · skip
          refine Ev.step (j := 42) (s' := ([some (.ref a0), some (.ref 3), some (.int z6), some (.int z12)], [.int z6], (0, 0), hp11)) rfl rfl ?_
          refine Ev.step (j := 43) (s' := ([some (.ref a0), some (.ref 3), some (.int z6), some (.int z12)], [.int z12, .int z6], (0, 0), hp11)) rfl rfl ?_
          refine bs_eq rfl (fun c16 => ?_) (fun c16 => ?_)
          · skip
            refine Ev.step (j := 56) (s' := ([some (.ref a0), some (.ref 3), some (.int z6), some (.int z12)], [.ref 3], (0, 0), hp11)) rfl rfl ?_
            refine bs_lit (k := 3) rfl rfl fun z17 hz17 => ?_
            refine Ev.inl (L := L_X9_fail) (nL := 2) rfl (bs_rcv (g := 9) Hhp11 (bs_R.uq Hhp11 (g := 9) rfl) (by decide) rfl) rfl (Nat.le_of_ble_eq_true rfl) ?_
            generalize hQ18 : (fun (o : ab_O) => Ev _ _ _ _) = Q18
            refine (show Ev (ab_T L_X9_fail) 0 ([some (.ref 3), some (.int z17)], [], (0, 0), hp11) Q18 from ?_)
            refine Ev.step (j := 1) (s' := ([some (.ref 3), some (.int z17)], [.ref 3], (0, 0), hp11)) rfl rfl ?_
            refine Ev.step (j := 2) (s' := ([some (.ref 3), some (.int z17)], [.int z17, .ref 3], (0, 0), hp11)) rfl rfl ?_
            refine bs_putIv (W := [(9, 9, 9)]) (g := 9) rfl rfl Hhp11 (bs_R.uq Hhp11 (g := 9) rfl) (by decide) rfl rfl rfl rfl (Or.inl rfl) (by omega) (by omega) fun hp19 Hhp19 fhp19 rhp19 ehp19 qhp19 nhp19 => ?_
            have Fhp19 := sf_fr_tr Fhp11 (sf_fr_wider (W := [(7, 10, 10), (9, 4, 9), (120, 0, 19), (121, 0, 19), (122, 0, 19)]) rfl fhp19)
            have h20 : sf_rd hp19 a0 10 = some z1.toInt := (ehp19 _ _ (Or.inl (bs_nq (ra0.fr Fhp11) (bs_R.uq Hhp11 (g := 9) rfl) (by decide)))).trans h13
            refine bs_lit (k := 0) rfl rfl fun z21 hz21 => ?_
            refine bs_zret rfl rfl (by omega) (by omega) ?_
            rw [← hQ18]
            refine (show Ev _ 60 ([some (.ref a0), some (.ref 3), some (.int z6), some (.int z12)], [.int z21], (0, 0), hp19) _ from ?_)
            exact bs_zret rfl rfl (by omega) (by omega) (by rw [hQ]; exact ⟨thp11, Hhp19, Fhp19, bs_an0, sf_S_cons (sf_s1 (x := z21.toInt) rfl (by omega) (by omega)) (sf_S_nil), (fun a s B n lim m j ha hS hC hj hpl h9 => by
                    cases ha
                    have GE : z1.toInt = s.h 3 := Option.some.inj (hz1.symm.trans hS.miss)
                    rw [show lnMiss (tok B n lim) s j = _ from if_neg (by omega)]
                    obtain ⟨q1, rq1, X1⟩ := xhp5 _ s B n lim m (j + 1) rfl hS hC hj
                    obtain rfl := Value.int.inj (Option.some.inj rq1)
                    obtain ⟨Y0, Y1, Y2, Y3, Y4, Y5⟩ := X1.resolve_right (fun h => absurd h.1 (by omega))
                    rw [lold_o Y2 (by omega)]
                    have S1 := SC_fr H ra0 hS fhp5 rfl rfl
                    have J2 : j + 2 < m := CK_more Y3.1 hj (by omega) (by omega)
                    obtain ⟨q2, rq2, X2⟩ := xhp11 _ s B n lim m (j + 2) rfl S1 Y3 J2
                    obtain rfl := Value.int.inj (Option.some.inj rq2)
                    obtain ⟨Z0, Z1, Z2, Z3, Z4, Z5⟩ := X2.resolve_right (fun h => absurd h.1 (by omega))
                    rw [lold_o Z2 (by omega)]
                    have S2 := SC_fr Hhp5 (ra0.fr fhp5) S1 fhp11 rfl rfl
                    rw [if_pos (Or.inl (by omega))]
                    exact LRES_bad ⟨z21, rfl, by omega⟩ (rhp19.trans (congrArg some (by omega))) (((ehp19 _ _ (Or.inr (by omega)))).trans Z5))⟩)
          · skip
            refine Ev.step (j := 47) (s' := ([some (.ref a0), some (.ref 3), some (.int z6), some (.int z12)], [.ref a0], (0, 0), hp11)) rfl rfl ?_
            refine Ev.step (j := 48) (s' := ([some (.ref a0), some (.ref 3), some (.int z6), some (.int z12)], [.int z6, .ref a0], (0, 0), hp11)) rfl rfl ?_
            refine Ev.step (j := 49) (s' := ([some (.ref a0), some (.ref 3), some (.int z6), some (.int z12)], [.int z12, .int z6, .ref a0], (0, 0), hp11)) rfl rfl ?_
            refine bs_callx (K := kq_X7_isMissTold_v) [.ref a0, .int z6, .int z12] [] rfl ce_X7_isMissTold_v Hhp11 rfl rfl rfl (bs_rcv (g := 7) Hhp11 (ra0.fr Fhp11) (by decide) rfl) rfl ?_ (sf_S_nil) fun r22 hp23 thp23 Hhp23 fhp23 ahp23 php23 xhp23 => ?_
            · intro q k h
              match q, h with
              | 0, h => cases h; exact bs_jR (ra0.fr Fhp11)
              | 1, h => cases h; exact sf_j0
              | 2, h => cases h; exact sf_j0
              | q + 3, h => cases h
            obtain ⟨z24, rfl⟩ := bs_anI ahp23
            have rgz24 := n_range z24
            have Fhp23 := sf_fr_tr Fhp11 (sf_fr_wider (W := [(7, 10, 10), (9, 4, 9), (120, 0, 19), (121, 0, 19), (122, 0, 19)]) rfl fhp23)
            have h25 : sf_rd hp23 a0 10 = some z1.toInt := (fhp23.2.2.1 _ (ra0.fr Fhp11).1 _ (by rw [(ra0.fr Fhp11).2]; rfl)).trans h13
            obtain ⟨uz24, vz24⟩ := bs_s1 (x := z24.toInt) rfl (php23 _ (List.mem_of_getElem? (i := 0) rfl))
            refine (show Ev _ 52 ([some (.ref a0), some (.ref 3), some (.int z6), some (.int z12)], [.int z24], (0, 0), hp23) _ from ?_)
            refine bs_ifeq rfl (fun c26 => ?_) (fun c26 => ?_)
            · skip
              have c27 : z24.toInt = 0 := by omega
              refine Ev.step (j := 62) (s' := ([some (.ref a0), some (.ref 3), some (.int z6), some (.int z12)], [.ref 3], (0, 0), hp23)) rfl rfl ?_
              refine bs_lit (k := 0) rfl rfl fun z28 hz28 => ?_
              refine bs_lit (k := 60) rfl rfl fun z29 hz29 => ?_
              refine bs_callx (K := kq_X9_takeNumber_v) [.ref 3, .int z28, .int z29] [] rfl ce_X9_takeNumber_v Hhp23 rfl rfl rfl (bs_rcv (g := 9) Hhp23 (bs_R.uq Hhp23 (g := 9) rfl) (by decide) rfl) rfl ?_ (sf_S_nil) fun r30 hp31 thp31 Hhp31 fhp31 ahp31 php31 xhp31 => ?_
              · intro q k h
                match q, h with
                | 0, h => cases h; exact bs_jR (bs_R.uq Hhp23 (g := 9) rfl)
                | 1, h => cases h; exact sf_j0
                | 2, h => cases h; exact sf_j0
                | q + 3, h => cases h
              obtain ⟨z32, rfl⟩ := bs_anI ahp31
              have rgz32 := n_range z32
              have Fhp31 := sf_fr_tr Fhp23 (sf_fr_wider (W := [(7, 10, 10), (9, 4, 9), (120, 0, 19), (121, 0, 19), (122, 0, 19)]) rfl fhp31)
              have h33 : sf_rd hp31 a0 10 = some z1.toInt := (fhp31.2.2.1 _ (ra0.fr Fhp23).1 _ (by rw [(ra0.fr Fhp23).2]; rfl)).trans h25
              obtain ⟨uz32, vz32⟩ := bs_s1 (x := z32.toInt) rfl (php31 _ (List.mem_of_getElem? (i := 0) rfl))
              refine (show Ev _ 68 ([some (.ref a0), some (.ref 3), some (.int z6), some (.int z12)], [.int z32], (0, 0), hp31) _ from ?_)
              refine bs_ifne rfl (fun c34 => ?_) (fun c34 => ?_)
              · skip
                refine Ev.step (j := 74) (s' := ([some (.ref a0), some (.ref 3), some (.int z6), some (.int z12)], [.ref a0], (0, 0), hp31)) rfl rfl ?_
                refine bs_getR (g := 7) (g1 := 120) rfl rfl Hhp31 (ra0.fr Fhp31) (by decide) rfl fun b35 qb35 rb35 => ?_
                refine Ev.step (j := 78) (s' := ([some (.ref a0), some (.ref 3), some (.int z6), some (.int z12)], [.ref a0, .ref b35], (0, 0), hp31)) rfl rfl ?_
                refine bs_getI 7 rfl rfl rfl Hhp31 (ra0.fr Fhp31) (by decide) rfl fun z36 hz36 lz36 gz36 => ?_
                have e37 : z36.toInt = z1.toInt := Option.some.inj (hz36.symm.trans h33)
                refine Ev.step (j := 82) (s' := ([some (.ref a0), some (.ref 3), some (.int z6), some (.int z12)], [.int z6, .int z36, .ref b35], (0, 0), hp31)) rfl rfl ?_
                refine bs_stv (W := [(120, 0, 19)]) (g := 120) 0 19 (0, 7) rfl Hhp31 rb35 (by decide) rfl rfl (by decide) rfl rfl (by omega) (by omega) (by dsimp only; omega) (by dsimp only; omega) fun hp38 Hhp38 fhp38 rhp38 ehp38 qhp38 nhp38 => ?_
                have Fhp38 := sf_fr_tr Fhp31 (sf_fr_wider (W := [(7, 10, 10), (9, 4, 9), (120, 0, 19), (121, 0, 19), (122, 0, 19)]) rfl fhp38)
                have h39 : sf_rd hp38 a0 10 = some z1.toInt := (ehp38 _ _ (Or.inl (bs_nq (ra0.fr Fhp31) rb35 (by decide)))).trans h33
                have r40 := rb35.fr fhp38
                refine Ev.step (j := 84) (s' := ([some (.ref a0), some (.ref 3), some (.int z6), some (.int z12)], [.ref a0], (0, 0), hp38)) rfl rfl ?_
                refine bs_getR (g := 7) (g1 := 121) rfl rfl Hhp38 (ra0.fr Fhp38) (by decide) rfl fun b41 qb41 rb41 => ?_
                refine Ev.step (j := 88) (s' := ([some (.ref a0), some (.ref 3), some (.int z6), some (.int z12)], [.ref a0, .ref b41], (0, 0), hp38)) rfl rfl ?_
                refine bs_getI 7 rfl rfl rfl Hhp38 (ra0.fr Fhp38) (by decide) rfl fun z42 hz42 lz42 gz42 => ?_
                have e43 : z42.toInt = z1.toInt := Option.some.inj (hz42.symm.trans h39)
                refine Ev.step (j := 92) (s' := ([some (.ref a0), some (.ref 3), some (.int z6), some (.int z12)], [.int z12, .int z42, .ref b41], (0, 0), hp38)) rfl rfl ?_
                refine bs_stv (W := [(121, 0, 19)]) (g := 121) 0 19 (0, 7) rfl Hhp38 rb41 (by decide) rfl rfl (by decide) rfl rfl (by omega) (by omega) (by dsimp only; omega) (by dsimp only; omega) fun hp44 Hhp44 fhp44 rhp44 ehp44 qhp44 nhp44 => ?_
                have Fhp44 := sf_fr_tr Fhp38 (sf_fr_wider (W := [(7, 10, 10), (9, 4, 9), (120, 0, 19), (121, 0, 19), (122, 0, 19)]) rfl fhp44)
                have h45 : sf_rd hp44 a0 10 = some z1.toInt := (ehp44 _ _ (Or.inl (bs_nq (ra0.fr Fhp38) rb41 (by decide)))).trans h39
                have h46 : sf_rd hp44 b35 z36.toInt.toNat = some z6.toInt := (ehp44 _ _ (Or.inl (bs_nq r40 rb41 (by decide)))).trans rhp38
                have r47 := r40.fr fhp44
                have r48 := rb41.fr fhp44
                refine Ev.step (j := 94) (s' := ([some (.ref a0), some (.ref 3), some (.int z6), some (.int z12)], [.ref a0], (0, 0), hp44)) rfl rfl ?_
                refine bs_getR (g := 7) (g1 := 122) rfl rfl Hhp44 (ra0.fr Fhp44) (by decide) rfl fun b49 qb49 rb49 => ?_
                refine Ev.step (j := 98) (s' := ([some (.ref a0), some (.ref 3), some (.int z6), some (.int z12)], [.ref a0, .ref b49], (0, 0), hp44)) rfl rfl ?_
                refine bs_getI 7 rfl rfl rfl Hhp44 (ra0.fr Fhp44) (by decide) rfl fun z50 hz50 lz50 gz50 => ?_
                have e51 : z50.toInt = z1.toInt := Option.some.inj (hz50.symm.trans h45)
                refine Ev.step (j := 102) (s' := ([some (.ref a0), some (.ref 3), some (.int z6), some (.int z12)], [.ref 3, .int z50, .ref b49], (0, 0), hp44)) rfl rfl ?_
                refine bs_getI 9 rfl rfl rfl Hhp44 (bs_R.uq Hhp44 (g := 9) rfl) (by decide) rfl fun z52 hz52 lz52 gz52 => ?_
                refine bs_stv (W := [(122, 0, 19)]) (g := 122) 0 19 (-2147483648, 2147483647) rfl Hhp44 rb49 (by decide) rfl rfl (by decide) rfl rfl (by omega) (by omega) (by dsimp only; omega) (by dsimp only; omega) fun hp53 Hhp53 fhp53 rhp53 ehp53 qhp53 nhp53 => ?_
                have Fhp53 := sf_fr_tr Fhp44 (sf_fr_wider (W := [(7, 10, 10), (9, 4, 9), (120, 0, 19), (121, 0, 19), (122, 0, 19)]) rfl fhp53)
                have h54 : sf_rd hp53 a0 10 = some z1.toInt := (ehp53 _ _ (Or.inl (bs_nq (ra0.fr Fhp44) rb49 (by decide)))).trans h45
                have h55 : sf_rd hp53 b35 z36.toInt.toNat = some z6.toInt := (ehp53 _ _ (Or.inl (bs_nq r47 rb49 (by decide)))).trans h46
                have h56 : sf_rd hp53 b41 z42.toInt.toNat = some z12.toInt := (ehp53 _ _ (Or.inl (bs_nq r48 rb49 (by decide)))).trans rhp44
                have h57 : sf_rd hp53 3 7 = some z52.toInt := (ehp53 _ _ (Or.inl (bs_nq (bs_R.uq Hhp44 (g := 9) rfl) rb49 (by decide)))).trans hz52
                have r58 := r47.fr fhp53
                have r59 := r48.fr fhp53
                have r60 := rb49.fr fhp53
                refine Ev.step (j := 107) (s' := ([some (.ref a0), some (.ref 3), some (.int z6), some (.int z12)], [.ref a0], (0, 0), hp53)) rfl rfl ?_
                refine Ev.step (j := 108) (s' := ([some (.ref a0), some (.ref 3), some (.int z6), some (.int z12)], [.ref a0, .ref a0], (0, 0), hp53)) rfl rfl ?_
                refine bs_getI 7 rfl rfl rfl Hhp53 (ra0.fr Fhp53) (by decide) rfl fun z61 hz61 lz61 gz61 => ?_
                have e62 : z61.toInt = z1.toInt := Option.some.inj (hz61.symm.trans h54)
                refine bs_lit (k := 1) rfl rfl fun z63 hz63 => ?_
                first | (refine bs_add rfl (by omega) (by omega) fun z64 hz64 => ?_) | (refine bs_any rfl fun z64 => ?_)
                have rz64 := n_range z64
                refine bs_putIv (W := [(7, 10, 10)]) (g := 7) rfl rfl Hhp53 (ra0.fr Fhp53) (by decide) rfl rfl rfl rfl (Or.inl rfl) (by omega) (by omega) fun hp65 Hhp65 fhp65 rhp65 ehp65 qhp65 nhp65 => ?_
                have Fhp65 := sf_fr_tr Fhp53 (sf_fr_wider (W := [(7, 10, 10), (9, 4, 9), (120, 0, 19), (121, 0, 19), (122, 0, 19)]) rfl fhp65)
                have h66 : sf_rd hp65 b35 z36.toInt.toNat = some z6.toInt := (ehp65 _ _ (Or.inl (bs_nq r58 (ra0.fr Fhp53) (by decide)))).trans h55
                have h67 : sf_rd hp65 b41 z42.toInt.toNat = some z12.toInt := (ehp65 _ _ (Or.inl (bs_nq r59 (ra0.fr Fhp53) (by decide)))).trans h56
                have h68 : sf_rd hp65 3 7 = some z52.toInt := (ehp65 _ _ (Or.inl (bs_nq (bs_R.uq Hhp53 (g := 9) rfl) (ra0.fr Fhp53) (by decide)))).trans h57
                have h69 : sf_rd hp65 b49 z50.toInt.toNat = some z52.toInt := (ehp65 _ _ (Or.inl (bs_nq r60 (ra0.fr Fhp53) (by decide)))).trans rhp53
                have r70 := r58.fr fhp65
                have r71 := r59.fr fhp65
                have r72 := r60.fr fhp65
                refine bs_lit (k := 1) rfl rfl fun z73 hz73 => ?_
                exact bs_zret rfl rfl (by omega) (by omega) (by rw [hQ]; exact ⟨thp31, Hhp65, Fhp65, bs_an0, sf_S_cons (sf_s1 (x := z73.toInt) rfl (by omega) (by omega)) (sf_S_nil), (fun a s B n lim m j ha hS hC hj hpl h9 => by
                        cases ha
                        have GE : z1.toInt = s.h 3 := Option.some.inj (hz1.symm.trans hS.miss)
                        rw [show lnMiss (tok B n lim) s j = _ from if_neg (by omega)]
                        obtain ⟨q1, rq1, X1⟩ := xhp5 _ s B n lim m (j + 1) rfl hS hC hj
                        obtain rfl := Value.int.inj (Option.some.inj rq1)
                        obtain ⟨Y0, Y1, Y2, Y3, Y4, Y5⟩ := X1.resolve_right (fun h => absurd h.1 (by omega))
                        rw [lold_o Y2 (by omega)]
                        have S1 := SC_fr H ra0 hS fhp5 rfl rfl
                        have J2 : j + 2 < m := CK_more Y3.1 hj (by omega) (by omega)
                        obtain ⟨q2, rq2, X2⟩ := xhp11 _ s B n lim m (j + 2) rfl S1 Y3 J2
                        obtain rfl := Value.int.inj (Option.some.inj rq2)
                        obtain ⟨Z0, Z1, Z2, Z3, Z4, Z5⟩ := X2.resolve_right (fun h => absurd h.1 (by omega))
                        rw [lold_o Z2 (by omega)]
                        have S2 := SC_fr Hhp5 (ra0.fr fhp5) S1 fhp11 rfl rfl
                        obtain ⟨q3, rq3, M1, M2⟩ := xhp23 _ _ _ s rfl S2
                        obtain rfl := Value.int.inj (Option.some.inj rq3)
                        rw [Y1, Z1] at M1 M2
                        rw [if_neg (fun h => h.elim (fun e => absurd e (by omega)) (fun e => absurd (M2 e) (by omega)))]
                        have C0 := TKS_fr Hhp11 Z3.1 fhp23 rfl rfl rfl rfl
                        have J3 : j + 3 < m := CK_more Z3.1 J2 (by omega) (by omega)
                        obtain ⟨q4, rq4, X4⟩ := (xhp31 _ _ rfl).2 B n lim m (j + 3) ⟨C0, ((fhp23.2.2.1 _ (bs_R.uq Hhp11 (g := 9) (p := 3) rfl).1 _ (by rw [(bs_R.uq Hhp11 (g := 9) (p := 3) rfl).2]; rfl))).trans Z3.2.1, Z3.2.2⟩ J3
                        obtain rfl := Value.int.inj (Option.some.inj rq4)
                        obtain ⟨V0, V1, V2, V3, V4, V5, V6⟩ := X4.resolve_right (fun h => absurd h.1 (by omega))
                        rw [lnum_o V1 (by omega) (by omega)]
                        have S3 := SC_fr Hhp11 ((ra0.fr fhp5).fr fhp11) S2 fhp23 rfl rfl
                        have S4 := SC_fr Hhp23 (((ra0.fr fhp5).fr fhp11).fr fhp23) S3 fhp31 rfl rfl
                        have C1 := TKS_fr Hhp31 V5.1 fhp38 rfl rfl rfl rfl
                        have C2 := TKS_fr Hhp38 C1 fhp44 rfl rfl rfl rfl
                        have C3 := TKS_fr Hhp44 C2 fhp53 rfl rfl rfl rfl
                        have C4 := TKS_fr Hhp53 C3 fhp65 rfl rfl rfl rfl
                        have VV : z52.toInt = (tok B n lim (j + 3)).v := Option.some.inj (hz52.symm.trans ((((ehp44 _ _ (Or.inl (bs_nq (bs_R.uq Hhp38 (g := 9) rfl) rb41 (by decide)))).trans (ehp38 _ _ (Or.inl (bs_nq (bs_R.uq Hhp31 (g := 9) rfl) rb35 (by decide)))))).trans (V4.2.2.1 V1)))
                        have E4 := rrD_of qb35
                        have E5 := rrD_of ((qhp38 _ _).symm.trans qb41)
                        have E6 := rrD_of (((qhp44 _ _).trans (qhp38 _ _)).symm.trans qb49)
                        have I4 : (s.h 3).toNat = z36.toInt.toNat := by omega
                        have I5 : (s.h 3).toNat = z42.toInt.toNat := by omega
                        have I6 : (s.h 3).toNat = z50.toInt.toNat := by omega
                        exact LRES_ok ⟨z73, rfl, by omega⟩ (SC_miss Hhp31 ((((ra0.fr fhp5).fr fhp11).fr fhp23).fr fhp31) S4 (by omega) (fun k => ((qhp65 _ _).trans ((qhp53 _ _).trans ((qhp44 _ _).trans (qhp38 _ _))))) (fun b q => (nhp65 _ _).trans ((nhp53 _ _).trans ((nhp44 _ _).trans (nhp38 _ _)))) (fun b i h g4 g5 g6 => (ehp65 _ _ h).trans ((ehp53 _ _ (by rw [E6, I6] at g6; exact g6)).trans ((ehp44 _ _ (by rw [E5, I5] at g5; exact g5)).trans (ehp38 _ _ (by rw [E4, I4] at g4; exact g4))))) (rhp65.trans (congrArg some (by omega))) (by rw [E4, I4]; exact h66.trans (congrArg some Y1)) (by rw [E5, I5]; exact h67.trans (congrArg some Z1)) (by rw [E6, I6]; exact h69.trans (congrArg some VV))) ⟨C4, (((ehp65 _ _ (Or.inl (bs_nq (bs_R.uq Hhp53 (g := 9) rfl) (ra0.fr Fhp53) (by decide)))).trans ((ehp53 _ _ (Or.inl (bs_nq (bs_R.uq Hhp44 (g := 9) rfl) rb49 (by decide)))).trans ((ehp44 _ _ (Or.inl (bs_nq (bs_R.uq Hhp38 (g := 9) rfl) rb41 (by decide)))).trans (ehp38 _ _ (Or.inl (bs_nq (bs_R.uq Hhp31 (g := 9) rfl) rb35 (by decide)))))))).trans V5.2.1, V5.2.2⟩ ((((ehp65 _ _ (Or.inl (bs_nq (bs_R.uq Hhp53 (g := 9) rfl) (ra0.fr Fhp53) (by decide)))).trans ((ehp53 _ _ (Or.inl (bs_nq (bs_R.uq Hhp44 (g := 9) rfl) rb49 (by decide)))).trans ((ehp44 _ _ (Or.inl (bs_nq (bs_R.uq Hhp38 (g := 9) rfl) rb41 (by decide)))).trans (ehp38 _ _ (Or.inl (bs_nq (bs_R.uq Hhp31 (g := 9) rfl) rb35 (by decide)))))))).trans (V6.trans (((fhp23.2.2.1 _ (bs_R.uq Hhp11 (g := 9) (p := 3) rfl).1 _ (by rw [(bs_R.uq Hhp11 (g := 9) (p := 3) rfl).2]; rfl))).trans (Z4.trans (Y4.trans h9))))) (CK_more V5.1 J3 (by omega) (by omega)))⟩)
              · skip
                have c74 : z32.toInt = 0 := by omega
                refine bs_lit (k := 0) rfl rfl fun z75 hz75 => ?_
                exact bs_zret rfl rfl (by omega) (by omega) (by rw [hQ]; exact ⟨thp31, Hhp31, Fhp31, bs_an0, sf_S_cons (sf_s1 (x := z75.toInt) rfl (by omega) (by omega)) (sf_S_nil), (fun a s B n lim m j ha hS hC hj hpl h9 => by
                        cases ha
                        have GE : z1.toInt = s.h 3 := Option.some.inj (hz1.symm.trans hS.miss)
                        rw [show lnMiss (tok B n lim) s j = _ from if_neg (by omega)]
                        obtain ⟨q1, rq1, X1⟩ := xhp5 _ s B n lim m (j + 1) rfl hS hC hj
                        obtain rfl := Value.int.inj (Option.some.inj rq1)
                        obtain ⟨Y0, Y1, Y2, Y3, Y4, Y5⟩ := X1.resolve_right (fun h => absurd h.1 (by omega))
                        rw [lold_o Y2 (by omega)]
                        have S1 := SC_fr H ra0 hS fhp5 rfl rfl
                        have J2 : j + 2 < m := CK_more Y3.1 hj (by omega) (by omega)
                        obtain ⟨q2, rq2, X2⟩ := xhp11 _ s B n lim m (j + 2) rfl S1 Y3 J2
                        obtain rfl := Value.int.inj (Option.some.inj rq2)
                        obtain ⟨Z0, Z1, Z2, Z3, Z4, Z5⟩ := X2.resolve_right (fun h => absurd h.1 (by omega))
                        rw [lold_o Z2 (by omega)]
                        have S2 := SC_fr Hhp5 (ra0.fr fhp5) S1 fhp11 rfl rfl
                        obtain ⟨q3, rq3, M1, M2⟩ := xhp23 _ _ _ s rfl S2
                        obtain rfl := Value.int.inj (Option.some.inj rq3)
                        rw [Y1, Z1] at M1 M2
                        rw [if_neg (fun h => h.elim (fun e => absurd e (by omega)) (fun e => absurd (M2 e) (by omega)))]
                        have C0 := TKS_fr Hhp11 Z3.1 fhp23 rfl rfl rfl rfl
                        have J3 : j + 3 < m := CK_more Z3.1 J2 (by omega) (by omega)
                        obtain ⟨q4, rq4, X4⟩ := (xhp31 _ _ rfl).2 B n lim m (j + 3) ⟨C0, ((fhp23.2.2.1 _ (bs_R.uq Hhp11 (g := 9) (p := 3) rfl).1 _ (by rw [(bs_R.uq Hhp11 (g := 9) (p := 3) rfl).2]; rfl))).trans Z3.2.1, Z3.2.2⟩ J3
                        obtain rfl := Value.int.inj (Option.some.inj rq4)
                        rcases X4.resolve_left (fun h => absurd h.1 (by omega)) with ⟨_, P1, ⟨P2, P3⟩ | ⟨P2, P4, P3⟩⟩
                        · rw [lnum_1 P2]
                          exact LRES_bad ⟨z75, rfl, by omega⟩ (P3) (P1)
                        · rw [lnum_2 P2 (by omega)]
                          exact LRES_bad ⟨z75, rfl, by omega⟩ (P3) (P1))⟩)
            · skip
              refine Ev.step (j := 56) (s' := ([some (.ref a0), some (.ref 3), some (.int z6), some (.int z12)], [.ref 3], (0, 0), hp23)) rfl rfl ?_
              refine bs_lit (k := 3) rfl rfl fun z76 hz76 => ?_
              refine Ev.inl (L := L_X9_fail) (nL := 2) rfl (bs_rcv (g := 9) Hhp23 (bs_R.uq Hhp23 (g := 9) rfl) (by decide) rfl) rfl (Nat.le_of_ble_eq_true rfl) ?_
              generalize hQ77 : (fun (o : ab_O) => Ev _ _ _ _) = Q77
              refine (show Ev (ab_T L_X9_fail) 0 ([some (.ref 3), some (.int z76)], [], (0, 0), hp23) Q77 from ?_)
              refine Ev.step (j := 1) (s' := ([some (.ref 3), some (.int z76)], [.ref 3], (0, 0), hp23)) rfl rfl ?_
              refine Ev.step (j := 2) (s' := ([some (.ref 3), some (.int z76)], [.int z76, .ref 3], (0, 0), hp23)) rfl rfl ?_
              refine bs_putIv (W := [(9, 9, 9)]) (g := 9) rfl rfl Hhp23 (bs_R.uq Hhp23 (g := 9) rfl) (by decide) rfl rfl rfl rfl (Or.inl rfl) (by omega) (by omega) fun hp78 Hhp78 fhp78 rhp78 ehp78 qhp78 nhp78 => ?_
              have Fhp78 := sf_fr_tr Fhp23 (sf_fr_wider (W := [(7, 10, 10), (9, 4, 9), (120, 0, 19), (121, 0, 19), (122, 0, 19)]) rfl fhp78)
              have h79 : sf_rd hp78 a0 10 = some z1.toInt := (ehp78 _ _ (Or.inl (bs_nq (ra0.fr Fhp23) (bs_R.uq Hhp23 (g := 9) rfl) (by decide)))).trans h25
              refine bs_lit (k := 0) rfl rfl fun z80 hz80 => ?_
              refine bs_zret rfl rfl (by omega) (by omega) ?_
              rw [← hQ77]
              refine (show Ev _ 60 ([some (.ref a0), some (.ref 3), some (.int z6), some (.int z12)], [.int z80], (0, 0), hp78) _ from ?_)
              exact bs_zret rfl rfl (by omega) (by omega) (by rw [hQ]; exact ⟨thp23, Hhp78, Fhp78, bs_an0, sf_S_cons (sf_s1 (x := z80.toInt) rfl (by omega) (by omega)) (sf_S_nil), (fun a s B n lim m j ha hS hC hj hpl h9 => by
                      cases ha
                      have GE : z1.toInt = s.h 3 := Option.some.inj (hz1.symm.trans hS.miss)
                      rw [show lnMiss (tok B n lim) s j = _ from if_neg (by omega)]
                      obtain ⟨q1, rq1, X1⟩ := xhp5 _ s B n lim m (j + 1) rfl hS hC hj
                      obtain rfl := Value.int.inj (Option.some.inj rq1)
                      obtain ⟨Y0, Y1, Y2, Y3, Y4, Y5⟩ := X1.resolve_right (fun h => absurd h.1 (by omega))
                      rw [lold_o Y2 (by omega)]
                      have S1 := SC_fr H ra0 hS fhp5 rfl rfl
                      have J2 : j + 2 < m := CK_more Y3.1 hj (by omega) (by omega)
                      obtain ⟨q2, rq2, X2⟩ := xhp11 _ s B n lim m (j + 2) rfl S1 Y3 J2
                      obtain rfl := Value.int.inj (Option.some.inj rq2)
                      obtain ⟨Z0, Z1, Z2, Z3, Z4, Z5⟩ := X2.resolve_right (fun h => absurd h.1 (by omega))
                      rw [lold_o Z2 (by omega)]
                      have S2 := SC_fr Hhp5 (ra0.fr fhp5) S1 fhp11 rfl rfl
                      obtain ⟨q3, rq3, M1, M2⟩ := xhp23 _ _ _ s rfl S2
                      obtain rfl := Value.int.inj (Option.some.inj rq3)
                      rw [Y1, Z1] at M1 M2
                      rw [if_pos (Or.inr (M1 (by omega)))]
                      exact LRES_bad ⟨z80, rfl, by omega⟩ (rhp78.trans (congrArg some (by omega))) ((((ehp78 _ _ (Or.inr (by omega))).trans (fhp23.2.2.1 _ (bs_R.uq Hhp11 (g := 9) (p := 3) rfl).1 _ (by rw [(bs_R.uq Hhp11 (g := 9) (p := 3) rfl).2]; rfl)))).trans Z5))⟩)
        · skip
          have c81 : z12.toInt = -1 := by omega
          refine bs_lit (k := 0) rfl rfl fun z82 hz82 => ?_
          exact bs_zret rfl rfl (by omega) (by omega) (by rw [hQ]; exact ⟨thp11, Hhp11, Fhp11, bs_an0, sf_S_cons (sf_s1 (x := z82.toInt) rfl (by omega) (by omega)) (sf_S_nil), (fun a s B n lim m j ha hS hC hj hpl h9 => by
                  cases ha
                  have GE : z1.toInt = s.h 3 := Option.some.inj (hz1.symm.trans hS.miss)
                  rw [show lnMiss (tok B n lim) s j = _ from if_neg (by omega)]
                  obtain ⟨q1, rq1, X1⟩ := xhp5 _ s B n lim m (j + 1) rfl hS hC hj
                  obtain rfl := Value.int.inj (Option.some.inj rq1)
                  obtain ⟨Y0, Y1, Y2, Y3, Y4, Y5⟩ := X1.resolve_right (fun h => absurd h.1 (by omega))
                  rw [lold_o Y2 (by omega)]
                  have S1 := SC_fr H ra0 hS fhp5 rfl rfl
                  have J2 : j + 2 < m := CK_more Y3.1 hj (by omega) (by omega)
                  obtain ⟨q2, rq2, X2⟩ := xhp11 _ s B n lim m (j + 2) rfl S1 Y3 J2
                  obtain rfl := Value.int.inj (Option.some.inj rq2)
                  rcases X2.resolve_left (fun h => absurd h.1 (by omega)) with ⟨_, P1, ⟨P2, P3⟩ | ⟨P2, P4, P3⟩⟩
                  · rw [lold_1 P2]
                    exact LRES_bad ⟨z82, rfl, by omega⟩ (P3) (P1)
                  · rw [lold_3 P2 P4]
                    exact LRES_bad ⟨z82, rfl, by omega⟩ (P3) (P1))⟩)
      · skip
        have c83 : z6.toInt = -1 := by omega
        refine bs_lit (k := 0) rfl rfl fun z84 hz84 => ?_
        exact bs_zret rfl rfl (by omega) (by omega) (by rw [hQ]; exact ⟨thp5, Hhp5, Fhp5, bs_an0, sf_S_cons (sf_s1 (x := z84.toInt) rfl (by omega) (by omega)) (sf_S_nil), (fun a s B n lim m j ha hS hC hj hpl h9 => by
                cases ha
                have GE : z1.toInt = s.h 3 := Option.some.inj (hz1.symm.trans hS.miss)
                rw [show lnMiss (tok B n lim) s j = _ from if_neg (by omega)]
                obtain ⟨q1, rq1, X1⟩ := xhp5 _ s B n lim m (j + 1) rfl hS hC hj
                obtain rfl := Value.int.inj (Option.some.inj rq1)
                rcases X1.resolve_left (fun h => absurd h.1 (by omega)) with ⟨_, P1, ⟨P2, P3⟩ | ⟨P2, P4, P3⟩⟩
                · rw [lold_1 P2]
                  exact LRES_bad ⟨z84, rfl, by omega⟩ (P3) (P1)
                · rw [lold_3 P2 P4]
                  exact LRES_bad ⟨z84, rfl, by omega⟩ (P3) (P1))⟩)
    · skip
      refine Ev.step (j := 10) (s' := ([some (.ref a0), some (.ref 3), none, none], [.ref 3], (0, 0), hp)) rfl rfl ?_
      refine bs_lit (k := 4) rfl rfl fun z85 hz85 => ?_
      refine Ev.inl (L := L_X9_fail) (nL := 2) rfl (bs_rcv (g := 9) H (bs_R.uq H (g := 9) rfl) (by decide) rfl) rfl (Nat.le_of_ble_eq_true rfl) ?_
      generalize hQ86 : (fun (o : ab_O) => Ev _ _ _ _) = Q86
      refine (show Ev (ab_T L_X9_fail) 0 ([some (.ref 3), some (.int z85)], [], (0, 0), hp) Q86 from ?_)
      refine Ev.step (j := 1) (s' := ([some (.ref 3), some (.int z85)], [.ref 3], (0, 0), hp)) rfl rfl ?_
      refine Ev.step (j := 2) (s' := ([some (.ref 3), some (.int z85)], [.int z85, .ref 3], (0, 0), hp)) rfl rfl ?_
      refine bs_putIv (W := [(9, 9, 9)]) (g := 9) rfl rfl H (bs_R.uq H (g := 9) rfl) (by decide) rfl rfl rfl rfl (Or.inl rfl) (by omega) (by omega) fun hp87 Hhp87 fhp87 rhp87 ehp87 qhp87 nhp87 => ?_
      have Fhp87 := sf_fr_tr F0 (sf_fr_wider (W := [(7, 10, 10), (9, 4, 9), (120, 0, 19), (121, 0, 19), (122, 0, 19)]) rfl fhp87)
      have h88 : sf_rd hp87 a0 10 = some z1.toInt := (ehp87 _ _ (Or.inl (bs_nq (ra0.fr F0) (bs_R.uq H (g := 9) rfl) (by decide)))).trans hz1
      refine bs_lit (k := 0) rfl rfl fun z89 hz89 => ?_
      refine bs_zret rfl rfl (by omega) (by omega) ?_
      rw [← hQ86]
      refine (show Ev _ 14 ([some (.ref a0), some (.ref 3), none, none], [.int z89], (0, 0), hp87) _ from ?_)
      exact bs_zret rfl rfl (by omega) (by omega) (by rw [hQ]; exact ⟨t, Hhp87, Fhp87, bs_an0, sf_S_cons (sf_s1 (x := z89.toInt) rfl (by omega) (by omega)) (sf_S_nil), (fun a s B n lim m j ha hS hC hj hpl h9 => by
              cases ha
              have GE : z1.toInt = s.h 3 := Option.some.inj (hz1.symm.trans hS.miss)
              rw [show lnMiss (tok B n lim) s j = _ from if_pos (by omega)]
              exact LRES_bad ⟨z89, rfl, by omega⟩ (rhp87.trans (congrArg some (by omega))) (((ehp87 _ _ (Or.inr (by omega)))).trans hpl))⟩)
def kq_X7_takeGood_v : sf_Q := ([(1, 7, 0), (1, 9, 0)], [], some (0, 0, 0), [(1, 0, 0, -1, 5, 0)], [(9, 4, 9)])
def ke_X7_takeGood_v : List Value → ab_H → Option Value → ab_H → Prop := fun as hp r hp' => ∀ (a : Nat) (s : PS) (B : Nat → Int) (n lim m i : Nat), as = [.ref a, .ref 3] → SC hp a s → CK hp B n lim m i → i < m → ∃ z : Int32, r = some (.int z) ∧ ((0 ≤ z.toInt ∧ z.toInt = fnd s.nm 0 (s.h 0) (tok B n lim i).v ∧ (tok B n lim i).k = 2 ∧ CK hp' B n lim m (i + 1) ∧ sf_rd hp' 3 9 = sf_rd hp 3 9 ∧ sf_rd hp' 3 6 = some (tok B n lim i).pl) ∨ (z.toInt = -1 ∧ sf_rd hp' 3 6 = some (tok B n lim i).pl ∧ (((tok B n lim i).k ≠ 2 ∧ sf_rd hp' 3 9 = some 1) ∨ ((tok B n lim i).k = 2 ∧ fnd s.nm 0 (s.h 0) (tok B n lim i).v < 0 ∧ sf_rd hp' 3 9 = some 3))))
set_option maxRecDepth 100000 in
set_option maxHeartbeats 4000000 in
theorem ce_X7_takeGood_v : sf_cE kq_X7_takeGood_v Z_X7_takeGood ke_X7_takeGood_v := by
  intro t hp as H hl hj hpre
  match as, hl with
  | [v0, v1], _ =>
    obtain ⟨a0, rfl, ra0⟩ := bs_aR (hj 0 _ rfl)
    obtain ⟨a1, rfl, ra1⟩ := bs_aR (hj 1 _ rfl)
    obtain rfl := ra1.eq H (p := 3) rfl
    clear hpre hj
    have F0 : sf_fr [(9, 4, 9)] t hp t hp := sf_fr_rf
    refine bs_finx (E := ke_X7_takeGood_v) (K := kq_X7_takeGood_v) (L := (L_X7_takeGood Z_X9_takeName Z_X7_goodNamed Z_X9_fail)) (nL := 3) (Nat.le_of_ble_eq_true rfl) ?_
    obtain ⟨Q, hQ⟩ : ∃ Q : ab_O → Prop, Q = (fun o => ∃ t', sf_h t' o.2 ∧ sf_fr (kq_X7_takeGood_v).2.2.2.2 t hp t' o.2 ∧ sf_an t' o.2.1 (kq_X7_takeGood_v).2.2.1 o.1 ∧ sf_S (sf_v1 o.1 [.ref a0, .ref 3] o.2) (kq_X7_takeGood_v).2.2.2.1 ∧ ke_X7_takeGood_v [.ref a0, .ref 3] hp o.1 o.2) := ⟨_, rfl⟩
    rw [← hQ]
    refine (show Ev (ab_T (L_X7_takeGood Z_X9_takeName Z_X7_goodNamed Z_X9_fail)) 0 ([some (.ref a0), some (.ref 3), none], [], (0, 0), hp) Q from ?_)
    refine Ev.step (j := 1) (s' := ([some (.ref a0), some (.ref 3), none], [.ref 3], (0, 0), hp)) rfl rfl ?_
    refine bs_callx (K := kq_X9_takeName_v) [.ref 3] [] rfl ce_X9_takeName_v H rfl rfl rfl (bs_rcv (g := 9) H (bs_R.uq H (g := 9) rfl) (by decide) rfl) rfl ?_ (sf_S_nil) fun r1 hp2 thp2 Hhp2 fhp2 ahp2 php2 xhp2 => ?_
    · intro q k h
      match q, h with
      | 0, h => cases h; exact bs_jR (bs_R.uq H (g := 9) rfl)
      | q + 1, h => cases h
    obtain ⟨z3, rfl⟩ := bs_anI ahp2
    have rgz3 := n_range z3
    have Fhp2 := sf_fr_tr F0 (sf_fr_wider (W := [(9, 4, 9)]) rfl fhp2)
    obtain ⟨uz3, vz3⟩ := bs_s1 (x := z3.toInt) rfl (php2 _ (List.mem_of_getElem? (i := 0) rfl))
    refine (show Ev _ 4 ([some (.ref a0), some (.ref 3), none], [.int z3], (0, 0), hp2) _ from ?_)
    refine bs_ifne rfl (fun c4 => ?_) (fun c4 => ?_)
    · skip
      refine Ev.step (j := 10) (s' := ([some (.ref a0), some (.ref 3), none], [.ref a0], (0, 0), hp2)) rfl rfl ?_
      refine Ev.step (j := 11) (s' := ([some (.ref a0), some (.ref 3), none], [.ref 3, .ref a0], (0, 0), hp2)) rfl rfl ?_
      refine bs_getLv (g := 9) rfl rfl Hhp2 (bs_R.uq Hhp2 (g := 9) rfl) (by decide) rfl fun w5 hw5 => ?_
      refine bs_callx (K := kq_X7_goodNamed_v) [.ref a0, .long w5] [] rfl ce_X7_goodNamed_v Hhp2 rfl rfl rfl (bs_rcv (g := 7) Hhp2 (ra0.fr Fhp2) (by decide) rfl) rfl ?_ (sf_S_nil) fun r6 hp7 thp7 Hhp7 fhp7 ahp7 php7 xhp7 => ?_
      · intro q k h
        match q, h with
        | 0, h => cases h; exact bs_jR (ra0.fr Fhp2)
        | 1, h => cases h; exact sf_j2
        | q + 2, h => cases h
      obtain ⟨z8, rfl⟩ := bs_anI ahp7
      have rgz8 := n_range z8
      have Fhp7 := sf_fr_tr Fhp2 (sf_fr_wider (W := [(9, 4, 9)]) rfl fhp7)
      have h9 : sf_rl hp7 3 8 = some w5 := (sf_rl_cell (fhp7.2.2.2.1 _ (bs_R.uq Hhp2 (g := 9) (p := 3) rfl).1 (by rw [(bs_R.uq Hhp2 (g := 9) (p := 3) rfl).2]; rfl))).trans hw5
      obtain ⟨uz8, vz8⟩ := bs_s1 (x := z8.toInt) rfl (php7 _ (List.mem_of_getElem? (i := 0) rfl))
      refine (show Ev _ 17 ([some (.ref a0), some (.ref 3), none], [.int z8], (0, 0), hp7) _ from ?_)
      refine Ev.step (j := 18) (s' := ([some (.ref a0), some (.ref 3), some (.int z8)], [], (0, 0), hp7)) rfl rfl ?_
      refine Ev.step (j := 19) (s' := ([some (.ref a0), some (.ref 3), some (.int z8)], [.int z8], (0, 0), hp7)) rfl rfl ?_
      refine bs_lit (k := -1) rfl rfl fun z10 hz10 => ?_
      refine bs_ne rfl (fun c11 => ?_) (fun c11 => ?_)
      · skip
        refine Ev.step (j := 30) (s' := ([some (.ref a0), some (.ref 3), some (.int z8)], [.int z8], (0, 0), hp7)) rfl rfl ?_
        exact Ev.ret rfl rfl (by rw [hQ]; exact ⟨thp7, Hhp7, Fhp7, bs_an0, sf_S_cons (sf_s1 (x := z8.toInt) rfl (by omega) (by omega)) (sf_S_nil), (fun a s B n lim m i ha hS hC hi_ => by
                cases ha
                obtain ⟨q1, rq1, X1⟩ := xhp2 B n lim m i hC hi_
                obtain rfl := Value.int.inj (Option.some.inj rq1)
                obtain ⟨Y1, X2, X3, X4, X5⟩ := X1.resolve_right (fun h => absurd h.1 (by omega))
                obtain ⟨wq9, W1, W2⟩ := X3.2.2.2 X2
                have WE : w5 = wq9 := Option.some.inj (hw5.symm.trans W1)
                have LW9 := (tok_wok B n lim i (Or.inl X2)).1
                have S1 := SC_fr H ra0 hS fhp2 rfl rfl
                obtain ⟨q2, rq2, G2⟩ := xhp7 _ _ s (tok B n lim i).v rfl S1 (by rw [WE]; exact W2) LW9
                obtain rfl := Value.int.inj (Option.some.inj rq2)
                have C1 := TKS_fr Hhp2 X4.1 fhp7 rfl rfl rfl rfl
                exact ⟨z8, rfl, Or.inl ⟨by omega, G2, X2, ⟨C1, ((fhp7.2.2.1 _ (bs_R.uq Hhp2 (g := 9) (p := 3) rfl).1 _ (by rw [(bs_R.uq Hhp2 (g := 9) (p := 3) rfl).2]; rfl))).trans X4.2.1, X4.2.2⟩, ((fhp7.2.2.1 _ (bs_R.uq Hhp2 (g := 9) (p := 3) rfl).1 _ (by rw [(bs_R.uq Hhp2 (g := 9) (p := 3) rfl).2]; rfl))).trans X5, ((fhp7.2.2.1 _ (bs_R.uq Hhp2 (g := 9) (p := 3) rfl).1 _ (by rw [(bs_R.uq Hhp2 (g := 9) (p := 3) rfl).2]; rfl))).trans X3.2.1⟩⟩)⟩)
      · skip
        have c12 : z8.toInt = -1 := by omega
        refine Ev.step (j := 24) (s' := ([some (.ref a0), some (.ref 3), some (.int z8)], [.ref 3], (0, 0), hp7)) rfl rfl ?_
        refine bs_lit (k := 3) rfl rfl fun z13 hz13 => ?_
        refine Ev.inl (L := L_X9_fail) (nL := 2) rfl (bs_rcv (g := 9) Hhp7 (bs_R.uq Hhp7 (g := 9) rfl) (by decide) rfl) rfl (Nat.le_of_ble_eq_true rfl) ?_
        generalize hQ14 : (fun (o : ab_O) => Ev _ _ _ _) = Q14
        refine (show Ev (ab_T L_X9_fail) 0 ([some (.ref 3), some (.int z13)], [], (0, 0), hp7) Q14 from ?_)
        refine Ev.step (j := 1) (s' := ([some (.ref 3), some (.int z13)], [.ref 3], (0, 0), hp7)) rfl rfl ?_
        refine Ev.step (j := 2) (s' := ([some (.ref 3), some (.int z13)], [.int z13, .ref 3], (0, 0), hp7)) rfl rfl ?_
        refine bs_putIv (W := [(9, 9, 9)]) (g := 9) rfl rfl Hhp7 (bs_R.uq Hhp7 (g := 9) rfl) (by decide) rfl rfl rfl rfl (Or.inl rfl) (by omega) (by omega) fun hp15 Hhp15 fhp15 rhp15 ehp15 qhp15 nhp15 => ?_
        have Fhp15 := sf_fr_tr Fhp7 (sf_fr_wider (W := [(9, 4, 9)]) rfl fhp15)
        have h16 : sf_rl hp15 3 8 = some w5 := (nhp15 _ _).trans h9
        refine bs_lit (k := 0) rfl rfl fun z17 hz17 => ?_
        refine bs_zret rfl rfl (by omega) (by omega) ?_
        rw [← hQ14]
        refine (show Ev _ 28 ([some (.ref a0), some (.ref 3), some (.int z8)], [.int z17], (0, 0), hp15) _ from ?_)
        refine Ev.step (j := 29) (s' := ([some (.ref a0), some (.ref 3), some (.int z8)], [], (0, 0), hp15)) rfl rfl ?_
        refine Ev.step (j := 30) (s' := ([some (.ref a0), some (.ref 3), some (.int z8)], [.int z8], (0, 0), hp15)) rfl rfl ?_
        exact Ev.ret rfl rfl (by rw [hQ]; exact ⟨thp7, Hhp15, Fhp15, bs_an0, sf_S_cons (sf_s1 (x := z8.toInt) rfl (by omega) (by omega)) (sf_S_nil), (fun a s B n lim m i ha hS hC hi_ => by
                cases ha
                obtain ⟨q1, rq1, X1⟩ := xhp2 B n lim m i hC hi_
                obtain rfl := Value.int.inj (Option.some.inj rq1)
                obtain ⟨Y1, X2, X3, X4, X5⟩ := X1.resolve_right (fun h => absurd h.1 (by omega))
                obtain ⟨wq9, W1, W2⟩ := X3.2.2.2 X2
                have WE : w5 = wq9 := Option.some.inj (hw5.symm.trans W1)
                have LW9 := (tok_wok B n lim i (Or.inl X2)).1
                have S1 := SC_fr H ra0 hS fhp2 rfl rfl
                obtain ⟨q2, rq2, G2⟩ := xhp7 _ _ s (tok B n lim i).v rfl S1 (by rw [WE]; exact W2) LW9
                obtain rfl := Value.int.inj (Option.some.inj rq2)
                exact ⟨z8, rfl, Or.inr ⟨by omega, (((ehp15 _ _ (Or.inr (by omega))).trans (fhp7.2.2.1 _ (bs_R.uq Hhp2 (g := 9) (p := 3) rfl).1 _ (by rw [(bs_R.uq Hhp2 (g := 9) (p := 3) rfl).2]; rfl)))).trans X3.2.1, Or.inr ⟨X2, by omega, rhp15.trans (congrArg some (by omega))⟩⟩⟩)⟩)
    · skip
      have c18 : z3.toInt = 0 := by omega
      refine bs_lit (k := -1) rfl rfl fun z19 hz19 => ?_
      exact Ev.ret rfl rfl (by rw [hQ]; exact ⟨thp2, Hhp2, Fhp2, bs_an0, sf_S_cons (sf_s1 (x := z19.toInt) rfl (by omega) (by omega)) (sf_S_nil), (fun a s B n lim m i ha hS hC hi_ => by
              cases ha
              obtain ⟨q1, rq1, X1⟩ := xhp2 B n lim m i hC hi_
              obtain rfl := Value.int.inj (Option.some.inj rq1)
              rcases X1 with X | ⟨_, X2, X3, X4⟩
              · exact absurd X.1 (by omega)
              · exact ⟨z19, rfl, Or.inr ⟨by omega, X2, Or.inl ⟨X3, X4⟩⟩⟩)⟩)
def kq_X7_readAmount_v : sf_Q := ([(1, 7, 0), (1, 9, 0), (0, 0, 0)], [(1, 6, 0, 0, 3, 0)], some (0, 0, 0), [(1, 0, 0, 0, 1, 0)], [(7, 12, 12), (9, 4, 9), (119, 0, 47)])
def ke_X7_readAmount_v : List Value → ab_H → Option Value → ab_H → Prop := fun as hp r hp' => ∀ (a : Nat) (s : PS) (B : Nat → Int) (n lim m j : Nat) (x : Int32), as = [.ref a, .ref 3, .int x] → SC hp a s → CK hp B n lim m (j + 1) → j + 1 < m → sf_rd hp 3 6 = some (tok B n lim j).pl → sf_rd hp 3 9 = some 0 → LRES hp' a B n lim m r (lnAmt (tok B n lim) s j x.toInt.toNat)
set_option maxRecDepth 100000 in
set_option maxHeartbeats 4000000 in
theorem ce_X7_readAmount_v : sf_cE kq_X7_readAmount_v Z_X7_readAmount ke_X7_readAmount_v := by
  intro t hp as H hl hj hpre
  match as, hl with
  | [v0, v1, v2], _ =>
    obtain ⟨a0, rfl, ra0⟩ := bs_aR (hj 0 _ rfl)
    obtain ⟨a1, rfl, ra1⟩ := bs_aR (hj 1 _ rfl)
    obtain rfl := ra1.eq H (p := 3) rfl
    obtain ⟨x2, rfl⟩ := bs_aI (hj 2 _ rfl)
    have rg2 := n_range x2
    obtain ⟨pl0, ph0⟩ := bs_s1 (x := x2.toInt) rfl (hpre _ (List.mem_of_getElem? (i := 0) rfl))
    clear hpre hj
    have F0 : sf_fr [(7, 12, 12), (9, 4, 9), (119, 0, 47)] t hp t hp := sf_fr_rf
    refine bs_finx (E := ke_X7_readAmount_v) (K := kq_X7_readAmount_v) (L := (L_X7_readAmount Z_X7_takeGood Z_X9_takeNumber Z_X10_slotOf Z_X9_fail)) (nL := 6) (Nat.le_of_ble_eq_true rfl) ?_
    obtain ⟨Q, hQ⟩ : ∃ Q : ab_O → Prop, Q = (fun o => ∃ t', sf_h t' o.2 ∧ sf_fr (kq_X7_readAmount_v).2.2.2.2 t hp t' o.2 ∧ sf_an t' o.2.1 (kq_X7_readAmount_v).2.2.1 o.1 ∧ sf_S (sf_v1 o.1 [.ref a0, .ref 3, .int x2] o.2) (kq_X7_readAmount_v).2.2.2.1 ∧ ke_X7_readAmount_v [.ref a0, .ref 3, .int x2] hp o.1 o.2) := ⟨_, rfl⟩
    rw [← hQ]
    refine (show Ev (ab_T (L_X7_readAmount Z_X7_takeGood Z_X9_takeNumber Z_X10_slotOf Z_X9_fail)) 0 ([some (.ref a0), some (.ref 3), some (.int x2), none, none, none], [], (0, 0), hp) Q from ?_)
    refine Ev.step (j := 1) (s' := ([some (.ref a0), some (.ref 3), some (.int x2), none, none, none], [.ref a0], (0, 0), hp)) rfl rfl ?_
    refine Ev.step (j := 2) (s' := ([some (.ref a0), some (.ref 3), some (.int x2), none, none, none], [.ref 3, .ref a0], (0, 0), hp)) rfl rfl ?_
    refine bs_callx (K := kq_X7_takeGood_v) [.ref a0, .ref 3] [] rfl ce_X7_takeGood_v H rfl rfl rfl (bs_rcv (g := 7) H (ra0.fr F0) (by decide) rfl) rfl ?_ (sf_S_nil) fun r1 hp2 thp2 Hhp2 fhp2 ahp2 php2 xhp2 => ?_
    · intro q k h
      match q, h with
      | 0, h => cases h; exact bs_jR (ra0.fr F0)
      | 1, h => cases h; exact bs_jR (bs_R.uq H (g := 9) rfl)
      | q + 2, h => cases h
    obtain ⟨z3, rfl⟩ := bs_anI ahp2
    have rgz3 := n_range z3
    have Fhp2 := sf_fr_tr F0 (sf_fr_wider (W := [(7, 12, 12), (9, 4, 9), (119, 0, 47)]) rfl fhp2)
    obtain ⟨uz3, vz3⟩ := bs_s1 (x := z3.toInt) rfl (php2 _ (List.mem_of_getElem? (i := 0) rfl))
    refine (show Ev _ 5 ([some (.ref a0), some (.ref 3), some (.int x2), none, none, none], [.int z3], (0, 0), hp2) _ from ?_)
    refine Ev.step (j := 6) (s' := ([some (.ref a0), some (.ref 3), some (.int x2), some (.int z3), none, none], [], (0, 0), hp2)) rfl rfl ?_
    refine Ev.step (j := 7) (s' := ([some (.ref a0), some (.ref 3), some (.int x2), some (.int z3), none, none], [.int z3], (0, 0), hp2)) rfl rfl ?_
    refine bs_lit (k := -1) rfl rfl fun z4 hz4 => ?_
    refine bs_eq rfl (fun c5 => ?_) (fun c5 => ?_)
    · skip
      have c6 : z3.toInt = -1 := by omega
      refine bs_lit (k := 0) rfl rfl fun z7 hz7 => ?_
      exact bs_zret rfl rfl (by omega) (by omega) (by rw [hQ]; exact ⟨thp2, Hhp2, Fhp2, bs_an0, sf_S_cons (sf_s1 (x := z7.toInt) rfl (by omega) (by omega)) (sf_S_nil), (fun a s B n lim m j x ha hS hC hj hpl h9 => by
              have EX : x = x2 := by cases ha; rfl
              subst EX
              cases ha
              obtain ⟨q1, rq1, X1⟩ := xhp2 _ s B n lim m (j + 1) rfl hS hC hj
              obtain rfl := Value.int.inj (Option.some.inj rq1)
              show LRES _ _ _ _ _ _ _ (lold (tok B n lim) s 0 (s.h 0) (j + 1) _)
              rcases X1.resolve_left (fun h => absurd h.1 (by omega)) with ⟨_, P1, ⟨P2, P3⟩ | ⟨P2, P4, P3⟩⟩
              · rw [lold_1 P2]
                exact LRES_bad ⟨z7, rfl, by omega⟩ (P3) (P1)
              · rw [lold_3 P2 P4]
                exact LRES_bad ⟨z7, rfl, by omega⟩ (P3) (P1))⟩)
    · skip
      refine Ev.step (j := 12) (s' := ([some (.ref a0), some (.ref 3), some (.int x2), some (.int z3), none, none], [.ref 3], (0, 0), hp2)) rfl rfl ?_
      refine bs_lit (k := 0) rfl rfl fun z8 hz8 => ?_
      refine bs_lit (k := 1) rfl rfl fun z9 hz9 => ?_
      refine bs_callx (K := kq_X9_takeNumber_v) [.ref 3, .int z8, .int z9] [] rfl ce_X9_takeNumber_v Hhp2 rfl rfl rfl (bs_rcv (g := 9) Hhp2 (bs_R.uq Hhp2 (g := 9) rfl) (by decide) rfl) rfl ?_ (sf_S_nil) fun r10 hp11 thp11 Hhp11 fhp11 ahp11 php11 xhp11 => ?_
      · intro q k h
        match q, h with
        | 0, h => cases h; exact bs_jR (bs_R.uq Hhp2 (g := 9) rfl)
        | 1, h => cases h; exact sf_j0
        | 2, h => cases h; exact sf_j0
        | q + 3, h => cases h
      obtain ⟨z12, rfl⟩ := bs_anI ahp11
      have rgz12 := n_range z12
      have Fhp11 := sf_fr_tr Fhp2 (sf_fr_wider (W := [(7, 12, 12), (9, 4, 9), (119, 0, 47)]) rfl fhp11)
      obtain ⟨uz12, vz12⟩ := bs_s1 (x := z12.toInt) rfl (php11 _ (List.mem_of_getElem? (i := 0) rfl))
      refine (show Ev _ 17 ([some (.ref a0), some (.ref 3), some (.int x2), some (.int z3), none, none], [.int z12], (0, 0), hp11) _ from ?_)
      refine bs_ifne rfl (fun c13 => ?_) (fun c13 => ?_)
      · skip
        obtain ⟨y14, hy14, ly14, gy14⟩ := (xhp11 _ _ rfl).1 _ rfl (by omega)
        refine Ev.step (j := 23) (s' := ([some (.ref a0), some (.ref 3), some (.int x2), some (.int z3), none, none], [.int x2], (0, 0), hp11)) rfl rfl ?_
        refine bs_lit (k := 12) rfl rfl fun z15 hz15 => ?_
        refine bs_mul (12) rfl (Or.inr hz15) (by rw [hz15]; omega) (by rw [hz15]; omega) fun z16 hz16 => ?_
        rw [hz15] at hz16
        refine Ev.step (j := 27) (s' := ([some (.ref a0), some (.ref 3), some (.int x2), some (.int z3), none, none], [.int z3, .int z16], (0, 0), hp11)) rfl rfl ?_
        refine Ev.step (j := 28) (s' := ([some (.ref a0), some (.ref 3), some (.int x2), some (.int z3), none, none], [.ref 3, .int z3, .int z16], (0, 0), hp11)) rfl rfl ?_
        refine bs_getI 9 rfl rfl rfl Hhp11 (bs_R.uq Hhp11 (g := 9) rfl) (by decide) rfl fun z17 hz17 lz17 gz17 => ?_
        have e18 : z17.toInt = y14 := Option.some.inj (hz17.symm.trans hy14)
        refine Ev.inlS (L := L_X10_slotOf) (nL := 2) rfl rfl (Nat.le_of_ble_eq_true rfl) ?_
        generalize hQ19 : (fun (o : ab_O) => Ev _ _ _ _) = Q19
        refine (show Ev (ab_T L_X10_slotOf) 0 ([some (.int z3), some (.int z17)], [], (0, 0), hp11) Q19 from ?_)
        refine bs_lit (k := 2) rfl rfl fun z20 hz20 => ?_
        refine Ev.step (j := 2) (s' := ([some (.int z3), some (.int z17)], [.int z3, .int z20], (0, 0), hp11)) rfl rfl ?_
        refine bs_mul (2) rfl (Or.inl hz20) (by rw [hz20]; omega) (by rw [hz20]; omega) fun z21 hz21 => ?_
        rw [hz20] at hz21
        refine Ev.step (j := 4) (s' := ([some (.int z3), some (.int z17)], [.int z17, .int z21], (0, 0), hp11)) rfl rfl ?_
        first | (refine bs_add rfl (by omega) (by omega) fun z22 hz22 => ?_) | (refine bs_any rfl fun z22 => ?_)
        have rz22 := n_range z22
        refine Ev.ret rfl rfl ?_
        rw [← hQ19]
        refine (show Ev _ 34 ([some (.ref a0), some (.ref 3), some (.int x2), some (.int z3), none, none], [.int z22, .int z16], (0, 0), hp11) _ from ?_)
        first | (refine bs_add rfl (by omega) (by omega) fun z23 hz23 => ?_) | (refine bs_any rfl fun z23 => ?_)
        have rz23 := n_range z23
        refine Ev.step (j := 37) (s' := ([some (.ref a0), some (.ref 3), some (.int x2), some (.int z3), some (.int z23), none], [], (0, 0), hp11)) rfl rfl ?_
        refine Ev.step (j := 38) (s' := ([some (.ref a0), some (.ref 3), some (.int x2), some (.int z3), some (.int z23), none], [.ref a0], (0, 0), hp11)) rfl rfl ?_
        refine bs_getLv (g := 7) rfl rfl Hhp11 (ra0.fr Fhp11) (by decide) rfl fun w24 hw24 => ?_
        refine Ev.step (j := 42) (s' := ([some (.ref a0), some (.ref 3), some (.int x2), some (.int z3), some (.int z23), none], [.long (1 : Int64), .long w24], (0, 0), hp11)) rfl rfl ?_
        refine Ev.step (j := 44) (s' := ([some (.ref a0), some (.ref 3), some (.int x2), some (.int z3), some (.int z23), none], [.int z23, .long (1 : Int64), .long w24], (0, 0), hp11)) rfl rfl ?_
        refine Ev.step (j := 45) (s' := ([some (.ref a0), some (.ref 3), some (.int x2), some (.int z3), some (.int z23), none], [.long ((1 : Int64) <<< (z23.toInt64 &&& 63)), .long w24], (0, 0), hp11)) rfl rfl ?_
        refine Ev.step (j := 46) (s' := ([some (.ref a0), some (.ref 3), some (.int x2), some (.int z3), some (.int z23), none], [.long (w24 &&& ((1 : Int64) <<< (z23.toInt64 &&& 63)))], (0, 0), hp11)) rfl rfl ?_
        refine Ev.step (j := 47) (s' := ([some (.ref a0), some (.ref 3), some (.int x2), some (.int z3), some (.int z23), none], [.long (0 : Int64), .long (w24 &&& ((1 : Int64) <<< (z23.toInt64 &&& 63)))], (0, 0), hp11)) rfl rfl ?_
        refine bs_lcmpv rfl fun z25 hz25 => ?_
        refine bs_ifeq rfl (fun c26 => ?_) (fun c26 => ?_)
        · skip
          have c27 : z25.toInt = 0 := by omega
          refine Ev.step (j := 58) (s' := ([some (.ref a0), some (.ref 3), some (.int x2), some (.int z3), some (.int z23), none], [.int x2], (0, 0), hp11)) rfl rfl ?_
          refine bs_lit (k := 2) rfl rfl fun z28 hz28 => ?_
          refine bs_eq rfl (fun c29 => ?_) (fun c29 => ?_)
          · skip
            have c30 : x2.toInt = 2 := by omega
            refine bs_lit (k := 1) rfl rfl fun z31 hz31 => ?_
            refine Ev.step (j := 72) (s' := ([some (.ref a0), some (.ref 3), some (.int x2), some (.int z3), some (.int z23), none], [.int z31], (0, 0), hp11)) rfl rfl ?_
            refine Ev.step (j := 74) (s' := ([some (.ref a0), some (.ref 3), some (.int x2), some (.int z3), some (.int z23), some (.int z31)], [], (0, 0), hp11)) rfl rfl ?_
            refine Ev.step (j := 75) (s' := ([some (.ref a0), some (.ref 3), some (.int x2), some (.int z3), some (.int z23), some (.int z31)], [.ref 3], (0, 0), hp11)) rfl rfl ?_
            refine bs_lit (k := 0) rfl rfl fun z32 hz32 => ?_
            refine Ev.step (j := 78) (s' := ([some (.ref a0), some (.ref 3), some (.int x2), some (.int z3), some (.int z23), some (.int z31)], [.int z31, .int z32, .ref 3], (0, 0), hp11)) rfl rfl ?_
            refine bs_ifeq rfl (fun c33 => ?_) (fun c33 => ?_)
            · exfalso; omega
            · skip
              refine bs_lit (k := 20) rfl rfl fun z34 hz34 => ?_
              refine Ev.step (j := 89) (s' := ([some (.ref a0), some (.ref 3), some (.int x2), some (.int z3), some (.int z23), some (.int z31)], [.int z34, .int z32, .ref 3], (0, 0), hp11)) rfl rfl ?_
              refine bs_callx (K := kq_X9_takeNumber_v) [.ref 3, .int z32, .int z34] [] rfl ce_X9_takeNumber_v Hhp11 rfl rfl rfl (bs_rcv (g := 9) Hhp11 (bs_R.uq Hhp11 (g := 9) rfl) (by decide) rfl) rfl ?_ (sf_S_nil) fun r35 hp36 thp36 Hhp36 fhp36 ahp36 php36 xhp36 => ?_
              · intro q k h
                match q, h with
                | 0, h => cases h; exact bs_jR (bs_R.uq Hhp11 (g := 9) rfl)
                | 1, h => cases h; exact sf_j0
                | 2, h => cases h; exact sf_j0
                | q + 3, h => cases h
              obtain ⟨z37, rfl⟩ := bs_anI ahp36
              have rgz37 := n_range z37
              have Fhp36 := sf_fr_tr Fhp11 (sf_fr_wider (W := [(7, 12, 12), (9, 4, 9), (119, 0, 47)]) rfl fhp36)
              have h38 : sf_rl hp36 a0 12 = some w24 := (sf_rl_cell (fhp36.2.2.2.1 _ (ra0.fr Fhp11).1 (by rw [(ra0.fr Fhp11).2]; rfl))).trans hw24
              obtain ⟨uz37, vz37⟩ := bs_s1 (x := z37.toInt) rfl (php36 _ (List.mem_of_getElem? (i := 0) rfl))
              refine (show Ev _ 92 ([some (.ref a0), some (.ref 3), some (.int x2), some (.int z3), some (.int z23), some (.int z31)], [.int z37], (0, 0), hp36) _ from ?_)
              refine bs_ifne rfl (fun c39 => ?_) (fun c39 => ?_)
              · skip
                obtain ⟨y40, hy40, ly40, gy40⟩ := (xhp36 _ _ rfl).1 _ rfl (by omega)
                refine Ev.step (j := 98) (s' := ([some (.ref a0), some (.ref 3), some (.int x2), some (.int z3), some (.int z23), some (.int z31)], [.ref a0], (0, 0), hp36)) rfl rfl ?_
                refine Ev.step (j := 99) (s' := ([some (.ref a0), some (.ref 3), some (.int x2), some (.int z3), some (.int z23), some (.int z31)], [.ref a0, .ref a0], (0, 0), hp36)) rfl rfl ?_
                refine bs_getLe (g := 7) rfl rfl Hhp36 (ra0.fr Fhp36) (by decide) rfl h38 ?_
                refine Ev.step (j := 103) (s' := ([some (.ref a0), some (.ref 3), some (.int x2), some (.int z3), some (.int z23), some (.int z31)], [.long (1 : Int64), .long w24, .ref a0], (0, 0), hp36)) rfl rfl ?_
                refine Ev.step (j := 105) (s' := ([some (.ref a0), some (.ref 3), some (.int x2), some (.int z3), some (.int z23), some (.int z31)], [.int z23, .long (1 : Int64), .long w24, .ref a0], (0, 0), hp36)) rfl rfl ?_
                refine Ev.step (j := 106) (s' := ([some (.ref a0), some (.ref 3), some (.int x2), some (.int z3), some (.int z23), some (.int z31)], [.long ((1 : Int64) <<< (z23.toInt64 &&& 63)), .long w24, .ref a0], (0, 0), hp36)) rfl rfl ?_
                refine Ev.step (j := 107) (s' := ([some (.ref a0), some (.ref 3), some (.int x2), some (.int z3), some (.int z23), some (.int z31)], [.long (w24 ||| ((1 : Int64) <<< (z23.toInt64 &&& 63))), .ref a0], (0, 0), hp36)) rfl rfl ?_
                refine bs_putLv (W := [(7, 12, 12)]) (g := 7) rfl rfl Hhp36 (ra0.fr Fhp36) (by decide) rfl rfl rfl rfl fun hp41 Hhp41 fhp41 mhp41 lhp41 ehp41 qhp41 => ?_
                have Fhp41 := sf_fr_tr Fhp36 (sf_fr_wider (W := [(7, 12, 12), (9, 4, 9), (119, 0, 47)]) rfl fhp41)
                have h42 : sf_rd hp41 3 7 = some y40 := (ehp41 _ _).trans hy40
                refine Ev.step (j := 111) (s' := ([some (.ref a0), some (.ref 3), some (.int x2), some (.int z3), some (.int z23), some (.int z31)], [.ref a0], (0, 0), hp41)) rfl rfl ?_
                refine bs_getR (g := 7) (g1 := 119) rfl rfl Hhp41 (ra0.fr Fhp41) (by decide) rfl fun b43 qb43 rb43 => ?_
                refine Ev.step (j := 116) (s' := ([some (.ref a0), some (.ref 3), some (.int x2), some (.int z3), some (.int z23), some (.int z31)], [.int z23, .ref b43], (0, 0), hp41)) rfl rfl ?_
                refine Ev.step (j := 117) (s' := ([some (.ref a0), some (.ref 3), some (.int x2), some (.int z3), some (.int z23), some (.int z31)], [.ref 3, .int z23, .ref b43], (0, 0), hp41)) rfl rfl ?_
                refine bs_getI 9 rfl rfl rfl Hhp41 (bs_R.uq Hhp41 (g := 9) rfl) (by decide) rfl fun z44 hz44 lz44 gz44 => ?_
                have e45 : z44.toInt = y40 := Option.some.inj (hz44.symm.trans h42)
                refine bs_stv (W := [(119, 0, 47)]) (g := 119) 0 47 (0, 250) rfl Hhp41 rb43 (by decide) rfl rfl (by decide) rfl rfl (by omega) (by omega) (by dsimp only; omega) (by dsimp only; omega) fun hp46 Hhp46 fhp46 rhp46 ehp46 qhp46 nhp46 => ?_
                have Fhp46 := sf_fr_tr Fhp41 (sf_fr_wider (W := [(7, 12, 12), (9, 4, 9), (119, 0, 47)]) rfl fhp46)
                have h47 : sf_rd hp46 3 7 = some y40 := (ehp46 _ _ (Or.inl (bs_nq (bs_R.uq Hhp41 (g := 9) rfl) rb43 (by decide)))).trans h42
                have h48 : sf_rl hp46 a0 12 = some (w24 ||| ((1 : Int64) <<< (z23.toInt64 &&& 63))) := (nhp46 _ _).trans mhp41
                have r49 := rb43.fr fhp46
                refine bs_lit (k := 1) rfl rfl fun z50 hz50 => ?_
                exact bs_zret rfl rfl (by omega) (by omega) (by rw [hQ]; exact ⟨thp36, Hhp46, Fhp46, bs_an0, sf_S_cons (sf_s1 (x := z50.toInt) rfl (by omega) (by omega)) (sf_S_nil), (fun a s B n lim m j x ha hS hC hj hpl h9 => by
                        have EX : x = x2 := by cases ha; rfl
                        subst EX
                        cases ha
                        obtain ⟨q1, rq1, X1⟩ := xhp2 _ s B n lim m (j + 1) rfl hS hC hj
                        obtain rfl := Value.int.inj (Option.some.inj rq1)
                        show LRES _ _ _ _ _ _ _ (lold (tok B n lim) s 0 (s.h 0) (j + 1) _)
                        obtain ⟨Y0, Y1, Y2, Y3, Y4, Y5⟩ := X1.resolve_right (fun h => absurd h.1 (by omega))
                        rw [lold_o Y2 (by omega)]
                        have J2 : j + 2 < m := CK_more Y3.1 hj (by omega) (by omega)
                        obtain ⟨q2, rq2, X2⟩ := (xhp11 _ _ rfl).2 B n lim m (j + 2) Y3 J2
                        obtain rfl := Value.int.inj (Option.some.inj rq2)
                        obtain ⟨Z0, Z1, Z2, Z3, Z4, Z5, Z6⟩ := X2.resolve_right (fun h => absurd h.1 (by omega))
                        rw [lnum_o Z1 (by omega) (by omega)]
                        have S1 := SC_fr H ra0 hS fhp2 rfl rfl
                        have S2 := SC_fr Hhp2 (ra0.fr fhp2) S1 fhp11 rfl rfl
                        have VD : y14 = (tok B n lim (j + 2)).v := Option.some.inj (hy14.symm.trans (Z4.2.2.1 Z1))
                        obtain ⟨A9, hA9, hB9⟩ := S2.tl
                        have EA : w24 = A9 := Option.some.inj (hw24.symm.trans hA9)
                        have IX : z23.toInt = (((12 * x.toInt.toNat + (2 * fnd s.nm 0 (s.h 0) (tok B n lim (j + 1)).v + (tok B n lim (j + 2)).v).toNat) : Nat) : Int) := by omega
                        have IB : (12 * x.toInt.toNat + (2 * fnd s.nm 0 (s.h 0) (tok B n lim (j + 1)).v + (tok B n lim (j + 2)).v).toNat) < 48 := by omega
                        have LB := lb_and (A := w24) IX IB
                        have NT_ : lb w24 (12 * x.toInt.toNat + (2 * fnd s.nm 0 (s.h 0) (tok B n lim (j + 1)).v + (tok B n lim (j + 2)).v).toNat) = false := LB.mp (hz25.mp (by omega))
                        rw [if_neg (by rw [← hB9 _ IB, ← EA, NT_]; decide)]
                        have J3 : j + 3 < m := CK_more Z5.1 J2 (by omega) (by omega)
                        obtain ⟨q3, rq3, X3⟩ := (xhp36 _ _ rfl).2 B n lim m (j + 3) Z5 J3
                        obtain rfl := Value.int.inj (Option.some.inj rq3)
                        rw [show (if x.toInt.toNat = 2 ∨ x.toInt.toNat = 3 then (20 : Int) else 250) = 20 from if_pos (by omega)]
                        obtain ⟨V0, V1, V2, V3, V4, V5, V6⟩ := X3.resolve_right (fun h => absurd h.1 (by omega))
                        rw [lnum_o V1 (by omega) (by omega)]
                        have S1 := SC_fr H ra0 hS fhp2 rfl rfl
                        have S2 := SC_fr Hhp2 (ra0.fr fhp2) S1 fhp11 rfl rfl
                        have S3 := SC_fr Hhp11 ((ra0.fr fhp2).fr fhp11) S2 fhp36 rfl rfl
                        have C1 := TKS_fr Hhp36 V5.1 fhp41 rfl rfl rfl rfl
                        have C2 := TKS_fr Hhp41 C1 fhp46 rfl rfl rfl rfl
                        have VV : y40 = (tok B n lim (j + 3)).v := Option.some.inj (h42.symm.trans (((ehp41 _ _)).trans (V4.2.2.1 V1)))
                        have EB3 := rrD_of ((qhp41 _ _).symm.trans qb43)
                        have EI : (12 * x.toInt.toNat + (2 * fnd s.nm 0 (s.h 0) (tok B n lim (j + 1)).v + (tok B n lim (j + 2)).v).toNat) = z23.toInt.toNat := by omega
                        exact LRES_ok ⟨z50, rfl, by omega⟩ (SC_amt Hhp36 (((ra0.fr fhp2).fr fhp11).fr fhp36) S3 IB (fun k => ((qhp46 _ _).trans (qhp41 _ _))) h48 (fun i hi => by rw [lb_or IX IB hi, ups_or, EA, hB9 i hi]) (fun b q h => (nhp46 _ _).trans (lhp41 _ _ h)) (fun b q h => (ehp46 _ _ (by rw [EB3, EI] at h; exact h)).trans (ehp41 _ _)) (by rw [EB3, EI]; exact rhp46.trans (congrArg some (by omega)))) ⟨C2, (((ehp46 _ _ (Or.inl (bs_nq (bs_R.uq Hhp41 (g := 9) rfl) rb43 (by decide)))).trans (ehp41 _ _))).trans V5.2.1, V5.2.2⟩ ((((ehp46 _ _ (Or.inl (bs_nq (bs_R.uq Hhp41 (g := 9) rfl) rb43 (by decide)))).trans (ehp41 _ _))).trans (V6.trans (Z6.trans (Y4.trans h9)))) (CK_more V5.1 J3 (by omega) (by omega)))⟩)
              · skip
                have c51 : z37.toInt = 0 := by omega
                refine bs_lit (k := 0) rfl rfl fun z52 hz52 => ?_
                exact bs_zret rfl rfl (by omega) (by omega) (by rw [hQ]; exact ⟨thp36, Hhp36, Fhp36, bs_an0, sf_S_cons (sf_s1 (x := z52.toInt) rfl (by omega) (by omega)) (sf_S_nil), (fun a s B n lim m j x ha hS hC hj hpl h9 => by
                        have EX : x = x2 := by cases ha; rfl
                        subst EX
                        cases ha
                        obtain ⟨q1, rq1, X1⟩ := xhp2 _ s B n lim m (j + 1) rfl hS hC hj
                        obtain rfl := Value.int.inj (Option.some.inj rq1)
                        show LRES _ _ _ _ _ _ _ (lold (tok B n lim) s 0 (s.h 0) (j + 1) _)
                        obtain ⟨Y0, Y1, Y2, Y3, Y4, Y5⟩ := X1.resolve_right (fun h => absurd h.1 (by omega))
                        rw [lold_o Y2 (by omega)]
                        have J2 : j + 2 < m := CK_more Y3.1 hj (by omega) (by omega)
                        obtain ⟨q2, rq2, X2⟩ := (xhp11 _ _ rfl).2 B n lim m (j + 2) Y3 J2
                        obtain rfl := Value.int.inj (Option.some.inj rq2)
                        obtain ⟨Z0, Z1, Z2, Z3, Z4, Z5, Z6⟩ := X2.resolve_right (fun h => absurd h.1 (by omega))
                        rw [lnum_o Z1 (by omega) (by omega)]
                        have S1 := SC_fr H ra0 hS fhp2 rfl rfl
                        have S2 := SC_fr Hhp2 (ra0.fr fhp2) S1 fhp11 rfl rfl
                        have VD : y14 = (tok B n lim (j + 2)).v := Option.some.inj (hy14.symm.trans (Z4.2.2.1 Z1))
                        obtain ⟨A9, hA9, hB9⟩ := S2.tl
                        have EA : w24 = A9 := Option.some.inj (hw24.symm.trans hA9)
                        have IX : z23.toInt = (((12 * x.toInt.toNat + (2 * fnd s.nm 0 (s.h 0) (tok B n lim (j + 1)).v + (tok B n lim (j + 2)).v).toNat) : Nat) : Int) := by omega
                        have IB : (12 * x.toInt.toNat + (2 * fnd s.nm 0 (s.h 0) (tok B n lim (j + 1)).v + (tok B n lim (j + 2)).v).toNat) < 48 := by omega
                        have LB := lb_and (A := w24) IX IB
                        have NT_ : lb w24 (12 * x.toInt.toNat + (2 * fnd s.nm 0 (s.h 0) (tok B n lim (j + 1)).v + (tok B n lim (j + 2)).v).toNat) = false := LB.mp (hz25.mp (by omega))
                        rw [if_neg (by rw [← hB9 _ IB, ← EA, NT_]; decide)]
                        have J3 : j + 3 < m := CK_more Z5.1 J2 (by omega) (by omega)
                        obtain ⟨q3, rq3, X3⟩ := (xhp36 _ _ rfl).2 B n lim m (j + 3) Z5 J3
                        obtain rfl := Value.int.inj (Option.some.inj rq3)
                        rw [show (if x.toInt.toNat = 2 ∨ x.toInt.toNat = 3 then (20 : Int) else 250) = 20 from if_pos (by omega)]
                        rcases X3.resolve_left (fun h => absurd h.1 (by omega)) with ⟨_, P1, ⟨P2, P3⟩ | ⟨P2, P4, P3⟩⟩
                        · rw [lnum_1 P2]
                          exact LRES_bad ⟨z52, rfl, by omega⟩ (P3) (P1)
                        · rw [lnum_2 P2 (by omega)]
                          exact LRES_bad ⟨z52, rfl, by omega⟩ (P3) (P1))⟩)
          · skip
            refine Ev.step (j := 63) (s' := ([some (.ref a0), some (.ref 3), some (.int x2), some (.int z3), some (.int z23), none], [.int x2], (0, 0), hp11)) rfl rfl ?_
            refine bs_lit (k := 3) rfl rfl fun z53 hz53 => ?_
            refine bs_ne rfl (fun c54 => ?_) (fun c54 => ?_)
            · skip
              refine bs_lit (k := 0) rfl rfl fun z55 hz55 => ?_
              refine Ev.step (j := 74) (s' := ([some (.ref a0), some (.ref 3), some (.int x2), some (.int z3), some (.int z23), some (.int z55)], [], (0, 0), hp11)) rfl rfl ?_
              refine Ev.step (j := 75) (s' := ([some (.ref a0), some (.ref 3), some (.int x2), some (.int z3), some (.int z23), some (.int z55)], [.ref 3], (0, 0), hp11)) rfl rfl ?_
              refine bs_lit (k := 0) rfl rfl fun z56 hz56 => ?_
              refine Ev.step (j := 78) (s' := ([some (.ref a0), some (.ref 3), some (.int x2), some (.int z3), some (.int z23), some (.int z55)], [.int z55, .int z56, .ref 3], (0, 0), hp11)) rfl rfl ?_
              refine bs_ifeq rfl (fun c57 => ?_) (fun c57 => ?_)
              · skip
                refine bs_lit (k := 250) rfl rfl fun z58 hz58 => ?_
                refine bs_callx (K := kq_X9_takeNumber_v) [.ref 3, .int z56, .int z58] [] rfl ce_X9_takeNumber_v Hhp11 rfl rfl rfl (bs_rcv (g := 9) Hhp11 (bs_R.uq Hhp11 (g := 9) rfl) (by decide) rfl) rfl ?_ (sf_S_nil) fun r59 hp60 thp60 Hhp60 fhp60 ahp60 php60 xhp60 => ?_
                · intro q k h
                  match q, h with
                  | 0, h => cases h; exact bs_jR (bs_R.uq Hhp11 (g := 9) rfl)
                  | 1, h => cases h; exact sf_j0
                  | 2, h => cases h; exact sf_j0
                  | q + 3, h => cases h
                obtain ⟨z61, rfl⟩ := bs_anI ahp60
                have rgz61 := n_range z61
                have Fhp60 := sf_fr_tr Fhp11 (sf_fr_wider (W := [(7, 12, 12), (9, 4, 9), (119, 0, 47)]) rfl fhp60)
                have h62 : sf_rl hp60 a0 12 = some w24 := (sf_rl_cell (fhp60.2.2.2.1 _ (ra0.fr Fhp11).1 (by rw [(ra0.fr Fhp11).2]; rfl))).trans hw24
                obtain ⟨uz61, vz61⟩ := bs_s1 (x := z61.toInt) rfl (php60 _ (List.mem_of_getElem? (i := 0) rfl))
                refine (show Ev _ 92 ([some (.ref a0), some (.ref 3), some (.int x2), some (.int z3), some (.int z23), some (.int z55)], [.int z61], (0, 0), hp60) _ from ?_)
                refine bs_ifne rfl (fun c63 => ?_) (fun c63 => ?_)
                · skip
                  obtain ⟨y64, hy64, ly64, gy64⟩ := (xhp60 _ _ rfl).1 _ rfl (by omega)
                  refine Ev.step (j := 98) (s' := ([some (.ref a0), some (.ref 3), some (.int x2), some (.int z3), some (.int z23), some (.int z55)], [.ref a0], (0, 0), hp60)) rfl rfl ?_
                  refine Ev.step (j := 99) (s' := ([some (.ref a0), some (.ref 3), some (.int x2), some (.int z3), some (.int z23), some (.int z55)], [.ref a0, .ref a0], (0, 0), hp60)) rfl rfl ?_
                  refine bs_getLe (g := 7) rfl rfl Hhp60 (ra0.fr Fhp60) (by decide) rfl h62 ?_
                  refine Ev.step (j := 103) (s' := ([some (.ref a0), some (.ref 3), some (.int x2), some (.int z3), some (.int z23), some (.int z55)], [.long (1 : Int64), .long w24, .ref a0], (0, 0), hp60)) rfl rfl ?_
                  refine Ev.step (j := 105) (s' := ([some (.ref a0), some (.ref 3), some (.int x2), some (.int z3), some (.int z23), some (.int z55)], [.int z23, .long (1 : Int64), .long w24, .ref a0], (0, 0), hp60)) rfl rfl ?_
                  refine Ev.step (j := 106) (s' := ([some (.ref a0), some (.ref 3), some (.int x2), some (.int z3), some (.int z23), some (.int z55)], [.long ((1 : Int64) <<< (z23.toInt64 &&& 63)), .long w24, .ref a0], (0, 0), hp60)) rfl rfl ?_
                  refine Ev.step (j := 107) (s' := ([some (.ref a0), some (.ref 3), some (.int x2), some (.int z3), some (.int z23), some (.int z55)], [.long (w24 ||| ((1 : Int64) <<< (z23.toInt64 &&& 63))), .ref a0], (0, 0), hp60)) rfl rfl ?_
                  refine bs_putLv (W := [(7, 12, 12)]) (g := 7) rfl rfl Hhp60 (ra0.fr Fhp60) (by decide) rfl rfl rfl rfl fun hp65 Hhp65 fhp65 mhp65 lhp65 ehp65 qhp65 => ?_
                  have Fhp65 := sf_fr_tr Fhp60 (sf_fr_wider (W := [(7, 12, 12), (9, 4, 9), (119, 0, 47)]) rfl fhp65)
                  have h66 : sf_rd hp65 3 7 = some y64 := (ehp65 _ _).trans hy64
                  refine Ev.step (j := 111) (s' := ([some (.ref a0), some (.ref 3), some (.int x2), some (.int z3), some (.int z23), some (.int z55)], [.ref a0], (0, 0), hp65)) rfl rfl ?_
                  refine bs_getR (g := 7) (g1 := 119) rfl rfl Hhp65 (ra0.fr Fhp65) (by decide) rfl fun b67 qb67 rb67 => ?_
                  refine Ev.step (j := 116) (s' := ([some (.ref a0), some (.ref 3), some (.int x2), some (.int z3), some (.int z23), some (.int z55)], [.int z23, .ref b67], (0, 0), hp65)) rfl rfl ?_
                  refine Ev.step (j := 117) (s' := ([some (.ref a0), some (.ref 3), some (.int x2), some (.int z3), some (.int z23), some (.int z55)], [.ref 3, .int z23, .ref b67], (0, 0), hp65)) rfl rfl ?_
                  refine bs_getI 9 rfl rfl rfl Hhp65 (bs_R.uq Hhp65 (g := 9) rfl) (by decide) rfl fun z68 hz68 lz68 gz68 => ?_
                  have e69 : z68.toInt = y64 := Option.some.inj (hz68.symm.trans h66)
                  refine bs_stv (W := [(119, 0, 47)]) (g := 119) 0 47 (0, 250) rfl Hhp65 rb67 (by decide) rfl rfl (by decide) rfl rfl (by omega) (by omega) (by dsimp only; omega) (by dsimp only; omega) fun hp70 Hhp70 fhp70 rhp70 ehp70 qhp70 nhp70 => ?_
                  have Fhp70 := sf_fr_tr Fhp65 (sf_fr_wider (W := [(7, 12, 12), (9, 4, 9), (119, 0, 47)]) rfl fhp70)
                  have h71 : sf_rd hp70 3 7 = some y64 := (ehp70 _ _ (Or.inl (bs_nq (bs_R.uq Hhp65 (g := 9) rfl) rb67 (by decide)))).trans h66
                  have h72 : sf_rl hp70 a0 12 = some (w24 ||| ((1 : Int64) <<< (z23.toInt64 &&& 63))) := (nhp70 _ _).trans mhp65
                  have r73 := rb67.fr fhp70
                  refine bs_lit (k := 1) rfl rfl fun z74 hz74 => ?_
                  exact bs_zret rfl rfl (by omega) (by omega) (by rw [hQ]; exact ⟨thp60, Hhp70, Fhp70, bs_an0, sf_S_cons (sf_s1 (x := z74.toInt) rfl (by omega) (by omega)) (sf_S_nil), (fun a s B n lim m j x ha hS hC hj hpl h9 => by
                          have EX : x = x2 := by cases ha; rfl
                          subst EX
                          cases ha
                          obtain ⟨q1, rq1, X1⟩ := xhp2 _ s B n lim m (j + 1) rfl hS hC hj
                          obtain rfl := Value.int.inj (Option.some.inj rq1)
                          show LRES _ _ _ _ _ _ _ (lold (tok B n lim) s 0 (s.h 0) (j + 1) _)
                          obtain ⟨Y0, Y1, Y2, Y3, Y4, Y5⟩ := X1.resolve_right (fun h => absurd h.1 (by omega))
                          rw [lold_o Y2 (by omega)]
                          have J2 : j + 2 < m := CK_more Y3.1 hj (by omega) (by omega)
                          obtain ⟨q2, rq2, X2⟩ := (xhp11 _ _ rfl).2 B n lim m (j + 2) Y3 J2
                          obtain rfl := Value.int.inj (Option.some.inj rq2)
                          obtain ⟨Z0, Z1, Z2, Z3, Z4, Z5, Z6⟩ := X2.resolve_right (fun h => absurd h.1 (by omega))
                          rw [lnum_o Z1 (by omega) (by omega)]
                          have S1 := SC_fr H ra0 hS fhp2 rfl rfl
                          have S2 := SC_fr Hhp2 (ra0.fr fhp2) S1 fhp11 rfl rfl
                          have VD : y14 = (tok B n lim (j + 2)).v := Option.some.inj (hy14.symm.trans (Z4.2.2.1 Z1))
                          obtain ⟨A9, hA9, hB9⟩ := S2.tl
                          have EA : w24 = A9 := Option.some.inj (hw24.symm.trans hA9)
                          have IX : z23.toInt = (((12 * x.toInt.toNat + (2 * fnd s.nm 0 (s.h 0) (tok B n lim (j + 1)).v + (tok B n lim (j + 2)).v).toNat) : Nat) : Int) := by omega
                          have IB : (12 * x.toInt.toNat + (2 * fnd s.nm 0 (s.h 0) (tok B n lim (j + 1)).v + (tok B n lim (j + 2)).v).toNat) < 48 := by omega
                          have LB := lb_and (A := w24) IX IB
                          have NT_ : lb w24 (12 * x.toInt.toNat + (2 * fnd s.nm 0 (s.h 0) (tok B n lim (j + 1)).v + (tok B n lim (j + 2)).v).toNat) = false := LB.mp (hz25.mp (by omega))
                          rw [if_neg (by rw [← hB9 _ IB, ← EA, NT_]; decide)]
                          have J3 : j + 3 < m := CK_more Z5.1 J2 (by omega) (by omega)
                          obtain ⟨q3, rq3, X3⟩ := (xhp60 _ _ rfl).2 B n lim m (j + 3) Z5 J3
                          obtain rfl := Value.int.inj (Option.some.inj rq3)
                          rw [show (if x.toInt.toNat = 2 ∨ x.toInt.toNat = 3 then (20 : Int) else 250) = 250 from if_neg (by omega)]
                          obtain ⟨V0, V1, V2, V3, V4, V5, V6⟩ := X3.resolve_right (fun h => absurd h.1 (by omega))
                          rw [lnum_o V1 (by omega) (by omega)]
                          have S1 := SC_fr H ra0 hS fhp2 rfl rfl
                          have S2 := SC_fr Hhp2 (ra0.fr fhp2) S1 fhp11 rfl rfl
                          have S3 := SC_fr Hhp11 ((ra0.fr fhp2).fr fhp11) S2 fhp60 rfl rfl
                          have C1 := TKS_fr Hhp60 V5.1 fhp65 rfl rfl rfl rfl
                          have C2 := TKS_fr Hhp65 C1 fhp70 rfl rfl rfl rfl
                          have VV : y64 = (tok B n lim (j + 3)).v := Option.some.inj (h66.symm.trans (((ehp65 _ _)).trans (V4.2.2.1 V1)))
                          have EB3 := rrD_of ((qhp65 _ _).symm.trans qb67)
                          have EI : (12 * x.toInt.toNat + (2 * fnd s.nm 0 (s.h 0) (tok B n lim (j + 1)).v + (tok B n lim (j + 2)).v).toNat) = z23.toInt.toNat := by omega
                          exact LRES_ok ⟨z74, rfl, by omega⟩ (SC_amt Hhp60 (((ra0.fr fhp2).fr fhp11).fr fhp60) S3 IB (fun k => ((qhp70 _ _).trans (qhp65 _ _))) h72 (fun i hi => by rw [lb_or IX IB hi, ups_or, EA, hB9 i hi]) (fun b q h => (nhp70 _ _).trans (lhp65 _ _ h)) (fun b q h => (ehp70 _ _ (by rw [EB3, EI] at h; exact h)).trans (ehp65 _ _)) (by rw [EB3, EI]; exact rhp70.trans (congrArg some (by omega)))) ⟨C2, (((ehp70 _ _ (Or.inl (bs_nq (bs_R.uq Hhp65 (g := 9) rfl) rb67 (by decide)))).trans (ehp65 _ _))).trans V5.2.1, V5.2.2⟩ ((((ehp70 _ _ (Or.inl (bs_nq (bs_R.uq Hhp65 (g := 9) rfl) rb67 (by decide)))).trans (ehp65 _ _))).trans (V6.trans (Z6.trans (Y4.trans h9)))) (CK_more V5.1 J3 (by omega) (by omega)))⟩)
                · skip
                  have c75 : z61.toInt = 0 := by omega
                  refine bs_lit (k := 0) rfl rfl fun z76 hz76 => ?_
                  exact bs_zret rfl rfl (by omega) (by omega) (by rw [hQ]; exact ⟨thp60, Hhp60, Fhp60, bs_an0, sf_S_cons (sf_s1 (x := z76.toInt) rfl (by omega) (by omega)) (sf_S_nil), (fun a s B n lim m j x ha hS hC hj hpl h9 => by
                          have EX : x = x2 := by cases ha; rfl
                          subst EX
                          cases ha
                          obtain ⟨q1, rq1, X1⟩ := xhp2 _ s B n lim m (j + 1) rfl hS hC hj
                          obtain rfl := Value.int.inj (Option.some.inj rq1)
                          show LRES _ _ _ _ _ _ _ (lold (tok B n lim) s 0 (s.h 0) (j + 1) _)
                          obtain ⟨Y0, Y1, Y2, Y3, Y4, Y5⟩ := X1.resolve_right (fun h => absurd h.1 (by omega))
                          rw [lold_o Y2 (by omega)]
                          have J2 : j + 2 < m := CK_more Y3.1 hj (by omega) (by omega)
                          obtain ⟨q2, rq2, X2⟩ := (xhp11 _ _ rfl).2 B n lim m (j + 2) Y3 J2
                          obtain rfl := Value.int.inj (Option.some.inj rq2)
                          obtain ⟨Z0, Z1, Z2, Z3, Z4, Z5, Z6⟩ := X2.resolve_right (fun h => absurd h.1 (by omega))
                          rw [lnum_o Z1 (by omega) (by omega)]
                          have S1 := SC_fr H ra0 hS fhp2 rfl rfl
                          have S2 := SC_fr Hhp2 (ra0.fr fhp2) S1 fhp11 rfl rfl
                          have VD : y14 = (tok B n lim (j + 2)).v := Option.some.inj (hy14.symm.trans (Z4.2.2.1 Z1))
                          obtain ⟨A9, hA9, hB9⟩ := S2.tl
                          have EA : w24 = A9 := Option.some.inj (hw24.symm.trans hA9)
                          have IX : z23.toInt = (((12 * x.toInt.toNat + (2 * fnd s.nm 0 (s.h 0) (tok B n lim (j + 1)).v + (tok B n lim (j + 2)).v).toNat) : Nat) : Int) := by omega
                          have IB : (12 * x.toInt.toNat + (2 * fnd s.nm 0 (s.h 0) (tok B n lim (j + 1)).v + (tok B n lim (j + 2)).v).toNat) < 48 := by omega
                          have LB := lb_and (A := w24) IX IB
                          have NT_ : lb w24 (12 * x.toInt.toNat + (2 * fnd s.nm 0 (s.h 0) (tok B n lim (j + 1)).v + (tok B n lim (j + 2)).v).toNat) = false := LB.mp (hz25.mp (by omega))
                          rw [if_neg (by rw [← hB9 _ IB, ← EA, NT_]; decide)]
                          have J3 : j + 3 < m := CK_more Z5.1 J2 (by omega) (by omega)
                          obtain ⟨q3, rq3, X3⟩ := (xhp60 _ _ rfl).2 B n lim m (j + 3) Z5 J3
                          obtain rfl := Value.int.inj (Option.some.inj rq3)
                          rw [show (if x.toInt.toNat = 2 ∨ x.toInt.toNat = 3 then (20 : Int) else 250) = 250 from if_neg (by omega)]
                          rcases X3.resolve_left (fun h => absurd h.1 (by omega)) with ⟨_, P1, ⟨P2, P3⟩ | ⟨P2, P4, P3⟩⟩
                          · rw [lnum_1 P2]
                            exact LRES_bad ⟨z76, rfl, by omega⟩ (P3) (P1)
                          · rw [lnum_2 P2 (by omega)]
                            exact LRES_bad ⟨z76, rfl, by omega⟩ (P3) (P1))⟩)
              · exfalso; omega
            · skip
              have c77 : x2.toInt = 3 := by omega
              refine bs_lit (k := 1) rfl rfl fun z78 hz78 => ?_
              refine Ev.step (j := 72) (s' := ([some (.ref a0), some (.ref 3), some (.int x2), some (.int z3), some (.int z23), none], [.int z78], (0, 0), hp11)) rfl rfl ?_
              refine Ev.step (j := 74) (s' := ([some (.ref a0), some (.ref 3), some (.int x2), some (.int z3), some (.int z23), some (.int z78)], [], (0, 0), hp11)) rfl rfl ?_
              refine Ev.step (j := 75) (s' := ([some (.ref a0), some (.ref 3), some (.int x2), some (.int z3), some (.int z23), some (.int z78)], [.ref 3], (0, 0), hp11)) rfl rfl ?_
              refine bs_lit (k := 0) rfl rfl fun z79 hz79 => ?_
              refine Ev.step (j := 78) (s' := ([some (.ref a0), some (.ref 3), some (.int x2), some (.int z3), some (.int z23), some (.int z78)], [.int z78, .int z79, .ref 3], (0, 0), hp11)) rfl rfl ?_
              refine bs_ifeq rfl (fun c80 => ?_) (fun c80 => ?_)
              · exfalso; omega
              · skip
                refine bs_lit (k := 20) rfl rfl fun z81 hz81 => ?_
                refine Ev.step (j := 89) (s' := ([some (.ref a0), some (.ref 3), some (.int x2), some (.int z3), some (.int z23), some (.int z78)], [.int z81, .int z79, .ref 3], (0, 0), hp11)) rfl rfl ?_
                refine bs_callx (K := kq_X9_takeNumber_v) [.ref 3, .int z79, .int z81] [] rfl ce_X9_takeNumber_v Hhp11 rfl rfl rfl (bs_rcv (g := 9) Hhp11 (bs_R.uq Hhp11 (g := 9) rfl) (by decide) rfl) rfl ?_ (sf_S_nil) fun r82 hp83 thp83 Hhp83 fhp83 ahp83 php83 xhp83 => ?_
                · intro q k h
                  match q, h with
                  | 0, h => cases h; exact bs_jR (bs_R.uq Hhp11 (g := 9) rfl)
                  | 1, h => cases h; exact sf_j0
                  | 2, h => cases h; exact sf_j0
                  | q + 3, h => cases h
                obtain ⟨z84, rfl⟩ := bs_anI ahp83
                have rgz84 := n_range z84
                have Fhp83 := sf_fr_tr Fhp11 (sf_fr_wider (W := [(7, 12, 12), (9, 4, 9), (119, 0, 47)]) rfl fhp83)
                have h85 : sf_rl hp83 a0 12 = some w24 := (sf_rl_cell (fhp83.2.2.2.1 _ (ra0.fr Fhp11).1 (by rw [(ra0.fr Fhp11).2]; rfl))).trans hw24
                obtain ⟨uz84, vz84⟩ := bs_s1 (x := z84.toInt) rfl (php83 _ (List.mem_of_getElem? (i := 0) rfl))
                refine (show Ev _ 92 ([some (.ref a0), some (.ref 3), some (.int x2), some (.int z3), some (.int z23), some (.int z78)], [.int z84], (0, 0), hp83) _ from ?_)
                refine bs_ifne rfl (fun c86 => ?_) (fun c86 => ?_)
                · skip
                  obtain ⟨y87, hy87, ly87, gy87⟩ := (xhp83 _ _ rfl).1 _ rfl (by omega)
                  refine Ev.step (j := 98) (s' := ([some (.ref a0), some (.ref 3), some (.int x2), some (.int z3), some (.int z23), some (.int z78)], [.ref a0], (0, 0), hp83)) rfl rfl ?_
                  refine Ev.step (j := 99) (s' := ([some (.ref a0), some (.ref 3), some (.int x2), some (.int z3), some (.int z23), some (.int z78)], [.ref a0, .ref a0], (0, 0), hp83)) rfl rfl ?_
                  refine bs_getLe (g := 7) rfl rfl Hhp83 (ra0.fr Fhp83) (by decide) rfl h85 ?_
                  refine Ev.step (j := 103) (s' := ([some (.ref a0), some (.ref 3), some (.int x2), some (.int z3), some (.int z23), some (.int z78)], [.long (1 : Int64), .long w24, .ref a0], (0, 0), hp83)) rfl rfl ?_
                  refine Ev.step (j := 105) (s' := ([some (.ref a0), some (.ref 3), some (.int x2), some (.int z3), some (.int z23), some (.int z78)], [.int z23, .long (1 : Int64), .long w24, .ref a0], (0, 0), hp83)) rfl rfl ?_
                  refine Ev.step (j := 106) (s' := ([some (.ref a0), some (.ref 3), some (.int x2), some (.int z3), some (.int z23), some (.int z78)], [.long ((1 : Int64) <<< (z23.toInt64 &&& 63)), .long w24, .ref a0], (0, 0), hp83)) rfl rfl ?_
                  refine Ev.step (j := 107) (s' := ([some (.ref a0), some (.ref 3), some (.int x2), some (.int z3), some (.int z23), some (.int z78)], [.long (w24 ||| ((1 : Int64) <<< (z23.toInt64 &&& 63))), .ref a0], (0, 0), hp83)) rfl rfl ?_
                  refine bs_putLv (W := [(7, 12, 12)]) (g := 7) rfl rfl Hhp83 (ra0.fr Fhp83) (by decide) rfl rfl rfl rfl fun hp88 Hhp88 fhp88 mhp88 lhp88 ehp88 qhp88 => ?_
                  have Fhp88 := sf_fr_tr Fhp83 (sf_fr_wider (W := [(7, 12, 12), (9, 4, 9), (119, 0, 47)]) rfl fhp88)
                  have h89 : sf_rd hp88 3 7 = some y87 := (ehp88 _ _).trans hy87
                  refine Ev.step (j := 111) (s' := ([some (.ref a0), some (.ref 3), some (.int x2), some (.int z3), some (.int z23), some (.int z78)], [.ref a0], (0, 0), hp88)) rfl rfl ?_
                  refine bs_getR (g := 7) (g1 := 119) rfl rfl Hhp88 (ra0.fr Fhp88) (by decide) rfl fun b90 qb90 rb90 => ?_
                  refine Ev.step (j := 116) (s' := ([some (.ref a0), some (.ref 3), some (.int x2), some (.int z3), some (.int z23), some (.int z78)], [.int z23, .ref b90], (0, 0), hp88)) rfl rfl ?_
                  refine Ev.step (j := 117) (s' := ([some (.ref a0), some (.ref 3), some (.int x2), some (.int z3), some (.int z23), some (.int z78)], [.ref 3, .int z23, .ref b90], (0, 0), hp88)) rfl rfl ?_
                  refine bs_getI 9 rfl rfl rfl Hhp88 (bs_R.uq Hhp88 (g := 9) rfl) (by decide) rfl fun z91 hz91 lz91 gz91 => ?_
                  have e92 : z91.toInt = y87 := Option.some.inj (hz91.symm.trans h89)
                  refine bs_stv (W := [(119, 0, 47)]) (g := 119) 0 47 (0, 250) rfl Hhp88 rb90 (by decide) rfl rfl (by decide) rfl rfl (by omega) (by omega) (by dsimp only; omega) (by dsimp only; omega) fun hp93 Hhp93 fhp93 rhp93 ehp93 qhp93 nhp93 => ?_
                  have Fhp93 := sf_fr_tr Fhp88 (sf_fr_wider (W := [(7, 12, 12), (9, 4, 9), (119, 0, 47)]) rfl fhp93)
                  have h94 : sf_rd hp93 3 7 = some y87 := (ehp93 _ _ (Or.inl (bs_nq (bs_R.uq Hhp88 (g := 9) rfl) rb90 (by decide)))).trans h89
                  have h95 : sf_rl hp93 a0 12 = some (w24 ||| ((1 : Int64) <<< (z23.toInt64 &&& 63))) := (nhp93 _ _).trans mhp88
                  have r96 := rb90.fr fhp93
                  refine bs_lit (k := 1) rfl rfl fun z97 hz97 => ?_
                  exact bs_zret rfl rfl (by omega) (by omega) (by rw [hQ]; exact ⟨thp83, Hhp93, Fhp93, bs_an0, sf_S_cons (sf_s1 (x := z97.toInt) rfl (by omega) (by omega)) (sf_S_nil), (fun a s B n lim m j x ha hS hC hj hpl h9 => by
                          have EX : x = x2 := by cases ha; rfl
                          subst EX
                          cases ha
                          obtain ⟨q1, rq1, X1⟩ := xhp2 _ s B n lim m (j + 1) rfl hS hC hj
                          obtain rfl := Value.int.inj (Option.some.inj rq1)
                          show LRES _ _ _ _ _ _ _ (lold (tok B n lim) s 0 (s.h 0) (j + 1) _)
                          obtain ⟨Y0, Y1, Y2, Y3, Y4, Y5⟩ := X1.resolve_right (fun h => absurd h.1 (by omega))
                          rw [lold_o Y2 (by omega)]
                          have J2 : j + 2 < m := CK_more Y3.1 hj (by omega) (by omega)
                          obtain ⟨q2, rq2, X2⟩ := (xhp11 _ _ rfl).2 B n lim m (j + 2) Y3 J2
                          obtain rfl := Value.int.inj (Option.some.inj rq2)
                          obtain ⟨Z0, Z1, Z2, Z3, Z4, Z5, Z6⟩ := X2.resolve_right (fun h => absurd h.1 (by omega))
                          rw [lnum_o Z1 (by omega) (by omega)]
                          have S1 := SC_fr H ra0 hS fhp2 rfl rfl
                          have S2 := SC_fr Hhp2 (ra0.fr fhp2) S1 fhp11 rfl rfl
                          have VD : y14 = (tok B n lim (j + 2)).v := Option.some.inj (hy14.symm.trans (Z4.2.2.1 Z1))
                          obtain ⟨A9, hA9, hB9⟩ := S2.tl
                          have EA : w24 = A9 := Option.some.inj (hw24.symm.trans hA9)
                          have IX : z23.toInt = (((12 * x.toInt.toNat + (2 * fnd s.nm 0 (s.h 0) (tok B n lim (j + 1)).v + (tok B n lim (j + 2)).v).toNat) : Nat) : Int) := by omega
                          have IB : (12 * x.toInt.toNat + (2 * fnd s.nm 0 (s.h 0) (tok B n lim (j + 1)).v + (tok B n lim (j + 2)).v).toNat) < 48 := by omega
                          have LB := lb_and (A := w24) IX IB
                          have NT_ : lb w24 (12 * x.toInt.toNat + (2 * fnd s.nm 0 (s.h 0) (tok B n lim (j + 1)).v + (tok B n lim (j + 2)).v).toNat) = false := LB.mp (hz25.mp (by omega))
                          rw [if_neg (by rw [← hB9 _ IB, ← EA, NT_]; decide)]
                          have J3 : j + 3 < m := CK_more Z5.1 J2 (by omega) (by omega)
                          obtain ⟨q3, rq3, X3⟩ := (xhp83 _ _ rfl).2 B n lim m (j + 3) Z5 J3
                          obtain rfl := Value.int.inj (Option.some.inj rq3)
                          rw [show (if x.toInt.toNat = 2 ∨ x.toInt.toNat = 3 then (20 : Int) else 250) = 20 from if_pos (by omega)]
                          obtain ⟨V0, V1, V2, V3, V4, V5, V6⟩ := X3.resolve_right (fun h => absurd h.1 (by omega))
                          rw [lnum_o V1 (by omega) (by omega)]
                          have S1 := SC_fr H ra0 hS fhp2 rfl rfl
                          have S2 := SC_fr Hhp2 (ra0.fr fhp2) S1 fhp11 rfl rfl
                          have S3 := SC_fr Hhp11 ((ra0.fr fhp2).fr fhp11) S2 fhp83 rfl rfl
                          have C1 := TKS_fr Hhp83 V5.1 fhp88 rfl rfl rfl rfl
                          have C2 := TKS_fr Hhp88 C1 fhp93 rfl rfl rfl rfl
                          have VV : y87 = (tok B n lim (j + 3)).v := Option.some.inj (h89.symm.trans (((ehp88 _ _)).trans (V4.2.2.1 V1)))
                          have EB3 := rrD_of ((qhp88 _ _).symm.trans qb90)
                          have EI : (12 * x.toInt.toNat + (2 * fnd s.nm 0 (s.h 0) (tok B n lim (j + 1)).v + (tok B n lim (j + 2)).v).toNat) = z23.toInt.toNat := by omega
                          exact LRES_ok ⟨z97, rfl, by omega⟩ (SC_amt Hhp83 (((ra0.fr fhp2).fr fhp11).fr fhp83) S3 IB (fun k => ((qhp93 _ _).trans (qhp88 _ _))) h95 (fun i hi => by rw [lb_or IX IB hi, ups_or, EA, hB9 i hi]) (fun b q h => (nhp93 _ _).trans (lhp88 _ _ h)) (fun b q h => (ehp93 _ _ (by rw [EB3, EI] at h; exact h)).trans (ehp88 _ _)) (by rw [EB3, EI]; exact rhp93.trans (congrArg some (by omega)))) ⟨C2, (((ehp93 _ _ (Or.inl (bs_nq (bs_R.uq Hhp88 (g := 9) rfl) rb90 (by decide)))).trans (ehp88 _ _))).trans V5.2.1, V5.2.2⟩ ((((ehp93 _ _ (Or.inl (bs_nq (bs_R.uq Hhp88 (g := 9) rfl) rb90 (by decide)))).trans (ehp88 _ _))).trans (V6.trans (Z6.trans (Y4.trans h9)))) (CK_more V5.1 J3 (by omega) (by omega)))⟩)
                · skip
                  have c98 : z84.toInt = 0 := by omega
                  refine bs_lit (k := 0) rfl rfl fun z99 hz99 => ?_
                  exact bs_zret rfl rfl (by omega) (by omega) (by rw [hQ]; exact ⟨thp83, Hhp83, Fhp83, bs_an0, sf_S_cons (sf_s1 (x := z99.toInt) rfl (by omega) (by omega)) (sf_S_nil), (fun a s B n lim m j x ha hS hC hj hpl h9 => by
                          have EX : x = x2 := by cases ha; rfl
                          subst EX
                          cases ha
                          obtain ⟨q1, rq1, X1⟩ := xhp2 _ s B n lim m (j + 1) rfl hS hC hj
                          obtain rfl := Value.int.inj (Option.some.inj rq1)
                          show LRES _ _ _ _ _ _ _ (lold (tok B n lim) s 0 (s.h 0) (j + 1) _)
                          obtain ⟨Y0, Y1, Y2, Y3, Y4, Y5⟩ := X1.resolve_right (fun h => absurd h.1 (by omega))
                          rw [lold_o Y2 (by omega)]
                          have J2 : j + 2 < m := CK_more Y3.1 hj (by omega) (by omega)
                          obtain ⟨q2, rq2, X2⟩ := (xhp11 _ _ rfl).2 B n lim m (j + 2) Y3 J2
                          obtain rfl := Value.int.inj (Option.some.inj rq2)
                          obtain ⟨Z0, Z1, Z2, Z3, Z4, Z5, Z6⟩ := X2.resolve_right (fun h => absurd h.1 (by omega))
                          rw [lnum_o Z1 (by omega) (by omega)]
                          have S1 := SC_fr H ra0 hS fhp2 rfl rfl
                          have S2 := SC_fr Hhp2 (ra0.fr fhp2) S1 fhp11 rfl rfl
                          have VD : y14 = (tok B n lim (j + 2)).v := Option.some.inj (hy14.symm.trans (Z4.2.2.1 Z1))
                          obtain ⟨A9, hA9, hB9⟩ := S2.tl
                          have EA : w24 = A9 := Option.some.inj (hw24.symm.trans hA9)
                          have IX : z23.toInt = (((12 * x.toInt.toNat + (2 * fnd s.nm 0 (s.h 0) (tok B n lim (j + 1)).v + (tok B n lim (j + 2)).v).toNat) : Nat) : Int) := by omega
                          have IB : (12 * x.toInt.toNat + (2 * fnd s.nm 0 (s.h 0) (tok B n lim (j + 1)).v + (tok B n lim (j + 2)).v).toNat) < 48 := by omega
                          have LB := lb_and (A := w24) IX IB
                          have NT_ : lb w24 (12 * x.toInt.toNat + (2 * fnd s.nm 0 (s.h 0) (tok B n lim (j + 1)).v + (tok B n lim (j + 2)).v).toNat) = false := LB.mp (hz25.mp (by omega))
                          rw [if_neg (by rw [← hB9 _ IB, ← EA, NT_]; decide)]
                          have J3 : j + 3 < m := CK_more Z5.1 J2 (by omega) (by omega)
                          obtain ⟨q3, rq3, X3⟩ := (xhp83 _ _ rfl).2 B n lim m (j + 3) Z5 J3
                          obtain rfl := Value.int.inj (Option.some.inj rq3)
                          rw [show (if x.toInt.toNat = 2 ∨ x.toInt.toNat = 3 then (20 : Int) else 250) = 20 from if_pos (by omega)]
                          rcases X3.resolve_left (fun h => absurd h.1 (by omega)) with ⟨_, P1, ⟨P2, P3⟩ | ⟨P2, P4, P3⟩⟩
                          · rw [lnum_1 P2]
                            exact LRES_bad ⟨z99, rfl, by omega⟩ (P3) (P1)
                          · rw [lnum_2 P2 (by omega)]
                            exact LRES_bad ⟨z99, rfl, by omega⟩ (P3) (P1))⟩)
        · skip
          refine Ev.step (j := 52) (s' := ([some (.ref a0), some (.ref 3), some (.int x2), some (.int z3), some (.int z23), none], [.ref 3], (0, 0), hp11)) rfl rfl ?_
          refine bs_lit (k := 3) rfl rfl fun z100 hz100 => ?_
          refine Ev.inl (L := L_X9_fail) (nL := 2) rfl (bs_rcv (g := 9) Hhp11 (bs_R.uq Hhp11 (g := 9) rfl) (by decide) rfl) rfl (Nat.le_of_ble_eq_true rfl) ?_
          generalize hQ101 : (fun (o : ab_O) => Ev _ _ _ _) = Q101
          refine (show Ev (ab_T L_X9_fail) 0 ([some (.ref 3), some (.int z100)], [], (0, 0), hp11) Q101 from ?_)
          refine Ev.step (j := 1) (s' := ([some (.ref 3), some (.int z100)], [.ref 3], (0, 0), hp11)) rfl rfl ?_
          refine Ev.step (j := 2) (s' := ([some (.ref 3), some (.int z100)], [.int z100, .ref 3], (0, 0), hp11)) rfl rfl ?_
          refine bs_putIv (W := [(9, 9, 9)]) (g := 9) rfl rfl Hhp11 (bs_R.uq Hhp11 (g := 9) rfl) (by decide) rfl rfl rfl rfl (Or.inl rfl) (by omega) (by omega) fun hp102 Hhp102 fhp102 rhp102 ehp102 qhp102 nhp102 => ?_
          have Fhp102 := sf_fr_tr Fhp11 (sf_fr_wider (W := [(7, 12, 12), (9, 4, 9), (119, 0, 47)]) rfl fhp102)
          have h103 : sf_rd hp102 3 7 = some y14 := (ehp102 _ _ (Or.inr (by omega))).trans hy14
          have h104 : sf_rl hp102 a0 12 = some w24 := (nhp102 _ _).trans hw24
          refine bs_lit (k := 0) rfl rfl fun z105 hz105 => ?_
          refine bs_zret rfl rfl (by omega) (by omega) ?_
          rw [← hQ101]
          refine (show Ev _ 56 ([some (.ref a0), some (.ref 3), some (.int x2), some (.int z3), some (.int z23), none], [.int z105], (0, 0), hp102) _ from ?_)
          exact bs_zret rfl rfl (by omega) (by omega) (by rw [hQ]; exact ⟨thp11, Hhp102, Fhp102, bs_an0, sf_S_cons (sf_s1 (x := z105.toInt) rfl (by omega) (by omega)) (sf_S_nil), (fun a s B n lim m j x ha hS hC hj hpl h9 => by
                  have EX : x = x2 := by cases ha; rfl
                  subst EX
                  cases ha
                  obtain ⟨q1, rq1, X1⟩ := xhp2 _ s B n lim m (j + 1) rfl hS hC hj
                  obtain rfl := Value.int.inj (Option.some.inj rq1)
                  show LRES _ _ _ _ _ _ _ (lold (tok B n lim) s 0 (s.h 0) (j + 1) _)
                  obtain ⟨Y0, Y1, Y2, Y3, Y4, Y5⟩ := X1.resolve_right (fun h => absurd h.1 (by omega))
                  rw [lold_o Y2 (by omega)]
                  have J2 : j + 2 < m := CK_more Y3.1 hj (by omega) (by omega)
                  obtain ⟨q2, rq2, X2⟩ := (xhp11 _ _ rfl).2 B n lim m (j + 2) Y3 J2
                  obtain rfl := Value.int.inj (Option.some.inj rq2)
                  obtain ⟨Z0, Z1, Z2, Z3, Z4, Z5, Z6⟩ := X2.resolve_right (fun h => absurd h.1 (by omega))
                  rw [lnum_o Z1 (by omega) (by omega)]
                  have S1 := SC_fr H ra0 hS fhp2 rfl rfl
                  have S2 := SC_fr Hhp2 (ra0.fr fhp2) S1 fhp11 rfl rfl
                  have VD : y14 = (tok B n lim (j + 2)).v := Option.some.inj (hy14.symm.trans (Z4.2.2.1 Z1))
                  obtain ⟨A9, hA9, hB9⟩ := S2.tl
                  have EA : w24 = A9 := Option.some.inj (hw24.symm.trans hA9)
                  have IX : z23.toInt = (((12 * x.toInt.toNat + (2 * fnd s.nm 0 (s.h 0) (tok B n lim (j + 1)).v + (tok B n lim (j + 2)).v).toNat) : Nat) : Int) := by omega
                  have IB : (12 * x.toInt.toNat + (2 * fnd s.nm 0 (s.h 0) (tok B n lim (j + 1)).v + (tok B n lim (j + 2)).v).toNat) < 48 := by omega
                  have LB := lb_and (A := w24) IX IB
                  rw [if_pos (by rw [← hB9 _ IB, ← EA]; cases hl : lb w24 (12 * x.toInt.toNat + (2 * fnd s.nm 0 (s.h 0) (tok B n lim (j + 1)).v + (tok B n lim (j + 2)).v).toNat) with | true => rfl | false => exact absurd (hz25.mpr (LB.mpr hl)) (by omega))]
                  exact LRES_bad ⟨z105, rfl, by omega⟩ (rhp102.trans (congrArg some (by omega))) (((ehp102 _ _ (Or.inr (by omega)))).trans Z4.2.1))⟩)
      · skip
        have c106 : z12.toInt = 0 := by omega
        refine bs_lit (k := 0) rfl rfl fun z107 hz107 => ?_
        exact bs_zret rfl rfl (by omega) (by omega) (by rw [hQ]; exact ⟨thp11, Hhp11, Fhp11, bs_an0, sf_S_cons (sf_s1 (x := z107.toInt) rfl (by omega) (by omega)) (sf_S_nil), (fun a s B n lim m j x ha hS hC hj hpl h9 => by
                have EX : x = x2 := by cases ha; rfl
                subst EX
                cases ha
                obtain ⟨q1, rq1, X1⟩ := xhp2 _ s B n lim m (j + 1) rfl hS hC hj
                obtain rfl := Value.int.inj (Option.some.inj rq1)
                show LRES _ _ _ _ _ _ _ (lold (tok B n lim) s 0 (s.h 0) (j + 1) _)
                obtain ⟨Y0, Y1, Y2, Y3, Y4, Y5⟩ := X1.resolve_right (fun h => absurd h.1 (by omega))
                rw [lold_o Y2 (by omega)]
                have J2 : j + 2 < m := CK_more Y3.1 hj (by omega) (by omega)
                obtain ⟨q2, rq2, X2⟩ := (xhp11 _ _ rfl).2 B n lim m (j + 2) Y3 J2
                obtain rfl := Value.int.inj (Option.some.inj rq2)
                rcases X2.resolve_left (fun h => absurd h.1 (by omega)) with ⟨_, P1, ⟨P2, P3⟩ | ⟨P2, P4, P3⟩⟩
                · rw [lnum_1 P2]
                  exact LRES_bad ⟨z107, rfl, by omega⟩ (P3) (P1)
                · rw [lnum_2 P2 (by omega)]
                  exact LRES_bad ⟨z107, rfl, by omega⟩ (P3) (P1))⟩)
def kq_X7_readLine_v : sf_Q := ([(1, 7, 0), (1, 9, 0)], [], some (0, 0, 0), [(1, 0, 0, 0, 1, 0)], [(7, 7, 12), (9, 4, 9), (116, 0, 0), (117, 0, 0), (118, 0, 7), (119, 0, 47), (120, 0, 19), (121, 0, 19), (122, 0, 19)])
def ke_X7_readLine_v : List Value → ab_H → Option Value → ab_H → Prop := fun as hp r hp' => ∀ (a : Nat) (s : PS) (B : Nat → Int) (n lim m j : Nat), as = [.ref a, .ref 3] → SC hp a s → CK hp B n lim m (j + 1) → j < m → sf_rd hp 3 5 = some (tok B n lim j).k → sf_rd hp 3 6 = some (tok B n lim j).pl → sf_rd hp 3 9 = some 0 → LRES hp' a B n lim m r (lnx (tok B n lim) s j)
set_option maxRecDepth 100000 in
set_option maxHeartbeats 4000000 in
theorem ce_X7_readLine_v : sf_cE kq_X7_readLine_v Z_X7_readLine ke_X7_readLine_v := by
  intro t hp as H hl hj hpre
  match as, hl with
  | [v0, v1], _ =>
    obtain ⟨a0, rfl, ra0⟩ := bs_aR (hj 0 _ rfl)
    obtain ⟨a1, rfl, ra1⟩ := bs_aR (hj 1 _ rfl)
    obtain rfl := ra1.eq H (p := 3) rfl
    clear hpre hj
    have F0 : sf_fr [(7, 7, 12), (9, 4, 9), (116, 0, 0), (117, 0, 0), (118, 0, 7), (119, 0, 47), (120, 0, 19), (121, 0, 19), (122, 0, 19)] t hp t hp := sf_fr_rf
    refine bs_finx (E := ke_X7_readLine_v) (K := kq_X7_readLine_v) (L := (L_X7_readLine Z_X7_readAmount Z_X7_readLoad Z_X7_readGood Z_X7_readMan Z_X7_readMisses Z_X9_fail)) (nL := 2) (Nat.le_of_ble_eq_true rfl) ?_
    obtain ⟨Q, hQ⟩ : ∃ Q : ab_O → Prop, Q = (fun o => ∃ t', sf_h t' o.2 ∧ sf_fr (kq_X7_readLine_v).2.2.2.2 t hp t' o.2 ∧ sf_an t' o.2.1 (kq_X7_readLine_v).2.2.1 o.1 ∧ sf_S (sf_v1 o.1 [.ref a0, .ref 3] o.2) (kq_X7_readLine_v).2.2.2.1 ∧ ke_X7_readLine_v [.ref a0, .ref 3] hp o.1 o.2) := ⟨_, rfl⟩
    rw [← hQ]
    refine (show Ev (ab_T (L_X7_readLine Z_X7_readAmount Z_X7_readLoad Z_X7_readGood Z_X7_readMan Z_X7_readMisses Z_X9_fail)) 0 ([some (.ref a0), some (.ref 3)], [], (0, 0), hp) Q from ?_)
    refine Ev.step (j := 1) (s' := ([some (.ref a0), some (.ref 3)], [.ref 3], (0, 0), hp)) rfl rfl ?_
    refine bs_getI 9 rfl rfl rfl H (bs_R.uq H (g := 9) rfl) (by decide) rfl fun z1 hz1 lz1 gz1 => ?_
    refine bs_lit (k := 66) rfl rfl fun z2 hz2 => ?_
    refine bs_lt rfl (fun c3 => ?_) (fun c3 => ?_)
    · skip
      refine Ev.step (j := 32) (s' := ([some (.ref a0), some (.ref 3)], [.ref 3], (0, 0), hp)) rfl rfl ?_
      refine bs_getI 9 rfl rfl rfl H (bs_R.uq H (g := 9) rfl) (by decide) rfl fun z4 hz4 lz4 gz4 => ?_
      have e5 : z4.toInt = z1.toInt := Option.some.inj (hz4.symm.trans hz1)
      rcases (show z4.toInt = 64 ∨ z4.toInt = 65 ∨ z4.toInt = 66 ∨ z4.toInt = 67 ∨ z4.toInt = 68 ∨ z4.toInt = 69 ∨ z4.toInt = 70 ∨ z4.toInt = 71 ∨ (z4.toInt < 64 ∨ 72 ≤ z4.toInt) by omega) with c6 | c6 | c6 | c6 | c6 | c6 | c6 | c6 | c6
      · refine bs_tab 0 rfl (by omega) rfl ?_
        refine Ev.step (j := 81) (s' := ([some (.ref a0), some (.ref 3)], [.ref a0], (0, 0), hp)) rfl rfl ?_
        refine Ev.step (j := 82) (s' := ([some (.ref a0), some (.ref 3)], [.ref 3, .ref a0], (0, 0), hp)) rfl rfl ?_
        refine bs_callx (K := kq_X7_readLoad_v) [.ref a0, .ref 3] [] rfl ce_X7_readLoad_v H rfl rfl rfl (bs_rcv (g := 7) H (ra0.fr F0) (by decide) rfl) rfl ?_ (sf_S_nil) fun r7 hp8 thp8 Hhp8 fhp8 ahp8 php8 xhp8 => ?_
        · intro q k h
          match q, h with
          | 0, h => cases h; exact bs_jR (ra0.fr F0)
          | 1, h => cases h; exact bs_jR (bs_R.uq H (g := 9) rfl)
          | q + 2, h => cases h
        obtain ⟨z9, rfl⟩ := bs_anI ahp8
        have rgz9 := n_range z9
        have Fhp8 := sf_fr_tr F0 (sf_fr_wider (W := [(7, 7, 12), (9, 4, 9), (116, 0, 0), (117, 0, 0), (118, 0, 7), (119, 0, 47), (120, 0, 19), (121, 0, 19), (122, 0, 19)]) rfl fhp8)
        obtain ⟨uz9, vz9⟩ := bs_s1 (x := z9.toInt) rfl (php8 _ (List.mem_of_getElem? (i := 0) rfl))
        refine (show Ev _ 85 ([some (.ref a0), some (.ref 3)], [.int z9], (0, 0), hp8) _ from ?_)
        exact bs_zret rfl rfl (by omega) (by omega) (by rw [hQ]; exact ⟨thp8, Hhp8, Fhp8, bs_an0, sf_S_cons (sf_s1 (x := z9.toInt) rfl (by omega) (by omega)) (sf_S_nil), (fun a s B n lim m j ha hS hC hj hk hpl h9 => by
                have KK : z1.toInt = (tok B n lim j).k := Option.some.inj (hz1.symm.trans hk)
                have J1 := CK_more hC.1 hj (by omega) (by omega)
                cases ha
                rw [lnx_load (by omega)]
                exact xhp8 _ s B n lim m j rfl hS hC J1 hpl h9)⟩)
      · refine bs_tab 1 rfl (by omega) rfl ?_
        refine Ev.step (j := 87) (s' := ([some (.ref a0), some (.ref 3)], [.ref a0], (0, 0), hp)) rfl rfl ?_
        refine Ev.step (j := 88) (s' := ([some (.ref a0), some (.ref 3)], [.ref 3, .ref a0], (0, 0), hp)) rfl rfl ?_
        refine bs_callx (K := kq_X7_readGood_v) [.ref a0, .ref 3] [] rfl ce_X7_readGood_v H rfl rfl rfl (bs_rcv (g := 7) H (ra0.fr F0) (by decide) rfl) rfl ?_ (sf_S_nil) fun r10 hp11 thp11 Hhp11 fhp11 ahp11 php11 xhp11 => ?_
        · intro q k h
          match q, h with
          | 0, h => cases h; exact bs_jR (ra0.fr F0)
          | 1, h => cases h; exact bs_jR (bs_R.uq H (g := 9) rfl)
          | q + 2, h => cases h
        obtain ⟨z12, rfl⟩ := bs_anI ahp11
        have rgz12 := n_range z12
        have Fhp11 := sf_fr_tr F0 (sf_fr_wider (W := [(7, 7, 12), (9, 4, 9), (116, 0, 0), (117, 0, 0), (118, 0, 7), (119, 0, 47), (120, 0, 19), (121, 0, 19), (122, 0, 19)]) rfl fhp11)
        obtain ⟨uz12, vz12⟩ := bs_s1 (x := z12.toInt) rfl (php11 _ (List.mem_of_getElem? (i := 0) rfl))
        refine (show Ev _ 91 ([some (.ref a0), some (.ref 3)], [.int z12], (0, 0), hp11) _ from ?_)
        exact bs_zret rfl rfl (by omega) (by omega) (by rw [hQ]; exact ⟨thp11, Hhp11, Fhp11, bs_an0, sf_S_cons (sf_s1 (x := z12.toInt) rfl (by omega) (by omega)) (sf_S_nil), (fun a s B n lim m j ha hS hC hj hk hpl h9 => by
                have KK : z1.toInt = (tok B n lim j).k := Option.some.inj (hz1.symm.trans hk)
                have J1 := CK_more hC.1 hj (by omega) (by omega)
                cases ha
                rw [lnx_good (by omega)]
                exact xhp11 _ s B n lim m j rfl hS hC J1 hpl h9)⟩)
      · refine bs_tab 2 rfl (by omega) rfl ?_
        refine Ev.step (j := 105) (s' := ([some (.ref a0), some (.ref 3)], [.ref 3], (0, 0), hp)) rfl rfl ?_
        refine bs_lit (k := 1) rfl rfl fun z13 hz13 => ?_
        refine Ev.inl (L := L_X9_fail) (nL := 2) rfl (bs_rcv (g := 9) H (bs_R.uq H (g := 9) rfl) (by decide) rfl) rfl (Nat.le_of_ble_eq_true rfl) ?_
        generalize hQ14 : (fun (o : ab_O) => Ev _ _ _ _) = Q14
        refine (show Ev (ab_T L_X9_fail) 0 ([some (.ref 3), some (.int z13)], [], (0, 0), hp) Q14 from ?_)
        refine Ev.step (j := 1) (s' := ([some (.ref 3), some (.int z13)], [.ref 3], (0, 0), hp)) rfl rfl ?_
        refine Ev.step (j := 2) (s' := ([some (.ref 3), some (.int z13)], [.int z13, .ref 3], (0, 0), hp)) rfl rfl ?_
        refine bs_putIv (W := [(9, 9, 9)]) (g := 9) rfl rfl H (bs_R.uq H (g := 9) rfl) (by decide) rfl rfl rfl rfl (Or.inl rfl) (by omega) (by omega) fun hp15 Hhp15 fhp15 rhp15 ehp15 qhp15 nhp15 => ?_
        have Fhp15 := sf_fr_tr F0 (sf_fr_wider (W := [(7, 7, 12), (9, 4, 9), (116, 0, 0), (117, 0, 0), (118, 0, 7), (119, 0, 47), (120, 0, 19), (121, 0, 19), (122, 0, 19)]) rfl fhp15)
        have h16 : sf_rd hp15 3 5 = some z1.toInt := (ehp15 _ _ (Or.inr (by omega))).trans hz1
        refine bs_lit (k := 0) rfl rfl fun z17 hz17 => ?_
        refine bs_zret rfl rfl (by omega) (by omega) ?_
        rw [← hQ14]
        refine (show Ev _ 109 ([some (.ref a0), some (.ref 3)], [.int z17], (0, 0), hp15) _ from ?_)
        exact bs_zret rfl rfl (by omega) (by omega) (by rw [hQ]; exact ⟨t, Hhp15, Fhp15, bs_an0, sf_S_cons (sf_s1 (x := z17.toInt) rfl (by omega) (by omega)) (sf_S_nil), (fun a s B n lim m j ha hS hC hj hk hpl h9 => by
                have KK : z1.toInt = (tok B n lim j).k := Option.some.inj (hz1.symm.trans hk)
                cases ha
                rw [lnx_bad (by omega)]
                exact LRES_bad ⟨z17, rfl, by omega⟩ (rhp15.trans (congrArg some (by omega))) (((ehp15 _ _ (Or.inr (by omega)))).trans hpl))⟩)
      · refine bs_tab 3 rfl (by omega) rfl ?_
        refine Ev.step (j := 105) (s' := ([some (.ref a0), some (.ref 3)], [.ref 3], (0, 0), hp)) rfl rfl ?_
        refine bs_lit (k := 1) rfl rfl fun z18 hz18 => ?_
        refine Ev.inl (L := L_X9_fail) (nL := 2) rfl (bs_rcv (g := 9) H (bs_R.uq H (g := 9) rfl) (by decide) rfl) rfl (Nat.le_of_ble_eq_true rfl) ?_
        generalize hQ19 : (fun (o : ab_O) => Ev _ _ _ _) = Q19
        refine (show Ev (ab_T L_X9_fail) 0 ([some (.ref 3), some (.int z18)], [], (0, 0), hp) Q19 from ?_)
        refine Ev.step (j := 1) (s' := ([some (.ref 3), some (.int z18)], [.ref 3], (0, 0), hp)) rfl rfl ?_
        refine Ev.step (j := 2) (s' := ([some (.ref 3), some (.int z18)], [.int z18, .ref 3], (0, 0), hp)) rfl rfl ?_
        refine bs_putIv (W := [(9, 9, 9)]) (g := 9) rfl rfl H (bs_R.uq H (g := 9) rfl) (by decide) rfl rfl rfl rfl (Or.inl rfl) (by omega) (by omega) fun hp20 Hhp20 fhp20 rhp20 ehp20 qhp20 nhp20 => ?_
        have Fhp20 := sf_fr_tr F0 (sf_fr_wider (W := [(7, 7, 12), (9, 4, 9), (116, 0, 0), (117, 0, 0), (118, 0, 7), (119, 0, 47), (120, 0, 19), (121, 0, 19), (122, 0, 19)]) rfl fhp20)
        have h21 : sf_rd hp20 3 5 = some z1.toInt := (ehp20 _ _ (Or.inr (by omega))).trans hz1
        refine bs_lit (k := 0) rfl rfl fun z22 hz22 => ?_
        refine bs_zret rfl rfl (by omega) (by omega) ?_
        rw [← hQ19]
        refine (show Ev _ 109 ([some (.ref a0), some (.ref 3)], [.int z22], (0, 0), hp20) _ from ?_)
        exact bs_zret rfl rfl (by omega) (by omega) (by rw [hQ]; exact ⟨t, Hhp20, Fhp20, bs_an0, sf_S_cons (sf_s1 (x := z22.toInt) rfl (by omega) (by omega)) (sf_S_nil), (fun a s B n lim m j ha hS hC hj hk hpl h9 => by
                have KK : z1.toInt = (tok B n lim j).k := Option.some.inj (hz1.symm.trans hk)
                cases ha
                rw [lnx_bad (by omega)]
                exact LRES_bad ⟨z22, rfl, by omega⟩ (rhp20.trans (congrArg some (by omega))) (((ehp20 _ _ (Or.inr (by omega)))).trans hpl))⟩)
      · refine bs_tab 4 rfl (by omega) rfl ?_
        refine Ev.step (j := 105) (s' := ([some (.ref a0), some (.ref 3)], [.ref 3], (0, 0), hp)) rfl rfl ?_
        refine bs_lit (k := 1) rfl rfl fun z23 hz23 => ?_
        refine Ev.inl (L := L_X9_fail) (nL := 2) rfl (bs_rcv (g := 9) H (bs_R.uq H (g := 9) rfl) (by decide) rfl) rfl (Nat.le_of_ble_eq_true rfl) ?_
        generalize hQ24 : (fun (o : ab_O) => Ev _ _ _ _) = Q24
        refine (show Ev (ab_T L_X9_fail) 0 ([some (.ref 3), some (.int z23)], [], (0, 0), hp) Q24 from ?_)
        refine Ev.step (j := 1) (s' := ([some (.ref 3), some (.int z23)], [.ref 3], (0, 0), hp)) rfl rfl ?_
        refine Ev.step (j := 2) (s' := ([some (.ref 3), some (.int z23)], [.int z23, .ref 3], (0, 0), hp)) rfl rfl ?_
        refine bs_putIv (W := [(9, 9, 9)]) (g := 9) rfl rfl H (bs_R.uq H (g := 9) rfl) (by decide) rfl rfl rfl rfl (Or.inl rfl) (by omega) (by omega) fun hp25 Hhp25 fhp25 rhp25 ehp25 qhp25 nhp25 => ?_
        have Fhp25 := sf_fr_tr F0 (sf_fr_wider (W := [(7, 7, 12), (9, 4, 9), (116, 0, 0), (117, 0, 0), (118, 0, 7), (119, 0, 47), (120, 0, 19), (121, 0, 19), (122, 0, 19)]) rfl fhp25)
        have h26 : sf_rd hp25 3 5 = some z1.toInt := (ehp25 _ _ (Or.inr (by omega))).trans hz1
        refine bs_lit (k := 0) rfl rfl fun z27 hz27 => ?_
        refine bs_zret rfl rfl (by omega) (by omega) ?_
        rw [← hQ24]
        refine (show Ev _ 109 ([some (.ref a0), some (.ref 3)], [.int z27], (0, 0), hp25) _ from ?_)
        exact bs_zret rfl rfl (by omega) (by omega) (by rw [hQ]; exact ⟨t, Hhp25, Fhp25, bs_an0, sf_S_cons (sf_s1 (x := z27.toInt) rfl (by omega) (by omega)) (sf_S_nil), (fun a s B n lim m j ha hS hC hj hk hpl h9 => by
                have KK : z1.toInt = (tok B n lim j).k := Option.some.inj (hz1.symm.trans hk)
                cases ha
                rw [lnx_bad (by omega)]
                exact LRES_bad ⟨z27, rfl, by omega⟩ (rhp25.trans (congrArg some (by omega))) (((ehp25 _ _ (Or.inr (by omega)))).trans hpl))⟩)
      · refine bs_tab 5 rfl (by omega) rfl ?_
        refine Ev.step (j := 105) (s' := ([some (.ref a0), some (.ref 3)], [.ref 3], (0, 0), hp)) rfl rfl ?_
        refine bs_lit (k := 1) rfl rfl fun z28 hz28 => ?_
        refine Ev.inl (L := L_X9_fail) (nL := 2) rfl (bs_rcv (g := 9) H (bs_R.uq H (g := 9) rfl) (by decide) rfl) rfl (Nat.le_of_ble_eq_true rfl) ?_
        generalize hQ29 : (fun (o : ab_O) => Ev _ _ _ _) = Q29
        refine (show Ev (ab_T L_X9_fail) 0 ([some (.ref 3), some (.int z28)], [], (0, 0), hp) Q29 from ?_)
        refine Ev.step (j := 1) (s' := ([some (.ref 3), some (.int z28)], [.ref 3], (0, 0), hp)) rfl rfl ?_
        refine Ev.step (j := 2) (s' := ([some (.ref 3), some (.int z28)], [.int z28, .ref 3], (0, 0), hp)) rfl rfl ?_
        refine bs_putIv (W := [(9, 9, 9)]) (g := 9) rfl rfl H (bs_R.uq H (g := 9) rfl) (by decide) rfl rfl rfl rfl (Or.inl rfl) (by omega) (by omega) fun hp30 Hhp30 fhp30 rhp30 ehp30 qhp30 nhp30 => ?_
        have Fhp30 := sf_fr_tr F0 (sf_fr_wider (W := [(7, 7, 12), (9, 4, 9), (116, 0, 0), (117, 0, 0), (118, 0, 7), (119, 0, 47), (120, 0, 19), (121, 0, 19), (122, 0, 19)]) rfl fhp30)
        have h31 : sf_rd hp30 3 5 = some z1.toInt := (ehp30 _ _ (Or.inr (by omega))).trans hz1
        refine bs_lit (k := 0) rfl rfl fun z32 hz32 => ?_
        refine bs_zret rfl rfl (by omega) (by omega) ?_
        rw [← hQ29]
        refine (show Ev _ 109 ([some (.ref a0), some (.ref 3)], [.int z32], (0, 0), hp30) _ from ?_)
        exact bs_zret rfl rfl (by omega) (by omega) (by rw [hQ]; exact ⟨t, Hhp30, Fhp30, bs_an0, sf_S_cons (sf_s1 (x := z32.toInt) rfl (by omega) (by omega)) (sf_S_nil), (fun a s B n lim m j ha hS hC hj hk hpl h9 => by
                have KK : z1.toInt = (tok B n lim j).k := Option.some.inj (hz1.symm.trans hk)
                cases ha
                rw [lnx_bad (by omega)]
                exact LRES_bad ⟨z32, rfl, by omega⟩ (rhp30.trans (congrArg some (by omega))) (((ehp30 _ _ (Or.inr (by omega)))).trans hpl))⟩)
      · refine bs_tab 6 rfl (by omega) rfl ?_
        refine Ev.step (j := 93) (s' := ([some (.ref a0), some (.ref 3)], [.ref a0], (0, 0), hp)) rfl rfl ?_
        refine Ev.step (j := 94) (s' := ([some (.ref a0), some (.ref 3)], [.ref 3, .ref a0], (0, 0), hp)) rfl rfl ?_
        refine bs_callx (K := kq_X7_readMan_v) [.ref a0, .ref 3] [] rfl ce_X7_readMan_v H rfl rfl rfl (bs_rcv (g := 7) H (ra0.fr F0) (by decide) rfl) rfl ?_ (sf_S_nil) fun r33 hp34 thp34 Hhp34 fhp34 ahp34 php34 xhp34 => ?_
        · intro q k h
          match q, h with
          | 0, h => cases h; exact bs_jR (ra0.fr F0)
          | 1, h => cases h; exact bs_jR (bs_R.uq H (g := 9) rfl)
          | q + 2, h => cases h
        obtain ⟨z35, rfl⟩ := bs_anI ahp34
        have rgz35 := n_range z35
        have Fhp34 := sf_fr_tr F0 (sf_fr_wider (W := [(7, 7, 12), (9, 4, 9), (116, 0, 0), (117, 0, 0), (118, 0, 7), (119, 0, 47), (120, 0, 19), (121, 0, 19), (122, 0, 19)]) rfl fhp34)
        obtain ⟨uz35, vz35⟩ := bs_s1 (x := z35.toInt) rfl (php34 _ (List.mem_of_getElem? (i := 0) rfl))
        refine (show Ev _ 97 ([some (.ref a0), some (.ref 3)], [.int z35], (0, 0), hp34) _ from ?_)
        exact bs_zret rfl rfl (by omega) (by omega) (by rw [hQ]; exact ⟨thp34, Hhp34, Fhp34, bs_an0, sf_S_cons (sf_s1 (x := z35.toInt) rfl (by omega) (by omega)) (sf_S_nil), (fun a s B n lim m j ha hS hC hj hk hpl h9 => by
                have KK : z1.toInt = (tok B n lim j).k := Option.some.inj (hz1.symm.trans hk)
                have J1 := CK_more hC.1 hj (by omega) (by omega)
                cases ha
                rw [lnx_man (by omega)]
                exact xhp34 _ s B n lim m j rfl hS hC J1 hpl h9)⟩)
      · refine bs_tab 7 rfl (by omega) rfl ?_
        refine Ev.step (j := 99) (s' := ([some (.ref a0), some (.ref 3)], [.ref a0], (0, 0), hp)) rfl rfl ?_
        refine Ev.step (j := 100) (s' := ([some (.ref a0), some (.ref 3)], [.ref 3, .ref a0], (0, 0), hp)) rfl rfl ?_
        refine bs_callx (K := kq_X7_readMisses_v) [.ref a0, .ref 3] [] rfl ce_X7_readMisses_v H rfl rfl rfl (bs_rcv (g := 7) H (ra0.fr F0) (by decide) rfl) rfl ?_ (sf_S_nil) fun r36 hp37 thp37 Hhp37 fhp37 ahp37 php37 xhp37 => ?_
        · intro q k h
          match q, h with
          | 0, h => cases h; exact bs_jR (ra0.fr F0)
          | 1, h => cases h; exact bs_jR (bs_R.uq H (g := 9) rfl)
          | q + 2, h => cases h
        obtain ⟨z38, rfl⟩ := bs_anI ahp37
        have rgz38 := n_range z38
        have Fhp37 := sf_fr_tr F0 (sf_fr_wider (W := [(7, 7, 12), (9, 4, 9), (116, 0, 0), (117, 0, 0), (118, 0, 7), (119, 0, 47), (120, 0, 19), (121, 0, 19), (122, 0, 19)]) rfl fhp37)
        obtain ⟨uz38, vz38⟩ := bs_s1 (x := z38.toInt) rfl (php37 _ (List.mem_of_getElem? (i := 0) rfl))
        refine (show Ev _ 103 ([some (.ref a0), some (.ref 3)], [.int z38], (0, 0), hp37) _ from ?_)
        exact bs_zret rfl rfl (by omega) (by omega) (by rw [hQ]; exact ⟨thp37, Hhp37, Fhp37, bs_an0, sf_S_cons (sf_s1 (x := z38.toInt) rfl (by omega) (by omega)) (sf_S_nil), (fun a s B n lim m j ha hS hC hj hk hpl h9 => by
                have KK : z1.toInt = (tok B n lim j).k := Option.some.inj (hz1.symm.trans hk)
                have J1 := CK_more hC.1 hj (by omega) (by omega)
                cases ha
                rw [lnx_miss (by omega)]
                exact xhp37 _ s B n lim m j rfl hS hC J1 hpl h9)⟩)
      · refine bs_tabD rfl (by show _ ∨ _ + ((8 : Nat) : Int) ≤ _; omega) ?_
        refine Ev.step (j := 105) (s' := ([some (.ref a0), some (.ref 3)], [.ref 3], (0, 0), hp)) rfl rfl ?_
        refine bs_lit (k := 1) rfl rfl fun z39 hz39 => ?_
        refine Ev.inl (L := L_X9_fail) (nL := 2) rfl (bs_rcv (g := 9) H (bs_R.uq H (g := 9) rfl) (by decide) rfl) rfl (Nat.le_of_ble_eq_true rfl) ?_
        generalize hQ40 : (fun (o : ab_O) => Ev _ _ _ _) = Q40
        refine (show Ev (ab_T L_X9_fail) 0 ([some (.ref 3), some (.int z39)], [], (0, 0), hp) Q40 from ?_)
        refine Ev.step (j := 1) (s' := ([some (.ref 3), some (.int z39)], [.ref 3], (0, 0), hp)) rfl rfl ?_
        refine Ev.step (j := 2) (s' := ([some (.ref 3), some (.int z39)], [.int z39, .ref 3], (0, 0), hp)) rfl rfl ?_
        refine bs_putIv (W := [(9, 9, 9)]) (g := 9) rfl rfl H (bs_R.uq H (g := 9) rfl) (by decide) rfl rfl rfl rfl (Or.inl rfl) (by omega) (by omega) fun hp41 Hhp41 fhp41 rhp41 ehp41 qhp41 nhp41 => ?_
        have Fhp41 := sf_fr_tr F0 (sf_fr_wider (W := [(7, 7, 12), (9, 4, 9), (116, 0, 0), (117, 0, 0), (118, 0, 7), (119, 0, 47), (120, 0, 19), (121, 0, 19), (122, 0, 19)]) rfl fhp41)
        have h42 : sf_rd hp41 3 5 = some z1.toInt := (ehp41 _ _ (Or.inr (by omega))).trans hz1
        refine bs_lit (k := 0) rfl rfl fun z43 hz43 => ?_
        refine bs_zret rfl rfl (by omega) (by omega) ?_
        rw [← hQ40]
        refine (show Ev _ 109 ([some (.ref a0), some (.ref 3)], [.int z43], (0, 0), hp41) _ from ?_)
        exact bs_zret rfl rfl (by omega) (by omega) (by rw [hQ]; exact ⟨t, Hhp41, Fhp41, bs_an0, sf_S_cons (sf_s1 (x := z43.toInt) rfl (by omega) (by omega)) (sf_S_nil), (fun a s B n lim m j ha hS hC hj hk hpl h9 => by
                have KK : z1.toInt = (tok B n lim j).k := Option.some.inj (hz1.symm.trans hk)
                cases ha
                rw [lnx_bad (by omega)]
                exact LRES_bad ⟨z43, rfl, by omega⟩ (rhp41.trans (congrArg some (by omega))) (((ehp41 _ _ (Or.inr (by omega)))).trans hpl))⟩)
    · skip
      refine Ev.step (j := 10) (s' := ([some (.ref a0), some (.ref 3)], [.ref 3], (0, 0), hp)) rfl rfl ?_
      refine bs_getI 9 rfl rfl rfl H (bs_R.uq H (g := 9) rfl) (by decide) rfl fun z44 hz44 lz44 gz44 => ?_
      have e45 : z44.toInt = z1.toInt := Option.some.inj (hz44.symm.trans hz1)
      refine bs_lit (k := 69) rfl rfl fun z46 hz46 => ?_
      refine bs_gt rfl (fun c47 => ?_) (fun c47 => ?_)
      · skip
        refine Ev.step (j := 32) (s' := ([some (.ref a0), some (.ref 3)], [.ref 3], (0, 0), hp)) rfl rfl ?_
        refine bs_getI 9 rfl rfl rfl H (bs_R.uq H (g := 9) rfl) (by decide) rfl fun z48 hz48 lz48 gz48 => ?_
        have e49 : z48.toInt = z1.toInt := Option.some.inj (hz48.symm.trans hz1)
        rcases (show z48.toInt = 64 ∨ z48.toInt = 65 ∨ z48.toInt = 66 ∨ z48.toInt = 67 ∨ z48.toInt = 68 ∨ z48.toInt = 69 ∨ z48.toInt = 70 ∨ z48.toInt = 71 ∨ (z48.toInt < 64 ∨ 72 ≤ z48.toInt) by omega) with c50 | c50 | c50 | c50 | c50 | c50 | c50 | c50 | c50
        · refine bs_tab 0 rfl (by omega) rfl ?_
          refine Ev.step (j := 81) (s' := ([some (.ref a0), some (.ref 3)], [.ref a0], (0, 0), hp)) rfl rfl ?_
          refine Ev.step (j := 82) (s' := ([some (.ref a0), some (.ref 3)], [.ref 3, .ref a0], (0, 0), hp)) rfl rfl ?_
          refine bs_callx (K := kq_X7_readLoad_v) [.ref a0, .ref 3] [] rfl ce_X7_readLoad_v H rfl rfl rfl (bs_rcv (g := 7) H (ra0.fr F0) (by decide) rfl) rfl ?_ (sf_S_nil) fun r51 hp52 thp52 Hhp52 fhp52 ahp52 php52 xhp52 => ?_
          · intro q k h
            match q, h with
            | 0, h => cases h; exact bs_jR (ra0.fr F0)
            | 1, h => cases h; exact bs_jR (bs_R.uq H (g := 9) rfl)
            | q + 2, h => cases h
          obtain ⟨z53, rfl⟩ := bs_anI ahp52
          have rgz53 := n_range z53
          have Fhp52 := sf_fr_tr F0 (sf_fr_wider (W := [(7, 7, 12), (9, 4, 9), (116, 0, 0), (117, 0, 0), (118, 0, 7), (119, 0, 47), (120, 0, 19), (121, 0, 19), (122, 0, 19)]) rfl fhp52)
          obtain ⟨uz53, vz53⟩ := bs_s1 (x := z53.toInt) rfl (php52 _ (List.mem_of_getElem? (i := 0) rfl))
          refine (show Ev _ 85 ([some (.ref a0), some (.ref 3)], [.int z53], (0, 0), hp52) _ from ?_)
          exact bs_zret rfl rfl (by omega) (by omega) (by rw [hQ]; exact ⟨thp52, Hhp52, Fhp52, bs_an0, sf_S_cons (sf_s1 (x := z53.toInt) rfl (by omega) (by omega)) (sf_S_nil), (fun a s B n lim m j ha hS hC hj hk hpl h9 => by
                  have KK : z1.toInt = (tok B n lim j).k := Option.some.inj (hz1.symm.trans hk)
                  have J1 := CK_more hC.1 hj (by omega) (by omega)
                  cases ha
                  rw [lnx_load (by omega)]
                  exact xhp52 _ s B n lim m j rfl hS hC J1 hpl h9)⟩)
        · refine bs_tab 1 rfl (by omega) rfl ?_
          refine Ev.step (j := 87) (s' := ([some (.ref a0), some (.ref 3)], [.ref a0], (0, 0), hp)) rfl rfl ?_
          refine Ev.step (j := 88) (s' := ([some (.ref a0), some (.ref 3)], [.ref 3, .ref a0], (0, 0), hp)) rfl rfl ?_
          refine bs_callx (K := kq_X7_readGood_v) [.ref a0, .ref 3] [] rfl ce_X7_readGood_v H rfl rfl rfl (bs_rcv (g := 7) H (ra0.fr F0) (by decide) rfl) rfl ?_ (sf_S_nil) fun r54 hp55 thp55 Hhp55 fhp55 ahp55 php55 xhp55 => ?_
          · intro q k h
            match q, h with
            | 0, h => cases h; exact bs_jR (ra0.fr F0)
            | 1, h => cases h; exact bs_jR (bs_R.uq H (g := 9) rfl)
            | q + 2, h => cases h
          obtain ⟨z56, rfl⟩ := bs_anI ahp55
          have rgz56 := n_range z56
          have Fhp55 := sf_fr_tr F0 (sf_fr_wider (W := [(7, 7, 12), (9, 4, 9), (116, 0, 0), (117, 0, 0), (118, 0, 7), (119, 0, 47), (120, 0, 19), (121, 0, 19), (122, 0, 19)]) rfl fhp55)
          obtain ⟨uz56, vz56⟩ := bs_s1 (x := z56.toInt) rfl (php55 _ (List.mem_of_getElem? (i := 0) rfl))
          refine (show Ev _ 91 ([some (.ref a0), some (.ref 3)], [.int z56], (0, 0), hp55) _ from ?_)
          exact bs_zret rfl rfl (by omega) (by omega) (by rw [hQ]; exact ⟨thp55, Hhp55, Fhp55, bs_an0, sf_S_cons (sf_s1 (x := z56.toInt) rfl (by omega) (by omega)) (sf_S_nil), (fun a s B n lim m j ha hS hC hj hk hpl h9 => by
                  have KK : z1.toInt = (tok B n lim j).k := Option.some.inj (hz1.symm.trans hk)
                  have J1 := CK_more hC.1 hj (by omega) (by omega)
                  cases ha
                  rw [lnx_good (by omega)]
                  exact xhp55 _ s B n lim m j rfl hS hC J1 hpl h9)⟩)
        · refine bs_tab 2 rfl (by omega) rfl ?_
          refine Ev.step (j := 105) (s' := ([some (.ref a0), some (.ref 3)], [.ref 3], (0, 0), hp)) rfl rfl ?_
          refine bs_lit (k := 1) rfl rfl fun z57 hz57 => ?_
          refine Ev.inl (L := L_X9_fail) (nL := 2) rfl (bs_rcv (g := 9) H (bs_R.uq H (g := 9) rfl) (by decide) rfl) rfl (Nat.le_of_ble_eq_true rfl) ?_
          generalize hQ58 : (fun (o : ab_O) => Ev _ _ _ _) = Q58
          refine (show Ev (ab_T L_X9_fail) 0 ([some (.ref 3), some (.int z57)], [], (0, 0), hp) Q58 from ?_)
          refine Ev.step (j := 1) (s' := ([some (.ref 3), some (.int z57)], [.ref 3], (0, 0), hp)) rfl rfl ?_
          refine Ev.step (j := 2) (s' := ([some (.ref 3), some (.int z57)], [.int z57, .ref 3], (0, 0), hp)) rfl rfl ?_
          refine bs_putIv (W := [(9, 9, 9)]) (g := 9) rfl rfl H (bs_R.uq H (g := 9) rfl) (by decide) rfl rfl rfl rfl (Or.inl rfl) (by omega) (by omega) fun hp59 Hhp59 fhp59 rhp59 ehp59 qhp59 nhp59 => ?_
          have Fhp59 := sf_fr_tr F0 (sf_fr_wider (W := [(7, 7, 12), (9, 4, 9), (116, 0, 0), (117, 0, 0), (118, 0, 7), (119, 0, 47), (120, 0, 19), (121, 0, 19), (122, 0, 19)]) rfl fhp59)
          have h60 : sf_rd hp59 3 5 = some z1.toInt := (ehp59 _ _ (Or.inr (by omega))).trans hz1
          refine bs_lit (k := 0) rfl rfl fun z61 hz61 => ?_
          refine bs_zret rfl rfl (by omega) (by omega) ?_
          rw [← hQ58]
          refine (show Ev _ 109 ([some (.ref a0), some (.ref 3)], [.int z61], (0, 0), hp59) _ from ?_)
          exact bs_zret rfl rfl (by omega) (by omega) (by rw [hQ]; exact ⟨t, Hhp59, Fhp59, bs_an0, sf_S_cons (sf_s1 (x := z61.toInt) rfl (by omega) (by omega)) (sf_S_nil), (fun a s B n lim m j ha hS hC hj hk hpl h9 => by
                  have KK : z1.toInt = (tok B n lim j).k := Option.some.inj (hz1.symm.trans hk)
                  cases ha
                  rw [lnx_bad (by omega)]
                  exact LRES_bad ⟨z61, rfl, by omega⟩ (rhp59.trans (congrArg some (by omega))) (((ehp59 _ _ (Or.inr (by omega)))).trans hpl))⟩)
        · refine bs_tab 3 rfl (by omega) rfl ?_
          refine Ev.step (j := 105) (s' := ([some (.ref a0), some (.ref 3)], [.ref 3], (0, 0), hp)) rfl rfl ?_
          refine bs_lit (k := 1) rfl rfl fun z62 hz62 => ?_
          refine Ev.inl (L := L_X9_fail) (nL := 2) rfl (bs_rcv (g := 9) H (bs_R.uq H (g := 9) rfl) (by decide) rfl) rfl (Nat.le_of_ble_eq_true rfl) ?_
          generalize hQ63 : (fun (o : ab_O) => Ev _ _ _ _) = Q63
          refine (show Ev (ab_T L_X9_fail) 0 ([some (.ref 3), some (.int z62)], [], (0, 0), hp) Q63 from ?_)
          refine Ev.step (j := 1) (s' := ([some (.ref 3), some (.int z62)], [.ref 3], (0, 0), hp)) rfl rfl ?_
          refine Ev.step (j := 2) (s' := ([some (.ref 3), some (.int z62)], [.int z62, .ref 3], (0, 0), hp)) rfl rfl ?_
          refine bs_putIv (W := [(9, 9, 9)]) (g := 9) rfl rfl H (bs_R.uq H (g := 9) rfl) (by decide) rfl rfl rfl rfl (Or.inl rfl) (by omega) (by omega) fun hp64 Hhp64 fhp64 rhp64 ehp64 qhp64 nhp64 => ?_
          have Fhp64 := sf_fr_tr F0 (sf_fr_wider (W := [(7, 7, 12), (9, 4, 9), (116, 0, 0), (117, 0, 0), (118, 0, 7), (119, 0, 47), (120, 0, 19), (121, 0, 19), (122, 0, 19)]) rfl fhp64)
          have h65 : sf_rd hp64 3 5 = some z1.toInt := (ehp64 _ _ (Or.inr (by omega))).trans hz1
          refine bs_lit (k := 0) rfl rfl fun z66 hz66 => ?_
          refine bs_zret rfl rfl (by omega) (by omega) ?_
          rw [← hQ63]
          refine (show Ev _ 109 ([some (.ref a0), some (.ref 3)], [.int z66], (0, 0), hp64) _ from ?_)
          exact bs_zret rfl rfl (by omega) (by omega) (by rw [hQ]; exact ⟨t, Hhp64, Fhp64, bs_an0, sf_S_cons (sf_s1 (x := z66.toInt) rfl (by omega) (by omega)) (sf_S_nil), (fun a s B n lim m j ha hS hC hj hk hpl h9 => by
                  have KK : z1.toInt = (tok B n lim j).k := Option.some.inj (hz1.symm.trans hk)
                  cases ha
                  rw [lnx_bad (by omega)]
                  exact LRES_bad ⟨z66, rfl, by omega⟩ (rhp64.trans (congrArg some (by omega))) (((ehp64 _ _ (Or.inr (by omega)))).trans hpl))⟩)
        · refine bs_tab 4 rfl (by omega) rfl ?_
          refine Ev.step (j := 105) (s' := ([some (.ref a0), some (.ref 3)], [.ref 3], (0, 0), hp)) rfl rfl ?_
          refine bs_lit (k := 1) rfl rfl fun z67 hz67 => ?_
          refine Ev.inl (L := L_X9_fail) (nL := 2) rfl (bs_rcv (g := 9) H (bs_R.uq H (g := 9) rfl) (by decide) rfl) rfl (Nat.le_of_ble_eq_true rfl) ?_
          generalize hQ68 : (fun (o : ab_O) => Ev _ _ _ _) = Q68
          refine (show Ev (ab_T L_X9_fail) 0 ([some (.ref 3), some (.int z67)], [], (0, 0), hp) Q68 from ?_)
          refine Ev.step (j := 1) (s' := ([some (.ref 3), some (.int z67)], [.ref 3], (0, 0), hp)) rfl rfl ?_
          refine Ev.step (j := 2) (s' := ([some (.ref 3), some (.int z67)], [.int z67, .ref 3], (0, 0), hp)) rfl rfl ?_
          refine bs_putIv (W := [(9, 9, 9)]) (g := 9) rfl rfl H (bs_R.uq H (g := 9) rfl) (by decide) rfl rfl rfl rfl (Or.inl rfl) (by omega) (by omega) fun hp69 Hhp69 fhp69 rhp69 ehp69 qhp69 nhp69 => ?_
          have Fhp69 := sf_fr_tr F0 (sf_fr_wider (W := [(7, 7, 12), (9, 4, 9), (116, 0, 0), (117, 0, 0), (118, 0, 7), (119, 0, 47), (120, 0, 19), (121, 0, 19), (122, 0, 19)]) rfl fhp69)
          have h70 : sf_rd hp69 3 5 = some z1.toInt := (ehp69 _ _ (Or.inr (by omega))).trans hz1
          refine bs_lit (k := 0) rfl rfl fun z71 hz71 => ?_
          refine bs_zret rfl rfl (by omega) (by omega) ?_
          rw [← hQ68]
          refine (show Ev _ 109 ([some (.ref a0), some (.ref 3)], [.int z71], (0, 0), hp69) _ from ?_)
          exact bs_zret rfl rfl (by omega) (by omega) (by rw [hQ]; exact ⟨t, Hhp69, Fhp69, bs_an0, sf_S_cons (sf_s1 (x := z71.toInt) rfl (by omega) (by omega)) (sf_S_nil), (fun a s B n lim m j ha hS hC hj hk hpl h9 => by
                  have KK : z1.toInt = (tok B n lim j).k := Option.some.inj (hz1.symm.trans hk)
                  cases ha
                  rw [lnx_bad (by omega)]
                  exact LRES_bad ⟨z71, rfl, by omega⟩ (rhp69.trans (congrArg some (by omega))) (((ehp69 _ _ (Or.inr (by omega)))).trans hpl))⟩)
        · refine bs_tab 5 rfl (by omega) rfl ?_
          refine Ev.step (j := 105) (s' := ([some (.ref a0), some (.ref 3)], [.ref 3], (0, 0), hp)) rfl rfl ?_
          refine bs_lit (k := 1) rfl rfl fun z72 hz72 => ?_
          refine Ev.inl (L := L_X9_fail) (nL := 2) rfl (bs_rcv (g := 9) H (bs_R.uq H (g := 9) rfl) (by decide) rfl) rfl (Nat.le_of_ble_eq_true rfl) ?_
          generalize hQ73 : (fun (o : ab_O) => Ev _ _ _ _) = Q73
          refine (show Ev (ab_T L_X9_fail) 0 ([some (.ref 3), some (.int z72)], [], (0, 0), hp) Q73 from ?_)
          refine Ev.step (j := 1) (s' := ([some (.ref 3), some (.int z72)], [.ref 3], (0, 0), hp)) rfl rfl ?_
          refine Ev.step (j := 2) (s' := ([some (.ref 3), some (.int z72)], [.int z72, .ref 3], (0, 0), hp)) rfl rfl ?_
          refine bs_putIv (W := [(9, 9, 9)]) (g := 9) rfl rfl H (bs_R.uq H (g := 9) rfl) (by decide) rfl rfl rfl rfl (Or.inl rfl) (by omega) (by omega) fun hp74 Hhp74 fhp74 rhp74 ehp74 qhp74 nhp74 => ?_
          have Fhp74 := sf_fr_tr F0 (sf_fr_wider (W := [(7, 7, 12), (9, 4, 9), (116, 0, 0), (117, 0, 0), (118, 0, 7), (119, 0, 47), (120, 0, 19), (121, 0, 19), (122, 0, 19)]) rfl fhp74)
          have h75 : sf_rd hp74 3 5 = some z1.toInt := (ehp74 _ _ (Or.inr (by omega))).trans hz1
          refine bs_lit (k := 0) rfl rfl fun z76 hz76 => ?_
          refine bs_zret rfl rfl (by omega) (by omega) ?_
          rw [← hQ73]
          refine (show Ev _ 109 ([some (.ref a0), some (.ref 3)], [.int z76], (0, 0), hp74) _ from ?_)
          exact bs_zret rfl rfl (by omega) (by omega) (by rw [hQ]; exact ⟨t, Hhp74, Fhp74, bs_an0, sf_S_cons (sf_s1 (x := z76.toInt) rfl (by omega) (by omega)) (sf_S_nil), (fun a s B n lim m j ha hS hC hj hk hpl h9 => by
                  have KK : z1.toInt = (tok B n lim j).k := Option.some.inj (hz1.symm.trans hk)
                  cases ha
                  rw [lnx_bad (by omega)]
                  exact LRES_bad ⟨z76, rfl, by omega⟩ (rhp74.trans (congrArg some (by omega))) (((ehp74 _ _ (Or.inr (by omega)))).trans hpl))⟩)
        · refine bs_tab 6 rfl (by omega) rfl ?_
          refine Ev.step (j := 93) (s' := ([some (.ref a0), some (.ref 3)], [.ref a0], (0, 0), hp)) rfl rfl ?_
          refine Ev.step (j := 94) (s' := ([some (.ref a0), some (.ref 3)], [.ref 3, .ref a0], (0, 0), hp)) rfl rfl ?_
          refine bs_callx (K := kq_X7_readMan_v) [.ref a0, .ref 3] [] rfl ce_X7_readMan_v H rfl rfl rfl (bs_rcv (g := 7) H (ra0.fr F0) (by decide) rfl) rfl ?_ (sf_S_nil) fun r77 hp78 thp78 Hhp78 fhp78 ahp78 php78 xhp78 => ?_
          · intro q k h
            match q, h with
            | 0, h => cases h; exact bs_jR (ra0.fr F0)
            | 1, h => cases h; exact bs_jR (bs_R.uq H (g := 9) rfl)
            | q + 2, h => cases h
          obtain ⟨z79, rfl⟩ := bs_anI ahp78
          have rgz79 := n_range z79
          have Fhp78 := sf_fr_tr F0 (sf_fr_wider (W := [(7, 7, 12), (9, 4, 9), (116, 0, 0), (117, 0, 0), (118, 0, 7), (119, 0, 47), (120, 0, 19), (121, 0, 19), (122, 0, 19)]) rfl fhp78)
          obtain ⟨uz79, vz79⟩ := bs_s1 (x := z79.toInt) rfl (php78 _ (List.mem_of_getElem? (i := 0) rfl))
          refine (show Ev _ 97 ([some (.ref a0), some (.ref 3)], [.int z79], (0, 0), hp78) _ from ?_)
          exact bs_zret rfl rfl (by omega) (by omega) (by rw [hQ]; exact ⟨thp78, Hhp78, Fhp78, bs_an0, sf_S_cons (sf_s1 (x := z79.toInt) rfl (by omega) (by omega)) (sf_S_nil), (fun a s B n lim m j ha hS hC hj hk hpl h9 => by
                  have KK : z1.toInt = (tok B n lim j).k := Option.some.inj (hz1.symm.trans hk)
                  have J1 := CK_more hC.1 hj (by omega) (by omega)
                  cases ha
                  rw [lnx_man (by omega)]
                  exact xhp78 _ s B n lim m j rfl hS hC J1 hpl h9)⟩)
        · refine bs_tab 7 rfl (by omega) rfl ?_
          refine Ev.step (j := 99) (s' := ([some (.ref a0), some (.ref 3)], [.ref a0], (0, 0), hp)) rfl rfl ?_
          refine Ev.step (j := 100) (s' := ([some (.ref a0), some (.ref 3)], [.ref 3, .ref a0], (0, 0), hp)) rfl rfl ?_
          refine bs_callx (K := kq_X7_readMisses_v) [.ref a0, .ref 3] [] rfl ce_X7_readMisses_v H rfl rfl rfl (bs_rcv (g := 7) H (ra0.fr F0) (by decide) rfl) rfl ?_ (sf_S_nil) fun r80 hp81 thp81 Hhp81 fhp81 ahp81 php81 xhp81 => ?_
          · intro q k h
            match q, h with
            | 0, h => cases h; exact bs_jR (ra0.fr F0)
            | 1, h => cases h; exact bs_jR (bs_R.uq H (g := 9) rfl)
            | q + 2, h => cases h
          obtain ⟨z82, rfl⟩ := bs_anI ahp81
          have rgz82 := n_range z82
          have Fhp81 := sf_fr_tr F0 (sf_fr_wider (W := [(7, 7, 12), (9, 4, 9), (116, 0, 0), (117, 0, 0), (118, 0, 7), (119, 0, 47), (120, 0, 19), (121, 0, 19), (122, 0, 19)]) rfl fhp81)
          obtain ⟨uz82, vz82⟩ := bs_s1 (x := z82.toInt) rfl (php81 _ (List.mem_of_getElem? (i := 0) rfl))
          refine (show Ev _ 103 ([some (.ref a0), some (.ref 3)], [.int z82], (0, 0), hp81) _ from ?_)
          exact bs_zret rfl rfl (by omega) (by omega) (by rw [hQ]; exact ⟨thp81, Hhp81, Fhp81, bs_an0, sf_S_cons (sf_s1 (x := z82.toInt) rfl (by omega) (by omega)) (sf_S_nil), (fun a s B n lim m j ha hS hC hj hk hpl h9 => by
                  have KK : z1.toInt = (tok B n lim j).k := Option.some.inj (hz1.symm.trans hk)
                  have J1 := CK_more hC.1 hj (by omega) (by omega)
                  cases ha
                  rw [lnx_miss (by omega)]
                  exact xhp81 _ s B n lim m j rfl hS hC J1 hpl h9)⟩)
        · refine bs_tabD rfl (by show _ ∨ _ + ((8 : Nat) : Int) ≤ _; omega) ?_
          refine Ev.step (j := 105) (s' := ([some (.ref a0), some (.ref 3)], [.ref 3], (0, 0), hp)) rfl rfl ?_
          refine bs_lit (k := 1) rfl rfl fun z83 hz83 => ?_
          refine Ev.inl (L := L_X9_fail) (nL := 2) rfl (bs_rcv (g := 9) H (bs_R.uq H (g := 9) rfl) (by decide) rfl) rfl (Nat.le_of_ble_eq_true rfl) ?_
          generalize hQ84 : (fun (o : ab_O) => Ev _ _ _ _) = Q84
          refine (show Ev (ab_T L_X9_fail) 0 ([some (.ref 3), some (.int z83)], [], (0, 0), hp) Q84 from ?_)
          refine Ev.step (j := 1) (s' := ([some (.ref 3), some (.int z83)], [.ref 3], (0, 0), hp)) rfl rfl ?_
          refine Ev.step (j := 2) (s' := ([some (.ref 3), some (.int z83)], [.int z83, .ref 3], (0, 0), hp)) rfl rfl ?_
          refine bs_putIv (W := [(9, 9, 9)]) (g := 9) rfl rfl H (bs_R.uq H (g := 9) rfl) (by decide) rfl rfl rfl rfl (Or.inl rfl) (by omega) (by omega) fun hp85 Hhp85 fhp85 rhp85 ehp85 qhp85 nhp85 => ?_
          have Fhp85 := sf_fr_tr F0 (sf_fr_wider (W := [(7, 7, 12), (9, 4, 9), (116, 0, 0), (117, 0, 0), (118, 0, 7), (119, 0, 47), (120, 0, 19), (121, 0, 19), (122, 0, 19)]) rfl fhp85)
          have h86 : sf_rd hp85 3 5 = some z1.toInt := (ehp85 _ _ (Or.inr (by omega))).trans hz1
          refine bs_lit (k := 0) rfl rfl fun z87 hz87 => ?_
          refine bs_zret rfl rfl (by omega) (by omega) ?_
          rw [← hQ84]
          refine (show Ev _ 109 ([some (.ref a0), some (.ref 3)], [.int z87], (0, 0), hp85) _ from ?_)
          exact bs_zret rfl rfl (by omega) (by omega) (by rw [hQ]; exact ⟨t, Hhp85, Fhp85, bs_an0, sf_S_cons (sf_s1 (x := z87.toInt) rfl (by omega) (by omega)) (sf_S_nil), (fun a s B n lim m j ha hS hC hj hk hpl h9 => by
                  have KK : z1.toInt = (tok B n lim j).k := Option.some.inj (hz1.symm.trans hk)
                  cases ha
                  rw [lnx_bad (by omega)]
                  exact LRES_bad ⟨z87, rfl, by omega⟩ (rhp85.trans (congrArg some (by omega))) (((ehp85 _ _ (Or.inr (by omega)))).trans hpl))⟩)
      · skip
        refine Ev.step (j := 19) (s' := ([some (.ref a0), some (.ref 3)], [.ref a0], (0, 0), hp)) rfl rfl ?_
        refine Ev.step (j := 20) (s' := ([some (.ref a0), some (.ref 3)], [.ref 3, .ref a0], (0, 0), hp)) rfl rfl ?_
        refine Ev.step (j := 21) (s' := ([some (.ref a0), some (.ref 3)], [.ref 3, .ref 3, .ref a0], (0, 0), hp)) rfl rfl ?_
        refine bs_getI 9 rfl rfl rfl H (bs_R.uq H (g := 9) rfl) (by decide) rfl fun z88 hz88 lz88 gz88 => ?_
        have e89 : z88.toInt = z1.toInt := Option.some.inj (hz88.symm.trans hz1)
        refine bs_lit (k := 66) rfl rfl fun z90 hz90 => ?_
        first | (refine bs_sub rfl (by omega) (by omega) fun z91 hz91 => ?_) | (refine bs_any rfl fun z91 => ?_)
        have rz91 := n_range z91
        refine bs_callx (K := kq_X7_readAmount_v) [.ref a0, .ref 3, .int z91] [] rfl ce_X7_readAmount_v H rfl rfl rfl (bs_rcv (g := 7) H (ra0.fr F0) (by decide) rfl) rfl ?_ (sf_S_cons (sf_s1 (x := z91.toInt) rfl (by omega) (by omega)) (sf_S_nil)) fun r92 hp93 thp93 Hhp93 fhp93 ahp93 php93 xhp93 => ?_
        · intro q k h
          match q, h with
          | 0, h => cases h; exact bs_jR (ra0.fr F0)
          | 1, h => cases h; exact bs_jR (bs_R.uq H (g := 9) rfl)
          | 2, h => cases h; exact sf_j0
          | q + 3, h => cases h
        obtain ⟨z94, rfl⟩ := bs_anI ahp93
        have rgz94 := n_range z94
        have Fhp93 := sf_fr_tr F0 (sf_fr_wider (W := [(7, 7, 12), (9, 4, 9), (116, 0, 0), (117, 0, 0), (118, 0, 7), (119, 0, 47), (120, 0, 19), (121, 0, 19), (122, 0, 19)]) rfl fhp93)
        obtain ⟨uz94, vz94⟩ := bs_s1 (x := z94.toInt) rfl (php93 _ (List.mem_of_getElem? (i := 0) rfl))
        refine (show Ev _ 30 ([some (.ref a0), some (.ref 3)], [.int z94], (0, 0), hp93) _ from ?_)
        exact bs_zret rfl rfl (by omega) (by omega) (by rw [hQ]; exact ⟨thp93, Hhp93, Fhp93, bs_an0, sf_S_cons (sf_s1 (x := z94.toInt) rfl (by omega) (by omega)) (sf_S_nil), (fun a s B n lim m j ha hS hC hj hk hpl h9 => by
                have KK : z1.toInt = (tok B n lim j).k := Option.some.inj (hz1.symm.trans hk)
                have J1 := CK_more hC.1 hj (by omega) (by omega)
                cases ha
                rw [lnx_amt (by omega)]
                have X := xhp93 _ s B n lim m j _ rfl hS hC J1 hpl h9
                rw [show (z91.toInt).toNat = ((tok B n lim j).k - 66).toNat by omega] at X
                exact X)⟩)
def kq_X9_takeSign_v : sf_Q := ([(1, 9, 0), (0, 0, 0)], [], some (0, 0, 0), [(1, 0, 0, 0, 1, 0)], [(9, 4, 9)])
def ke_X9_takeSign_v : List Value → ab_H → Option Value → ab_H → Prop := fun as hp r hp' => ∀ (d : Int32) (B : Nat → Int) (n lim m i : Nat), as = [.ref 3, .int d] → CK hp B n lim m i → i < m → ∃ z : Int32, r = some (.int z) ∧ ((z.toInt = 1 ∧ (tok B n lim i).k = d.toInt ∧ CUR hp' (tok B n lim i) ∧ CK hp' B n lim m (i + 1) ∧ sf_rd hp' 3 9 = sf_rd hp 3 9) ∨ (z.toInt = 0 ∧ sf_rd hp' 3 6 = some (tok B n lim i).pl ∧ (tok B n lim i).k ≠ d.toInt ∧ sf_rd hp' 3 9 = some 1))
set_option maxRecDepth 100000 in
set_option maxHeartbeats 4000000 in
theorem ce_X9_takeSign_v : sf_cE kq_X9_takeSign_v Z_X9_takeSign ke_X9_takeSign_v := by
  intro t hp as H hl hj hpre
  match as, hl with
  | [v0, v1], _ =>
    obtain ⟨a0, rfl, ra0⟩ := bs_aR (hj 0 _ rfl)
    obtain rfl := ra0.eq H (p := 3) rfl
    obtain ⟨x1, rfl⟩ := bs_aI (hj 1 _ rfl)
    have rg1 := n_range x1
    clear hpre hj
    have F0 : sf_fr [(9, 4, 9)] t hp t hp := sf_fr_rf
    refine bs_finx (E := ke_X9_takeSign_v) (K := kq_X9_takeSign_v) (L := (L_X9_takeSign Z_X9_step Z_X9_fail)) (nL := 2) (Nat.le_of_ble_eq_true rfl) ?_
    obtain ⟨Q, hQ⟩ : ∃ Q : ab_O → Prop, Q = (fun o => ∃ t', sf_h t' o.2 ∧ sf_fr (kq_X9_takeSign_v).2.2.2.2 t hp t' o.2 ∧ sf_an t' o.2.1 (kq_X9_takeSign_v).2.2.1 o.1 ∧ sf_S (sf_v1 o.1 [.ref 3, .int x1] o.2) (kq_X9_takeSign_v).2.2.2.1 ∧ ke_X9_takeSign_v [.ref 3, .int x1] hp o.1 o.2) := ⟨_, rfl⟩
    rw [← hQ]
    refine (show Ev (ab_T (L_X9_takeSign Z_X9_step Z_X9_fail)) 0 ([some (.ref 3), some (.int x1)], [], (0, 0), hp) Q from ?_)
    refine Ev.step (j := 1) (s' := ([some (.ref 3), some (.int x1)], [.ref 3], (0, 0), hp)) rfl rfl ?_
    refine bs_callx (K := kq_X9_step_v) [.ref 3] [] rfl ce_X9_step_v H rfl rfl rfl (bs_rcv (g := 9) H (bs_R.uq H (g := 9) rfl) (by decide) rfl) rfl ?_ (sf_S_nil) fun r1 hp2 thp2 Hhp2 fhp2 ahp2 php2 xhp2 => ?_
    · intro q k h
      match q, h with
      | 0, h => cases h; exact bs_jR (bs_R.uq H (g := 9) rfl)
      | q + 1, h => cases h
    obtain rfl := ahp2.1 rfl
    have Fhp2 := sf_fr_tr F0 (sf_fr_wider (W := [(9, 4, 9)]) rfl fhp2)
    refine (show Ev _ 4 ([some (.ref 3), some (.int x1)], [], (0, 0), hp2) _ from ?_)
    refine Ev.step (j := 5) (s' := ([some (.ref 3), some (.int x1)], [.ref 3], (0, 0), hp2)) rfl rfl ?_
    refine bs_getI 9 rfl rfl rfl Hhp2 (bs_R.uq Hhp2 (g := 9) rfl) (by decide) rfl fun z3 hz3 lz3 gz3 => ?_
    refine Ev.step (j := 9) (s' := ([some (.ref 3), some (.int x1)], [.int x1, .int z3], (0, 0), hp2)) rfl rfl ?_
    refine bs_eq rfl (fun c4 => ?_) (fun c4 => ?_)
    · skip
      refine bs_lit (k := 1) rfl rfl fun z5 hz5 => ?_
      refine Ev.step (j := 25) (s' := ([some (.ref 3), some (.int x1)], [.int z5], (0, 0), hp2)) rfl rfl ?_
      exact bs_zret rfl rfl (by omega) (by omega) (by rw [hQ]; exact ⟨thp2, Hhp2, Fhp2, bs_an0, sf_S_cons (sf_s1 (x := z5.toInt) rfl (by omega) (by omega)) (sf_S_nil), (fun d B n lim m i ha hC hi_ => by
              cases ha; obtain ⟨⟨c1, c2, c3, c4⟩, CK1⟩ := xhp2 B n lim m i hC hi_; have KK : z3.toInt = (tok B n lim i).k := Option.some.inj (hz3.symm.trans c1)
              exact ⟨z5, rfl, Or.inl ⟨by omega, by omega, ⟨c1, c2, c3, c4⟩, CK1, (fhp2.2.2.1 _ (bs_R.uq H (g := 9) (p := 3) rfl).1 _ (by rw [(bs_R.uq H (g := 9) (p := 3) rfl).2]; rfl))⟩⟩)⟩)
    · skip
      refine Ev.step (j := 13) (s' := ([some (.ref 3), some (.int x1)], [.ref 3], (0, 0), hp2)) rfl rfl ?_
      refine bs_lit (k := 1) rfl rfl fun z6 hz6 => ?_
      refine Ev.inl (L := L_X9_fail) (nL := 2) rfl (bs_rcv (g := 9) Hhp2 (bs_R.uq Hhp2 (g := 9) rfl) (by decide) rfl) rfl (Nat.le_of_ble_eq_true rfl) ?_
      generalize hQ7 : (fun (o : ab_O) => Ev _ _ _ _) = Q7
      refine (show Ev (ab_T L_X9_fail) 0 ([some (.ref 3), some (.int z6)], [], (0, 0), hp2) Q7 from ?_)
      refine Ev.step (j := 1) (s' := ([some (.ref 3), some (.int z6)], [.ref 3], (0, 0), hp2)) rfl rfl ?_
      refine Ev.step (j := 2) (s' := ([some (.ref 3), some (.int z6)], [.int z6, .ref 3], (0, 0), hp2)) rfl rfl ?_
      refine bs_putIv (W := [(9, 9, 9)]) (g := 9) rfl rfl Hhp2 (bs_R.uq Hhp2 (g := 9) rfl) (by decide) rfl rfl rfl rfl (Or.inl rfl) (by omega) (by omega) fun hp8 Hhp8 fhp8 rhp8 ehp8 qhp8 nhp8 => ?_
      have Fhp8 := sf_fr_tr Fhp2 (sf_fr_wider (W := [(9, 4, 9)]) rfl fhp8)
      have h9 : sf_rd hp8 3 5 = some z3.toInt := (ehp8 _ _ (Or.inr (by omega))).trans hz3
      refine bs_lit (k := 0) rfl rfl fun z10 hz10 => ?_
      refine bs_zret rfl rfl (by omega) (by omega) ?_
      rw [← hQ7]
      refine (show Ev _ 17 ([some (.ref 3), some (.int x1)], [.int z10], (0, 0), hp8) _ from ?_)
      refine bs_ifeq rfl (fun c11 => ?_) (fun c11 => ?_)
      · skip
        refine bs_lit (k := 0) rfl rfl fun z12 hz12 => ?_
        exact bs_zret rfl rfl (by omega) (by omega) (by rw [hQ]; exact ⟨thp2, Hhp8, Fhp8, bs_an0, sf_S_cons (sf_s1 (x := z12.toInt) rfl (by omega) (by omega)) (sf_S_nil), (fun d B n lim m i ha hC hi_ => by
                cases ha; obtain ⟨⟨c1, c2, c3, c4⟩, CK1⟩ := xhp2 B n lim m i hC hi_; have KK : z3.toInt = (tok B n lim i).k := Option.some.inj (hz3.symm.trans c1)
                exact ⟨z12, rfl, Or.inr ⟨by omega, ((ehp8 _ _ (Or.inr (by omega)))).trans c2, by omega, rhp8.trans (congrArg some (by omega))⟩⟩)⟩)
      · exfalso; omega
def kq_X7_readText_v : sf_Q := ([(1, 7, 0), (1, 9, 0)], [], some (0, 0, 0), [], [(7, 7, 12), (9, 4, 9), (116, 0, 0), (117, 0, 0), (118, 0, 7), (119, 0, 47), (120, 0, 19), (121, 0, 19), (122, 0, 19)])
def ke_X7_readText_v (B : Nat → Int) (n lim m : Nat) : List Value → ab_H → Option Value → ab_H → Prop := fun as hp r hp' => ∀ a : Nat, as = [.ref a, .ref 3] → ∃ (z : Int32) (f : Int) (s : PS), r = some (.int z) ∧ sf_rd hp' 3 9 = some f ∧ ((f = 0 ∧ ANS (tok B n lim) z.toInt 0 s ∧ SC hp' a s) ∨ (f ≠ 0 ∧ ∃ pl, sf_rd hp' 3 6 = some pl ∧ ANS (tok B n lim) (-1 - pl) f s))
set_option maxRecDepth 100000 in
set_option maxHeartbeats 4000000 in
theorem cp_X7_readText_v {B : Nat → Int} {n lim m : Nat} : sf_cG kq_X7_readText_v Z_X7_readText (fun hp => CK hp B n lim m 0 ∧ sf_rd hp 3 9 = some 0) (ke_X7_readText_v B n lim m) := by
  intro t hp as H hl hj hpre hG
  match as, hl with
  | [v0, v1], _ =>
    obtain ⟨a0, rfl, ra0⟩ := bs_aR (hj 0 _ rfl)
    obtain ⟨a1, rfl, ra1⟩ := bs_aR (hj 1 _ rfl)
    obtain rfl := ra1.eq H (p := 3) rfl
    clear hpre hj
    have F0 : sf_fr [(7, 7, 12), (9, 4, 9), (116, 0, 0), (117, 0, 0), (118, 0, 7), (119, 0, 47), (120, 0, 19), (121, 0, 19), (122, 0, 19)] t hp t hp := sf_fr_rf
    refine bs_finx (E := (ke_X7_readText_v B n lim m)) (K := kq_X7_readText_v) (L := (L_X7_readText Z_X7_clear Z_X9_step Z_X7_readLine Z_X9_takeSign)) (nL := 3) (Nat.le_of_ble_eq_true rfl) ?_
    obtain ⟨Q, hQ⟩ : ∃ Q : ab_O → Prop, Q = (fun o => ∃ t', sf_h t' o.2 ∧ sf_fr (kq_X7_readText_v).2.2.2.2 t hp t' o.2 ∧ sf_an t' o.2.1 (kq_X7_readText_v).2.2.1 o.1 ∧ sf_S (sf_v1 o.1 [.ref a0, .ref 3] o.2) (kq_X7_readText_v).2.2.2.1 ∧ (ke_X7_readText_v B n lim m) [.ref a0, .ref 3] hp o.1 o.2) := ⟨_, rfl⟩
    rw [← hQ]
    refine (show Ev (ab_T (L_X7_readText Z_X7_clear Z_X9_step Z_X7_readLine Z_X9_takeSign)) 0 ([some (.ref a0), some (.ref 3), none], [], (0, 0), hp) Q from ?_)
    obtain ⟨hC, h9⟩ := hG
    refine Ev.step (j := 1) (s' := ([some (.ref a0), some (.ref 3), none], [.ref a0], (0, 0), hp)) rfl rfl ?_
    refine bs_callx (K := kq_X7_clear_v) [.ref a0] [] rfl ce_X7_clear_v H rfl rfl rfl (bs_rcv (g := 7) H (ra0.fr F0) (by decide) rfl) rfl ?_ (sf_S_nil) fun r1 hp2 thp2 Hhp2 fhp2 ahp2 php2 xhp2 => ?_
    · intro q k h
      match q, h with
      | 0, h => cases h; exact bs_jR (ra0.fr F0)
      | q + 1, h => cases h
    obtain rfl := ahp2.1 rfl
    have Fhp2 := sf_fr_tr F0 (sf_fr_wider (W := [(7, 7, 12), (9, 4, 9), (116, 0, 0), (117, 0, 0), (118, 0, 7), (119, 0, 47), (120, 0, 19), (121, 0, 19), (122, 0, 19)]) rfl fhp2)
    refine (show Ev _ 4 ([some (.ref a0), some (.ref 3), none], [], (0, 0), hp2) _ from ?_)
    have SC0 := xhp2 _ rfl
    have CK0 : CK hp2 B n lim m 0 := ⟨TKS_fr H hC.1 fhp2 rfl rfl rfl rfl, ((fhp2.2.2.1 _ (bs_R.uq H (g := 9) (p := 3) rfl).1 _ (by rw [(bs_R.uq H (g := 9) (p := 3) rfl).2]; rfl))).trans hC.2.1, hC.2.2⟩
    have N90 : sf_rd hp2 3 9 = some 0 := ((fhp2.2.2.1 _ (bs_R.uq H (g := 9) (p := 3) rfl).1 _ (by rw [(bs_R.uq H (g := 9) (p := 3) rfl).2]; rfl))).trans h9
    refine bs_lit (k := 0) rfl rfl fun z3 hz3 => ?_
    refine Ev.step (j := 6) (s' := ([some (.ref a0), some (.ref 3), some (.int z3)], [], (0, 0), hp2)) rfl rfl ?_
    have m1 := hC.1.1
    have INV : ∃ (s : PS) (i : Nat), lns (tok B n lim) z3.toInt.toNat = some (s, i) ∧ SC hp2 a0 s ∧ CK hp2 B n lim m i ∧ i < m ∧ sf_rd hp2 3 9 = some 0 ∧ 3 * z3.toInt.toNat ≤ i := ⟨s0, 0, by rw [show z3.toInt.toNat = 0 by omega]; rfl, SC0, CK0, by omega, N90, by omega⟩
    refine bs_loop (ι := Int32 × ab_H × (Nat → Nat)) (fun ⟨k4, hp5, t6⟩ => ([some (.ref a0), some (.ref 3), some (.int k4)], [], (0, 0), hp5)) (fun ⟨k4, hp5, t6⟩ => (sf_h t6 hp5) ∧ (sf_fr [(7, 7, 12), (9, 4, 9), (116, 0, 0), (117, 0, 0), (118, 0, 7), (119, 0, 47), (120, 0, 19), (121, 0, 19), (122, 0, 19)] t hp t6 hp5) ∧ (0 ≤ k4.toInt ∧ k4.toInt ≤ 901) ∧ (∃ (s : PS) (i : Nat), lns (tok B n lim) k4.toInt.toNat = some (s, i) ∧ SC hp5 a0 s ∧ CK hp5 B n lim m i ∧ i < m ∧ sf_rd hp5 3 9 = some 0 ∧ 3 * k4.toInt.toNat ≤ i)) (fun ⟨k4, hp5, t6⟩ => (901 - k4.toInt).toNat) ?_ (z3, hp2, thp2) ⟨Hhp2, Fhp2, (by first | omega | assumption), (by exact INV)⟩
    rintro ⟨k4, hp5, t6⟩ ⟨Hhp5, Fhp5, i8, i9⟩ ih7
    clear INV
    refine (show Ev _ 6 ([some (.ref a0), some (.ref 3), some (.int k4)], [], (0, 0), hp5) _ from ?_)
    obtain ⟨s, i, LN, S0, C0, im, N9, I3⟩ := i9
    have m9 := C0.1.2.1
    refine Ev.step (j := 7) (s' := ([some (.ref a0), some (.ref 3), some (.int k4)], [.int k4], (0, 0), hp5)) rfl rfl ?_
    refine bs_lit (k := 900) rfl rfl fun z10 hz10 => ?_
    refine bs_gt rfl (fun c11 => ?_) (fun c11 => ?_)
    · skip
      refine bs_lit (k := -1) rfl rfl fun z12 hz12 => ?_
      exact Ev.ret rfl rfl (by rw [hQ]; exact ⟨t6, Hhp5, Fhp5, bs_an0, sf_S_nil, (fun a ha => by
              cases ha
              exfalso; omega)⟩)
    · skip
      refine Ev.step (j := 14) (s' := ([some (.ref a0), some (.ref 3), some (.int k4)], [.ref 3], (0, 0), hp5)) rfl rfl ?_
      refine bs_callx (K := kq_X9_step_v) [.ref 3] [] rfl ce_X9_step_v Hhp5 rfl rfl rfl (bs_rcv (g := 9) Hhp5 (bs_R.uq Hhp5 (g := 9) rfl) (by decide) rfl) rfl ?_ (sf_S_nil) fun r13 hp14 thp14 Hhp14 fhp14 ahp14 php14 xhp14 => ?_
      · intro q k h
        match q, h with
        | 0, h => cases h; exact bs_jR (bs_R.uq Hhp5 (g := 9) rfl)
        | q + 1, h => cases h
      obtain rfl := ahp14.1 rfl
      have Fhp14 := sf_fr_tr Fhp5 (sf_fr_wider (W := [(7, 7, 12), (9, 4, 9), (116, 0, 0), (117, 0, 0), (118, 0, 7), (119, 0, 47), (120, 0, 19), (121, 0, 19), (122, 0, 19)]) rfl fhp14)
      refine (show Ev _ 17 ([some (.ref a0), some (.ref 3), some (.int k4)], [], (0, 0), hp14) _ from ?_)
      obtain ⟨CU, C1⟩ := xhp14 B n lim m i C0 im
      have S1 := SC_fr Hhp5 (ra0.fr Fhp5) S0 fhp14 rfl rfl
      have N91 : sf_rd hp14 3 9 = some 0 := ((fhp14.2.2.1 _ (bs_R.uq Hhp5 (g := 9) (p := 3) rfl).1 _ (by rw [(bs_R.uq Hhp5 (g := 9) (p := 3) rfl).2]; rfl))).trans N9
      refine Ev.step (j := 18) (s' := ([some (.ref a0), some (.ref 3), some (.int k4)], [.ref 3], (0, 0), hp14)) rfl rfl ?_
      refine bs_getI 9 rfl rfl rfl Hhp14 (bs_R.uq Hhp14 (g := 9) rfl) (by decide) rfl fun z15 hz15 lz15 gz15 => ?_
      have KK : z15.toInt = (tok B n lim i).k := Option.some.inj (hz15.symm.trans CU.1)
      refine bs_ifne rfl (fun c16 => ?_) (fun c16 => ?_)
      · skip
        refine Ev.step (j := 27) (s' := ([some (.ref a0), some (.ref 3), some (.int k4)], [.ref a0], (0, 0), hp14)) rfl rfl ?_
        refine Ev.step (j := 28) (s' := ([some (.ref a0), some (.ref 3), some (.int k4)], [.ref 3, .ref a0], (0, 0), hp14)) rfl rfl ?_
        refine bs_callx (K := kq_X7_readLine_v) [.ref a0, .ref 3] [] rfl ce_X7_readLine_v Hhp14 rfl rfl rfl (bs_rcv (g := 7) Hhp14 (ra0.fr Fhp14) (by decide) rfl) rfl ?_ (sf_S_nil) fun r17 hp18 thp18 Hhp18 fhp18 ahp18 php18 xhp18 => ?_
        · intro q k h
          match q, h with
          | 0, h => cases h; exact bs_jR (ra0.fr Fhp14)
          | 1, h => cases h; exact bs_jR (bs_R.uq Hhp14 (g := 9) rfl)
          | q + 2, h => cases h
        obtain ⟨z19, rfl⟩ := bs_anI ahp18
        have rgz19 := n_range z19
        have Fhp18 := sf_fr_tr Fhp14 (sf_fr_wider (W := [(7, 7, 12), (9, 4, 9), (116, 0, 0), (117, 0, 0), (118, 0, 7), (119, 0, 47), (120, 0, 19), (121, 0, 19), (122, 0, 19)]) rfl fhp18)
        obtain ⟨uz19, vz19⟩ := bs_s1 (x := z19.toInt) rfl (php18 _ (List.mem_of_getElem? (i := 0) rfl))
        refine (show Ev _ 31 ([some (.ref a0), some (.ref 3), some (.int k4)], [.int z19], (0, 0), hp18) _ from ?_)
        have XL := xhp18 _ s B n lim m i rfl S1 C1 im CU.1 CU.2.1 N91
        refine bs_ifeq rfl (fun c20 => ?_) (fun c20 => ?_)
        · skip
          have c21 : z19.toInt = 0 := by omega
          refine bs_lit (k := -1) rfl rfl fun z22 hz22 => ?_
          exact Ev.ret rfl rfl (by rw [hQ]; exact ⟨thp18, Hhp18, Fhp18, bs_an0, sf_S_nil, (fun a ha => by
                  cases ha
                  obtain ⟨f2, j2, HL, Q4, Q2⟩ := LRES_neg XL (by omega)
                  have LO : 1 ≤ f2 := by have := lnx_ok (tok B n lim) s i; rw [HL] at this; exact this
                  exact ⟨z22, f2, s, rfl, Q4, Or.inr ⟨by omega, _, Q2, ⟨k4.toInt.toNat, i, LN, stp_bad (by omega) HL⟩⟩⟩)⟩)
        · skip
          obtain ⟨s2, j2, HL, S2, C2, N92, jm⟩ := LRES_pos XL (by omega)
          have LO : i + 2 ≤ j2 := by have := lnx_ok (tok B n lim) s i; rw [HL] at this; exact this
          refine Ev.step (j := 35) (s' := ([some (.ref a0), some (.ref 3), some (.int k4)], [.ref 3], (0, 0), hp18)) rfl rfl ?_
          refine bs_lit (k := 59) rfl rfl fun z23 hz23 => ?_
          refine bs_callx (K := kq_X9_takeSign_v) [.ref 3, .int z23] [] rfl ce_X9_takeSign_v Hhp18 rfl rfl rfl (bs_rcv (g := 9) Hhp18 (bs_R.uq Hhp18 (g := 9) rfl) (by decide) rfl) rfl ?_ (sf_S_nil) fun r24 hp25 thp25 Hhp25 fhp25 ahp25 php25 xhp25 => ?_
          · intro q k h
            match q, h with
            | 0, h => cases h; exact bs_jR (bs_R.uq Hhp18 (g := 9) rfl)
            | 1, h => cases h; exact sf_j0
            | q + 2, h => cases h
          obtain ⟨z26, rfl⟩ := bs_anI ahp25
          have rgz26 := n_range z26
          have Fhp25 := sf_fr_tr Fhp18 (sf_fr_wider (W := [(7, 7, 12), (9, 4, 9), (116, 0, 0), (117, 0, 0), (118, 0, 7), (119, 0, 47), (120, 0, 19), (121, 0, 19), (122, 0, 19)]) rfl fhp25)
          obtain ⟨uz26, vz26⟩ := bs_s1 (x := z26.toInt) rfl (php25 _ (List.mem_of_getElem? (i := 0) rfl))
          refine (show Ev _ 40 ([some (.ref a0), some (.ref 3), some (.int k4)], [.int z26], (0, 0), hp25) _ from ?_)
          obtain ⟨q3, rq3, XS⟩ := xhp25 _ B n lim m j2 rfl C2 jm
          obtain rfl := Value.int.inj (Option.some.inj rq3)
          have S3 := SC_fr Hhp18 (ra0.fr Fhp18) S2 fhp25 rfl rfl
          refine bs_ifne rfl (fun c27 => ?_) (fun c27 => ?_)
          · skip
            refine bs_iinc (1) rfl rfl rfl rfl (by omega) (by omega) fun z28 hz28 => ?_
            refine (show Ev _ 48 ([some (.ref a0), some (.ref 3), some (.int z28)], [], (0, 0), hp25) _ from ?_)
            refine Ev.step (j := 6) (s' := ([some (.ref a0), some (.ref 3), some (.int z28)], [], (0, 0), hp25)) rfl rfl ?_
            obtain ⟨Q1, Q2, Q3, Q4, Q5⟩ := XS.resolve_right (fun h => absurd h.1 (by omega))
            have INV : ∃ (s : PS) (i : Nat), lns (tok B n lim) z28.toInt.toNat = some (s, i) ∧ SC hp25 a0 s ∧ CK hp25 B n lim m i ∧ i < m ∧ sf_rd hp25 3 9 = some 0 ∧ 3 * z28.toInt.toNat ≤ i := ⟨s2, j2 + 1, by rw [show z28.toInt.toNat = k4.toInt.toNat + 1 by omega]; exact lns_next LN (by omega) HL (by omega), S3, Q4, CK_more Q4.1 jm (by omega) (by omega), Q5.trans N92, by omega⟩
            refine ih7 (z28, hp25, thp25) ⟨Hhp25, Fhp25, (by first | omega | assumption), (by exact INV)⟩ ?_
            show (901 - z28.toInt).toNat < (901 - k4.toInt).toNat
            omega
          · skip
            have c29 : z26.toInt = 0 := by omega
            refine bs_lit (k := -1) rfl rfl fun z30 hz30 => ?_
            exact Ev.ret rfl rfl (by rw [hQ]; exact ⟨thp25, Hhp25, Fhp25, bs_an0, sf_S_nil, (fun a ha => by
                    cases ha
                    obtain ⟨Q1, Q2, Q3, Q4⟩ := XS.resolve_left (fun h => absurd h.1 (by omega))
                    exact ⟨z30, 1, s, rfl, Q4, Or.inr ⟨by decide, _, Q2, ⟨k4.toInt.toNat, i, LN, stp_sign (by omega) HL (by omega)⟩⟩⟩)⟩)
      · skip
        have c31 : z15.toInt = 0 := by omega
        refine Ev.step (j := 25) (s' := ([some (.ref a0), some (.ref 3), some (.int k4)], [.int k4], (0, 0), hp14)) rfl rfl ?_
        exact Ev.ret rfl rfl (by rw [hQ]; exact ⟨thp14, Hhp14, Fhp14, bs_an0, sf_S_nil, (fun a ha => by
                cases ha
                exact ⟨k4, 0, s, rfl, N91, Or.inl ⟨rfl, ⟨k4.toInt.toNat, i, LN, (stp_end (by omega)).trans (congrArg some (Prod.ext (by show ((k4.toInt.toNat : Nat) : Int) = _; omega) rfl))⟩, S1⟩⟩)⟩)
end
