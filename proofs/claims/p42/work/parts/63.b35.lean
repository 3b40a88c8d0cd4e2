def kq_X11_strait_v : sf_Q := ([(1, 11, 0)], [], some (0, 0, 0), [(1, 36008, 0, 0, 0, 0)], [(11, 0, 0), (11, 2, 5), (11, 11, 20), (11, 25, 25), (132, 0, 433), (133, 0, 119), (135, 0, 0), (137, 0, 3), (999, 0, 0)])
def ke_X11_strait_v : List Value → ab_H → Option Value → ab_H → Prop := fun _ hp r hp' => ∀ n : Int, sf_rd hp 69 2 = some n → ∃ (z : Int32) (f : Int) (s : PS), r = some (.int z) ∧ ANS (tok (bv hp 70 n.toNat) n.toNat 900) z.toInt f s ∧ sf_rd hp' 69 2 = some 0
set_option maxRecDepth 100000 in
set_option maxHeartbeats 4000000 in
theorem cp_X11_strait_v : sf_cG kq_X11_strait_v Z_X11_strait (fun hp => RES hp) ke_X11_strait_v := by
  intro t hp as H hl hj hpre hG
  match as, hl with
  | [v0], _ =>
    obtain ⟨a0, rfl, ra0⟩ := bs_aR (hj 0 _ rfl)
    obtain rfl := ra0.eq H (p := 69) rfl
    clear hpre hj
    have F0 : sf_fr [(11, 0, 0), (11, 2, 5), (11, 11, 20), (11, 25, 25), (132, 0, 433), (133, 0, 119), (135, 0, 0), (137, 0, 3), (999, 0, 0)] t hp t hp := sf_fr_rf
    refine bs_finx (E := ke_X11_strait_v) (K := kq_X11_strait_v) (L := (L_X11_strait Z_X11_taken Z_X11_next Z_X11_line Z_X11_sign)) (nL := 2) (Nat.le_of_ble_eq_true rfl) ?_
    obtain ⟨Q, hQ⟩ : ∃ Q : ab_O → Prop, Q = (fun o => ∃ t', sf_h t' o.2 ∧ sf_fr (kq_X11_strait_v).2.2.2.2 t hp t' o.2 ∧ sf_an t' o.2.1 (kq_X11_strait_v).2.2.1 o.1 ∧ sf_S (sf_v1 o.1 [.ref 69] o.2) (kq_X11_strait_v).2.2.2.1 ∧ ke_X11_strait_v [.ref 69] hp o.1 o.2) := ⟨_, rfl⟩
    rw [← hQ]
    refine (show Ev (ab_T (L_X11_strait Z_X11_taken Z_X11_next Z_X11_line Z_X11_sign)) 0 ([some (.ref 69), none], [], (0, 0), hp) Q from ?_)
    obtain ⟨n0, hn0, ln0, un0⟩ := bs_fld (k := 2) H (bs_R.uq H (g := 11) rfl) (by decide) rfl
    obtain ⟨BB, hBB⟩ : ∃ BB : Nat → Int, BB = bv hp 70 n0.toNat := ⟨_, rfl⟩
    have EB : ∀ hp' : ab_H, (∀ q, sf_rd hp' 70 q = sf_rd hp 70 q) → bv hp' 70 n0.toNat = BB := fun hp' h => (bv_same h).trans hBB.symm
    have hR := hG
    refine Ev.step (j := 1) (s' := ([some (.ref 69), none], [.ref 69], (0, 0), hp)) rfl rfl ?_
    refine bs_lit (k := 0) rfl rfl fun z1 hz1 => ?_
    refine bs_putIv (W := [(11, 0, 0)]) (g := 11) rfl rfl H (bs_R.uq H (g := 11) rfl) (by decide) rfl rfl rfl rfl (Or.inl rfl) (by omega) (by omega) fun hp2 Hhp2 fhp2 rhp2 ehp2 qhp2 nhp2 => ?_
    have Fhp2 := sf_fr_tr F0 (sf_fr_wider (W := [(11, 0, 0), (11, 2, 5), (11, 11, 20), (11, 25, 25), (132, 0, 433), (133, 0, 119), (135, 0, 0), (137, 0, 3), (999, 0, 0)]) rfl fhp2)
    have h3 : sf_rd hp2 69 2 = some n0 := (ehp2 _ _ (Or.inr (by omega))).trans hn0
    refine Ev.step (j := 6) (s' := ([some (.ref 69), none], [.ref 69], (0, 0), hp2)) rfl rfl ?_
    refine bs_lit (k := 900) rfl rfl fun z4 hz4 => ?_
    refine Ev.inl (L := L_X11_taken) (nL := 2) rfl (bs_rcv (g := 11) Hhp2 (bs_R.uq Hhp2 (g := 11) rfl) (by decide) rfl) rfl (Nat.le_of_ble_eq_true rfl) ?_
    generalize hQ5 : (fun (o : ab_O) => Ev _ _ _ _) = Q5
    refine (show Ev (ab_T L_X11_taken) 0 ([some (.ref 69), some (.int z4)], [], (0, 0), hp2) Q5 from ?_)
    refine Ev.step (j := 1) (s' := ([some (.ref 69), some (.int z4)], [.ref 69], (0, 0), hp2)) rfl rfl ?_
    refine Ev.step (j := 2) (s' := ([some (.ref 69), some (.int z4)], [.ref 69, .ref 69], (0, 0), hp2)) rfl rfl ?_
    refine bs_getI 11 rfl rfl rfl Hhp2 (bs_R.uq Hhp2 (g := 11) rfl) (by decide) rfl fun z6 hz6 lz6 gz6 => ?_
    have e7 : z6.toInt = n0 := Option.some.inj (hz6.symm.trans h3)
    refine bs_putIv (W := [(11, 3, 3)]) (g := 11) rfl rfl Hhp2 (bs_R.uq Hhp2 (g := 11) rfl) (by decide) rfl rfl rfl rfl (Or.inl rfl) (by omega) (by omega) fun hp8 Hhp8 fhp8 rhp8 ehp8 qhp8 nhp8 => ?_
    have Fhp8 := sf_fr_tr Fhp2 (sf_fr_wider (W := [(11, 0, 0), (11, 2, 5), (11, 11, 20), (11, 25, 25), (132, 0, 433), (133, 0, 119), (135, 0, 0), (137, 0, 3), (999, 0, 0)]) rfl fhp8)
    have h9 : sf_rd hp8 69 2 = some n0 := (ehp8 _ _ (Or.inr (by omega))).trans h3
    have h10 : sf_rd hp8 69 0 = some z1.toInt := (ehp8 _ _ (Or.inr (by omega))).trans rhp2
    refine Ev.step (j := 9) (s' := ([some (.ref 69), some (.int z4)], [.ref 69], (0, 0), hp8)) rfl rfl ?_
    refine bs_lit (k := 0) rfl rfl fun z11 hz11 => ?_
    refine bs_putIv (W := [(11, 2, 2)]) (g := 11) rfl rfl Hhp8 (bs_R.uq Hhp8 (g := 11) rfl) (by decide) rfl rfl rfl rfl (Or.inl rfl) (by omega) (by omega) fun hp12 Hhp12 fhp12 rhp12 ehp12 qhp12 nhp12 => ?_
    have Fhp12 := sf_fr_tr Fhp8 (sf_fr_wider (W := [(11, 0, 0), (11, 2, 5), (11, 11, 20), (11, 25, 25), (132, 0, 433), (133, 0, 119), (135, 0, 0), (137, 0, 3), (999, 0, 0)]) rfl fhp12)
    have h13 : sf_rd hp12 69 0 = some z1.toInt := (ehp12 _ _ (Or.inr (by omega))).trans h10
    have h14 : sf_rd hp12 69 3 = some z6.toInt := (ehp12 _ _ (Or.inr (by omega))).trans rhp8
    refine Ev.step (j := 14) (s' := ([some (.ref 69), some (.int z4)], [.ref 69], (0, 0), hp12)) rfl rfl ?_
    refine bs_lit (k := 0) rfl rfl fun z15 hz15 => ?_
    refine bs_putIv (W := [(11, 4, 4), (999, 0, 0)]) (g := 11) rfl rfl Hhp12 (bs_R.uq Hhp12 (g := 11) rfl) (by decide) rfl rfl rfl rfl (Or.inl rfl) (by omega) (by omega) fun hp16 Hhp16 fhp16 rhp16 ehp16 qhp16 nhp16 => ?_
    have Fhp16 := sf_fr_tr Fhp12 (sf_fr_wider (W := [(11, 0, 0), (11, 2, 5), (11, 11, 20), (11, 25, 25), (132, 0, 433), (133, 0, 119), (135, 0, 0), (137, 0, 3), (999, 0, 0)]) rfl fhp16)
    have h17 : sf_rd hp16 69 0 = some z1.toInt := (ehp16 _ _ (Or.inr (by omega))).trans h13
    have h18 : sf_rd hp16 69 3 = some z6.toInt := (ehp16 _ _ (Or.inr (by omega))).trans h14
    have h19 : sf_rd hp16 69 2 = some z11.toInt := (ehp16 _ _ (Or.inr (by omega))).trans rhp12
    refine Ev.step (j := 19) (s' := ([some (.ref 69), some (.int z4)], [.ref 69], (0, 0), hp16)) rfl rfl ?_
    refine Ev.step (j := 20) (s' := ([some (.ref 69), some (.int z4)], [.int z4, .ref 69], (0, 0), hp16)) rfl rfl ?_
    refine bs_putIv (W := [(11, 5, 5)]) (g := 11) rfl rfl Hhp16 (bs_R.uq Hhp16 (g := 11) rfl) (by decide) rfl rfl rfl rfl (Or.inl rfl) (by omega) (by omega) fun hp20 Hhp20 fhp20 rhp20 ehp20 qhp20 nhp20 => ?_
    have Fhp20 := sf_fr_tr Fhp16 (sf_fr_wider (W := [(11, 0, 0), (11, 2, 5), (11, 11, 20), (11, 25, 25), (132, 0, 433), (133, 0, 119), (135, 0, 0), (137, 0, 3), (999, 0, 0)]) rfl fhp20)
    have h21 : sf_rd hp20 69 0 = some z1.toInt := (ehp20 _ _ (Or.inr (by omega))).trans h17
    have h22 : sf_rd hp20 69 3 = some z6.toInt := (ehp20 _ _ (Or.inr (by omega))).trans h18
    have h23 : sf_rd hp20 69 2 = some z11.toInt := (ehp20 _ _ (Or.inr (by omega))).trans h19
    have h24 : sf_rd hp20 69 4 = some z15.toInt := (ehp20 _ _ (Or.inr (by omega))).trans rhp16
    refine Ev.ret rfl rfl ?_
    rw [← hQ5]
    refine (show Ev _ 12 ([some (.ref 69), none], [], (0, 0), hp20) _ from ?_)
    refine Ev.step (j := 13) (s' := ([some (.ref 69), none], [.ref 69], (0, 0), hp20)) rfl rfl ?_
    refine bs_lit (k := 0) rfl rfl fun z25 hz25 => ?_
    refine bs_putIv (W := [(11, 15, 15)]) (g := 11) rfl rfl Hhp20 (bs_R.uq Hhp20 (g := 11) rfl) (by decide) rfl rfl rfl rfl (Or.inl rfl) (by omega) (by omega) fun hp26 Hhp26 fhp26 rhp26 ehp26 qhp26 nhp26 => ?_
    have Fhp26 := sf_fr_tr Fhp20 (sf_fr_wider (W := [(11, 0, 0), (11, 2, 5), (11, 11, 20), (11, 25, 25), (132, 0, 433), (133, 0, 119), (135, 0, 0), (137, 0, 3), (999, 0, 0)]) rfl fhp26)
    have h27 : sf_rd hp26 69 0 = some z1.toInt := (ehp26 _ _ (Or.inr (by omega))).trans h21
    have h28 : sf_rd hp26 69 3 = some z6.toInt := (ehp26 _ _ (Or.inr (by omega))).trans h22
    have h29 : sf_rd hp26 69 2 = some z11.toInt := (ehp26 _ _ (Or.inr (by omega))).trans h23
    have h30 : sf_rd hp26 69 4 = some z15.toInt := (ehp26 _ _ (Or.inr (by omega))).trans h24
    have h31 : sf_rd hp26 69 5 = some z4.toInt := (ehp26 _ _ (Or.inr (by omega))).trans rhp20
    refine Ev.step (j := 18) (s' := ([some (.ref 69), none], [.ref 69], (0, 0), hp26)) rfl rfl ?_
    refine bs_lit (k := 0) rfl rfl fun z32 hz32 => ?_
    refine bs_putIv (W := [(11, 19, 19)]) (g := 11) rfl rfl Hhp26 (bs_R.uq Hhp26 (g := 11) rfl) (by decide) rfl rfl rfl rfl (Or.inl rfl) (by omega) (by omega) fun hp33 Hhp33 fhp33 rhp33 ehp33 qhp33 nhp33 => ?_
    have Fhp33 := sf_fr_tr Fhp26 (sf_fr_wider (W := [(11, 0, 0), (11, 2, 5), (11, 11, 20), (11, 25, 25), (132, 0, 433), (133, 0, 119), (135, 0, 0), (137, 0, 3), (999, 0, 0)]) rfl fhp33)
    have h34 : sf_rd hp33 69 0 = some z1.toInt := (ehp33 _ _ (Or.inr (by omega))).trans h27
    have h35 : sf_rd hp33 69 3 = some z6.toInt := (ehp33 _ _ (Or.inr (by omega))).trans h28
    have h36 : sf_rd hp33 69 2 = some z11.toInt := (ehp33 _ _ (Or.inr (by omega))).trans h29
    have h37 : sf_rd hp33 69 4 = some z15.toInt := (ehp33 _ _ (Or.inr (by omega))).trans h30
    have h38 : sf_rd hp33 69 5 = some z4.toInt := (ehp33 _ _ (Or.inr (by omega))).trans h31
    have h39 : sf_rd hp33 69 15 = some z25.toInt := (ehp33 _ _ (Or.inr (by omega))).trans rhp26
    refine Ev.step (j := 23) (s' := ([some (.ref 69), none], [.ref 69], (0, 0), hp33)) rfl rfl ?_
    refine bs_lit (k := 0) rfl rfl fun z40 hz40 => ?_
    refine bs_putIv (W := [(11, 20, 20)]) (g := 11) rfl rfl Hhp33 (bs_R.uq Hhp33 (g := 11) rfl) (by decide) rfl rfl rfl rfl (Or.inr ⟨rfl, by omega, by omega⟩) (by omega) (by omega) fun hp41 Hhp41 fhp41 rhp41 ehp41 qhp41 nhp41 => ?_
    have Fhp41 := sf_fr_tr Fhp33 (sf_fr_wider (W := [(11, 0, 0), (11, 2, 5), (11, 11, 20), (11, 25, 25), (132, 0, 433), (133, 0, 119), (135, 0, 0), (137, 0, 3), (999, 0, 0)]) rfl fhp41)
    have h42 : sf_rd hp41 69 0 = some z1.toInt := (ehp41 _ _ (Or.inr (by omega))).trans h34
    have h43 : sf_rd hp41 69 3 = some z6.toInt := (ehp41 _ _ (Or.inr (by omega))).trans h35
    have h44 : sf_rd hp41 69 2 = some z11.toInt := (ehp41 _ _ (Or.inr (by omega))).trans h36
    have h45 : sf_rd hp41 69 4 = some z15.toInt := (ehp41 _ _ (Or.inr (by omega))).trans h37
    have h46 : sf_rd hp41 69 5 = some z4.toInt := (ehp41 _ _ (Or.inr (by omega))).trans h38
    have h47 : sf_rd hp41 69 15 = some z25.toInt := (ehp41 _ _ (Or.inr (by omega))).trans h39
    have h48 : sf_rd hp41 69 19 = some z32.toInt := (ehp41 _ _ (Or.inr (by omega))).trans rhp33
    refine bs_lit (k := 0) rfl rfl fun z49 hz49 => ?_
    refine Ev.step (j := 29) (s' := ([some (.ref 69), some (.int z49)], [], (0, 0), hp41)) rfl rfl ?_
    refine bs_loop (ι := Int32 × ab_H × (Nat → Nat)) (fun ⟨k50, hp51, t52⟩ => ([some (.ref 69), some (.int k50)], [], (0, 0), hp51)) (fun ⟨k50, hp51, t52⟩ => (sf_h t52 hp51) ∧ (sf_fr [(11, 0, 0), (11, 2, 5), (11, 11, 20), (11, 25, 25), (132, 0, 433), (133, 0, 119), (135, 0, 0), (137, 0, 3), (999, 0, 0)] t hp t52 hp51) ∧ (sf_rd hp51 69 2 = some z11.toInt) ∧ (sf_rd hp51 69 3 = some z6.toInt) ∧ (sf_rd hp51 69 4 = some z15.toInt) ∧ (sf_rd hp51 69 5 = some z4.toInt) ∧ (sf_rd hp51 69 19 = some z32.toInt) ∧ (sf_rd hp51 69 20 = some z40.toInt) ∧ (∀ j : Nat, (j : Int) < k50.toInt → sf_rd hp51 76 j = some 0) ∧ (0 ≤ k50.toInt ∧ k50.toInt ≤ 4)) (fun ⟨k50, hp51, t52⟩ => (4 - k50.toInt).toNat) ?_ (z49, hp41, t) ⟨Hhp41, Fhp41, h44, h43, h45, h46, h48, rhp41, (by first | exact INV | exact fun j h => absurd h (by omega)), (by first | omega | assumption)⟩
    rintro ⟨k50, hp51, t52⟩ ⟨Hhp51, Fhp51, i54, i55, i56, i57, i58, i59, i60, i61⟩ ih53
    refine (show Ev _ 29 ([some (.ref 69), some (.int k50)], [], (0, 0), hp51) _ from ?_)
    refine Ev.step (j := 30) (s' := ([some (.ref 69), some (.int k50)], [.int k50], (0, 0), hp51)) rfl rfl ?_
    refine bs_lit (k := 4) rfl rfl fun z62 hz62 => ?_
    refine bs_ge rfl (fun c63 => ?_) (fun c63 => ?_)
    · skip
      refine bs_lit (k := 0) rfl rfl fun z64 hz64 => ?_
      refine Ev.step (j := 49) (s' := ([some (.ref 69), some (.int z64)], [], (0, 0), hp51)) rfl rfl ?_
      have T6 : ∀ j : Nat, j < 4 → sf_rd hp51 76 j = some 0 := fun j hj => i60 j (by omega)
      refine bs_loop (ι := Int32 × ab_H × (Nat → Nat)) (fun ⟨k65, hp66, t67⟩ => ([some (.ref 69), some (.int k65)], [], (0, 0), hp66)) (fun ⟨k65, hp66, t67⟩ => (sf_h t67 hp66) ∧ (sf_fr [(11, 0, 0), (11, 2, 5), (11, 11, 20), (11, 25, 25), (132, 0, 433), (133, 0, 119), (135, 0, 0), (137, 0, 3), (999, 0, 0)] t hp t67 hp66) ∧ (sf_rd hp66 69 2 = some z11.toInt) ∧ (sf_rd hp66 69 3 = some z6.toInt) ∧ (sf_rd hp66 69 4 = some z15.toInt) ∧ (sf_rd hp66 69 5 = some z4.toInt) ∧ (sf_rd hp66 69 19 = some z32.toInt) ∧ (sf_rd hp66 69 20 = some z40.toInt) ∧ (∀ j : Nat, (j : Int) < k65.toInt → sf_rd hp66 72 j = some 0) ∧ (∀ j : Nat, j < 4 → sf_rd hp66 76 j = some 0) ∧ (0 ≤ k65.toInt ∧ k65.toInt ≤ 120)) (fun ⟨k65, hp66, t67⟩ => (120 - k65.toInt).toNat) ?_ (z64, hp51, t52) ⟨Hhp51, Fhp51, i54, i55, i56, i57, i58, i59, (by first | exact INV | exact fun j h => absurd h (by omega)), (by exact T6), (by first | omega | assumption)⟩
      rintro ⟨k65, hp66, t67⟩ ⟨Hhp66, Fhp66, i69, i70, i71, i72, i73, i74, i75, i76, i77⟩ ih68
      refine (show Ev _ 49 ([some (.ref 69), some (.int k65)], [], (0, 0), hp66) _ from ?_)
      refine Ev.step (j := 50) (s' := ([some (.ref 69), some (.int k65)], [.int k65], (0, 0), hp66)) rfl rfl ?_
      refine bs_lit (k := 120) rfl rfl fun z78 hz78 => ?_
      refine bs_ge rfl (fun c79 => ?_) (fun c79 => ?_)
      · skip
        refine Ev.step (j := 69) (s' := ([some (.ref 69), some (.int k65)], [.ref 69], (0, 0), hp66)) rfl rfl ?_
        refine bs_getU (g := 11) (g1 := 133) rfl rfl Hhp66 (bs_R.uq Hhp66 (g := 11) rfl) (by decide) rfl rfl ?_
        refine bs_lit (k := 2) rfl rfl fun z80 hz80 => ?_
        refine bs_lit (k := 10) rfl rfl fun z81 hz81 => ?_
        refine bs_stv (W := [(133, 2, 2)]) (g := 133) 2 2 (0, 40) rfl Hhp66 (bs_R.uq Hhp66 (g := 133) rfl) (by decide) rfl rfl (by decide) rfl rfl (by omega) (by omega) (by dsimp only; omega) (by dsimp only; omega) fun hp82 Hhp82 fhp82 rhp82 ehp82 qhp82 nhp82 => ?_
        replace rhp82 := bs_at rhp82 (show z80.toInt.toNat = 2 by omega)
        have Fhp82 := sf_fr_tr Fhp66 (sf_fr_wider (W := [(11, 0, 0), (11, 2, 5), (11, 11, 20), (11, 25, 25), (132, 0, 433), (133, 0, 119), (135, 0, 0), (137, 0, 3), (999, 0, 0)]) rfl fhp82)
        have h83 : sf_rd hp82 69 2 = some z11.toInt := (ehp82 _ _ (Or.inl (by decide))).trans i69
        have h84 : sf_rd hp82 69 3 = some z6.toInt := (ehp82 _ _ (Or.inl (by decide))).trans i70
        have h85 : sf_rd hp82 69 4 = some z15.toInt := (ehp82 _ _ (Or.inl (by decide))).trans i71
        have h86 : sf_rd hp82 69 5 = some z4.toInt := (ehp82 _ _ (Or.inl (by decide))).trans i72
        have h87 : sf_rd hp82 69 19 = some z32.toInt := (ehp82 _ _ (Or.inl (by decide))).trans i73
        have h88 : sf_rd hp82 69 20 = some z40.toInt := (ehp82 _ _ (Or.inl (by decide))).trans i74
        have SR0 : SR hp82 s0 := SR_0 (fun j h1 h2 => (ehp82 _ _ (Or.inr (by omega))).trans (i75 j (by omega))) (rhp82.trans (congrArg some (by omega))) (h88.trans (congrArg some (by omega))) (fun j hj => (ehp82 _ _ (Or.inl (by decide))).trans (i76 j hj))
        have R77 := RES_fr H Fhp82 rfl hR
        refine Ev.step (j := 77) (s' := ([some (.ref 69), some (.int k65)], [.ref 69], (0, 0), hp82)) rfl rfl ?_
        refine bs_callx (K := kq_X11_next_v) [.ref 69] [] rfl ce_X11_next_v Hhp82 rfl rfl rfl (bs_rcv (g := 11) Hhp82 (bs_R.uq Hhp82 (g := 11) rfl) (by decide) rfl) rfl ?_ (sf_S_nil) fun r89 hp90 thp90 Hhp90 fhp90 ahp90 php90 xhp90 => ?_
        · intro q k h
          match q, h with
          | 0, h => cases h; exact bs_jR (bs_R.uq Hhp82 (g := 11) rfl)
          | q + 1, h => cases h
        obtain rfl := ahp90.1 rfl
        have Fhp90 := sf_fr_tr Fhp82 (sf_fr_wider (W := [(11, 0, 0), (11, 2, 5), (11, 11, 20), (11, 25, 25), (132, 0, 433), (133, 0, 119), (135, 0, 0), (137, 0, 3), (999, 0, 0)]) rfl fhp90)
        have h91 : sf_rd hp90 69 2 = some z11.toInt := (fhp90.2.2.1 _ (bs_R.uq Hhp82 (g := 11) (p := 69) rfl).1 _ (by rw [(bs_R.uq Hhp82 (g := 11) (p := 69) rfl).2]; rfl)).trans h83
        have h92 : sf_rd hp90 69 3 = some z6.toInt := (fhp90.2.2.1 _ (bs_R.uq Hhp82 (g := 11) (p := 69) rfl).1 _ (by rw [(bs_R.uq Hhp82 (g := 11) (p := 69) rfl).2]; rfl)).trans h84
        have h93 : sf_rd hp90 69 5 = some z4.toInt := (fhp90.2.2.1 _ (bs_R.uq Hhp82 (g := 11) (p := 69) rfl).1 _ (by rw [(bs_R.uq Hhp82 (g := 11) (p := 69) rfl).2]; rfl)).trans h86
        have h94 : sf_rd hp90 69 19 = some z32.toInt := (fhp90.2.2.1 _ (bs_R.uq Hhp82 (g := 11) (p := 69) rfl).1 _ (by rw [(bs_R.uq Hhp82 (g := 11) (p := 69) rfl).2]; rfl)).trans h87
        have h95 : sf_rd hp90 69 20 = some z40.toInt := (fhp90.2.2.1 _ (bs_R.uq Hhp82 (g := 11) (p := 69) rfl).1 _ (by rw [(bs_R.uq Hhp82 (g := 11) (p := 69) rfl).2]; rfl)).trans h88
        have h96 : sf_rd hp90 72 2 = some z81.toInt := (fhp90.2.2.1 _ (bs_R.uq Hhp82 (g := 133) (p := 72) rfl).1 _ (by rw [(bs_R.uq Hhp82 (g := 133) (p := 72) rfl).2]; rfl)).trans rhp82
        refine (show Ev _ 80 ([some (.ref 69), some (.int k65)], [], (0, 0), hp90) _ from ?_)
        have NX := (xhp90 _ _ _ h85 h84 h86).2 (by omega)
        rw [show (z6.toInt).toNat = n0.toNat by omega, EB _ (fun q => Fhp82.2.2.1 _ (bs_R.uq H (g := 131) (p := 70) rfl).1 _ (by rw [(bs_R.uq H (g := 131) (p := 70) rfl).2]; rfl)), show (z4.toInt).toNat = 900 by omega, show (z15.toInt).toNat = 0 by omega] at NX
        have RK0 : RK hp90 BB n0.toNat 900 0 := ⟨NX, h92.trans (congrArg some (by omega)), h93.trans (congrArg some (by show _ = (900 : Int); omega)), EB _ (fun q => Fhp90.2.2.1 _ (bs_R.uq H (g := 131) (p := 70) rfl).1 _ (by rw [(bs_R.uq H (g := 131) (p := 70) rfl).2]; rfl))⟩
        have SR1 := SR_fr Hhp82 fhp90 rfl rfl rfl rfl SR0
        have RES1 := RES_fr Hhp82 fhp90 rfl R77
        have INV : ∃ (s : PS) (i l : Nat), sf_rd hp90 69 19 = some (l : Int) ∧ lns (tok BB n0.toNat 900) l = some (s, i) ∧ SR hp90 s ∧ RK hp90 BB n0.toNat 900 i ∧ RES hp90 ∧ l ≤ tps BB n0.toNat 900 i := ⟨s0, 0, 0, h94.trans (congrArg some (by show _ = (0 : Int); omega)), rfl, SR1, RK0, RES1, Nat.zero_le _⟩
        refine bs_loop (ι := ab_H × (Nat → Nat)) (fun ⟨hp97, t98⟩ => ([some (.ref 69), some (.int k65)], [], (0, 0), hp97)) (fun ⟨hp97, t98⟩ => (sf_h t98 hp97) ∧ (sf_fr [(11, 0, 0), (11, 2, 5), (11, 11, 20), (11, 25, 25), (132, 0, 433), (133, 0, 119), (135, 0, 0), (137, 0, 3), (999, 0, 0)] t hp t98 hp97) ∧ (sf_rd hp97 69 2 = some z11.toInt) ∧ (∃ (s : PS) (i l : Nat), sf_rd hp97 69 19 = some (l : Int) ∧ lns (tok BB n0.toNat 900) l = some (s, i) ∧ SR hp97 s ∧ RK hp97 BB n0.toNat 900 i ∧ RES hp97 ∧ l ≤ tps BB n0.toNat 900 i)) (fun ⟨hp97, t98⟩ => (sf_psi hp97).toNat) ?_ (hp90, thp90) ⟨Hhp90, Fhp90, h91, (by exact INV)⟩
        rintro ⟨hp97, t98⟩ ⟨Hhp97, Fhp97, i100, i101⟩ ih99
        clear INV
        refine (show Ev _ 80 ([some (.ref 69), some (.int k65)], [], (0, 0), hp97) _ from ?_)
        obtain ⟨s, i, l, L19, LN, S0, K0, R0, LB⟩ := i101
        have tn0 : tps BB n0.toNat 900 i ≤ n0.toNat := tps_n i
        refine Ev.step (j := 81) (s' := ([some (.ref 69), some (.int k65)], [.ref 69], (0, 0), hp97)) rfl rfl ?_
        refine bs_getI 11 rfl rfl rfl Hhp97 (bs_R.uq Hhp97 (g := 11) rfl) (by decide) rfl fun z102 hz102 lz102 gz102 => ?_
        have KK := RK_k K0 hz102
        refine bs_ifeq rfl (fun c103 => ?_) (fun c103 => ?_)
        · skip
          have c104 : z102.toInt = 0 := by omega
          refine bs_lit (k := 0) rfl rfl fun z105 hz105 => ?_
          refine Ev.step (j := 125) (s' := ([some (.ref 69), some (.int z105)], [], (0, 0), hp97)) rfl rfl ?_
          obtain ⟨n69, fl, e69, hfl⟩ := fl_get Hhp97
          obtain ⟨n71, f71, e71, KA71⟩ := ar_get Hhp97 132 71 434 rfl (by decide) rfl rfl
          obtain ⟨n72, f72, e72, KA72⟩ := ar_get Hhp97 133 72 120 rfl (by decide) rfl rfl
          refine Ev.hp (show hp97 = ab_up hp97 71 (.inl (1, 434, .inl (cpf f71 (fun i => if i < 120 then f72 i else 0) 0 0))) by rw [cpf_0]; exact ab_up_same e71) ?_
          refine cp_loop (N := 434) (fun zz nn => ([some (.ref 69), some (.int zz)], [], (0, 0), (ab_up hp97 71 (.inl (1, 434, .inl (cpf f71 (fun i => if i < 120 then f72 i else 0) 0 nn)))))) ?_ ?_ z105 (by omega)
          · intro nn zz hnn hzz ih
            refine (show Ev _ 125 ([some (.ref 69), some (.int zz)], [], (0, 0), (ab_up hp97 71 (.inl (1, 434, .inl (cpf f71 (fun i => if i < 120 then f72 i else 0) 0 nn))))) _ from ?_)
            have m69 : (ab_up hp97 71 (.inl (1, 434, .inl (cpf f71 (fun i => if i < 120 then f72 i else 0) 0 nn)))).2 69 = .inr (11, fl) := (ab_up_ne (by decide)).trans e69
            have m72 : (ab_up hp97 71 (.inl (1, 434, .inl (cpf f71 (fun i => if i < 120 then f72 i else 0) 0 nn)))).2 72 = .inl (1, 120, .inl f72) := (ab_up_ne (by decide)).trans e72
            refine Ev.step (j := 126) (s' := ([some (.ref 69), some (.int zz)], [.int zz], (0, 0), (ab_up hp97 71 (.inl (1, 434, .inl (cpf f71 (fun i => if i < 120 then f72 i else 0) 0 nn)))))) rfl rfl ?_
            refine bs_lit (k := 434) rfl rfl fun z106 hz106 => ?_
            refine bs_ge rfl (fun c107 => ?_) (fun c107 => ?_)
            · exfalso; omega
            · skip
              refine Ev.step (j := 133) (s' := ([some (.ref 69), some (.int zz)], [.ref 69], (0, 0), (ab_up hp97 71 (.inl (1, 434, .inl (cpf f71 (fun i => if i < 120 then f72 i else 0) 0 nn)))))) rfl rfl ?_
              refine Ev.getf rfl n69 m69 (hfl 6 132 71 rfl rfl) ?_
              refine (show Ev _ 136 ([some (.ref 69), some (.int zz)], [.ref 71], (0, 0), (ab_up hp97 71 (.inl (1, 434, .inl (cpf f71 (fun i => if i < 120 then f72 i else 0) 0 nn))))) _ from ?_)
              refine Ev.step (j := 137) (s' := ([some (.ref 69), some (.int zz)], [.int zz, .ref 71], (0, 0), (ab_up hp97 71 (.inl (1, 434, .inl (cpf f71 (fun i => if i < 120 then f72 i else 0) 0 nn)))))) rfl rfl ?_
              refine Ev.step (j := 138) (s' := ([some (.ref 69), some (.int zz)], [.int zz, .int zz, .ref 71], (0, 0), (ab_up hp97 71 (.inl (1, 434, .inl (cpf f71 (fun i => if i < 120 then f72 i else 0) 0 nn)))))) rfl rfl ?_
              refine bs_lit (k := 120) rfl rfl fun z108 hz108 => ?_
              refine bs_ge rfl (fun c109 => ?_) (fun c109 => ?_)
              · skip
                refine bs_lit (k := 0) rfl rfl fun z110 hz110 => ?_
                refine Ev.ast rfl n71 (ab_up_eq _ _ _) (n_in (by omega) (by omega)) ?_
                refine Ev.hp (cpf_up (n_at (by omega)) (by show _ = if nn < 120 then f72 nn else 0; rw [if_neg (by omega)]; exact Int32.toInt_inj.mp (hz110.trans rfl))) ?_
                refine bs_iinc (1) rfl rfl rfl rfl (by omega) (by omega) fun z111 hz111 => ?_
                refine (show Ev _ 157 ([some (.ref 69), some (.int z111)], [], (0, 0), (ab_up hp97 71 (.inl (1, 434, .inl (cpf f71 (fun i => if i < 120 then f72 i else 0) 0 (nn + 1)))))) _ from ?_)
                refine Ev.step (j := 125) (s' := ([some (.ref 69), some (.int z111)], [], (0, 0), (ab_up hp97 71 (.inl (1, 434, .inl (cpf f71 (fun i => if i < 120 then f72 i else 0) 0 (nn + 1))))))) rfl rfl ?_
                exact ih z111 (by omega)
              · skip
                refine Ev.step (j := 144) (s' := ([some (.ref 69), some (.int zz)], [.ref 69, .int zz, .ref 71], (0, 0), (ab_up hp97 71 (.inl (1, 434, .inl (cpf f71 (fun i => if i < 120 then f72 i else 0) 0 nn)))))) rfl rfl ?_
                refine Ev.getf rfl n69 m69 (hfl 7 133 72 rfl rfl) ?_
                refine (show Ev _ 147 ([some (.ref 69), some (.int zz)], [.ref 72, .int zz, .ref 71], (0, 0), (ab_up hp97 71 (.inl (1, 434, .inl (cpf f71 (fun i => if i < 120 then f72 i else 0) 0 nn))))) _ from ?_)
                refine Ev.step (j := 148) (s' := ([some (.ref 69), some (.int zz)], [.int zz, .ref 72, .int zz, .ref 71], (0, 0), (ab_up hp97 71 (.inl (1, 434, .inl (cpf f71 (fun i => if i < 120 then f72 i else 0) 0 nn)))))) rfl rfl ?_
                refine Ev.ald rfl n72 m72 (n_in (by omega) (by omega)) ?_
                refine (show Ev _ 149 ([some (.ref 69), some (.int zz)], [.int (f72 zz.toNatClampNeg), .int zz, .ref 71], (0, 0), (ab_up hp97 71 (.inl (1, 434, .inl (cpf f71 (fun i => if i < 120 then f72 i else 0) 0 nn))))) _ from ?_)
                refine Ev.step (j := 153) (s' := ([some (.ref 69), some (.int zz)], [.int (f72 zz.toNatClampNeg), .int zz, .ref 71], (0, 0), (ab_up hp97 71 (.inl (1, 434, .inl (cpf f71 (fun i => if i < 120 then f72 i else 0) 0 nn)))))) rfl rfl ?_
                refine Ev.ast rfl n71 (ab_up_eq _ _ _) (n_in (by omega) (by omega)) ?_
                refine Ev.hp (cpf_up (n_at (by omega)) (by show _ = if nn < 120 then f72 nn else 0; rw [if_pos (by omega), n_at (z := zz) hzz])) ?_
                refine bs_iinc (1) rfl rfl rfl rfl (by omega) (by omega) fun z112 hz112 => ?_
                refine (show Ev _ 157 ([some (.ref 69), some (.int z112)], [], (0, 0), (ab_up hp97 71 (.inl (1, 434, .inl (cpf f71 (fun i => if i < 120 then f72 i else 0) 0 (nn + 1)))))) _ from ?_)
                refine Ev.step (j := 125) (s' := ([some (.ref 69), some (.int z112)], [], (0, 0), (ab_up hp97 71 (.inl (1, 434, .inl (cpf f71 (fun i => if i < 120 then f72 i else 0) 0 (nn + 1))))))) rfl rfl ?_
                exact ih z112 (by omega)
          · intro zz hzz
            refine (show Ev _ 125 ([some (.ref 69), some (.int zz)], [], (0, 0), (ab_up hp97 71 (.inl (1, 434, .inl (cpf f71 (fun i => if i < 120 then f72 i else 0) 0 434))))) _ from ?_)
            have m69 : (ab_up hp97 71 (.inl (1, 434, .inl (cpf f71 (fun i => if i < 120 then f72 i else 0) 0 434)))).2 69 = .inr (11, fl) := (ab_up_ne (by decide)).trans e69
            refine Ev.step (j := 126) (s' := ([some (.ref 69), some (.int zz)], [.int zz], (0, 0), (ab_up hp97 71 (.inl (1, 434, .inl (cpf f71 (fun i => if i < 120 then f72 i else 0) 0 434)))))) rfl rfl ?_
            refine bs_lit (k := 434) rfl rfl fun z113 hz113 => ?_
            refine bs_ge rfl (fun c114 => ?_) (fun c114 => ?_)
            · skip
              have EK : ∀ q, q < 434 → sf_v t98 hp97.1 (sf_e (sf_A 132).2.2 q) (.int ((cpf f71 (fun i => if i < 120 then f72 i else 0) 0 434) q)) := by
                intro q hq
                by_cases c : 0 ≤ q ∧ q < 0 + 434
                · rw [cpf_in c.1 c.2]
                  show sf_v _ _ _ (.int (if q - 0 < 120 then f72 (q - 0) else 0))
                  by_cases c2 : q - 0 < 120
                  · rw [if_pos c2]
                    have h := KA72 (q - 0) c2
                    rw [← sg_133 (q - 0) c2] at h
                    exact h
                  · rw [if_neg c2]
                    exact sg_z q hq
                · rw [cpf_out (by omega)]
                  exact KA71 q hq
              have I3 := Hhp97.2.2.2.2.2
              have E3 : sf_I3 (ab_up hp97 71 (.inl (1, 434, .inl (cpf f71 (fun i => if i < 120 then f72 i else 0) 0 434)))) := by
                exact ⟨cd_ok_0 (by rw [cd_up (by decide), cpf_in (by decide) (by decide)]; rfl), by rw [cd_ne (by decide)]; exact I3.2.1, by rw [cd_ne (by decide)]; exact I3.2.2⟩
              obtain ⟨Hhp115, fhp115⟩ := cp_end (a := 71) (len := 434) (f' := (cpf f71 (fun i => if i < 120 then f72 i else 0) 0 434)) (i0 := 0) (i1 := 433) Hhp97 (bs_R.uq Hhp97 (g := 132) rfl) (by decide) rfl rfl e71 EK (by decide) (fun q hq => cpf_out (by omega)) E3
              clear EK E3 I3
              obtain ⟨hp115, qhp115⟩ : ∃ x, x = (ab_up hp97 71 (.inl (1, 434, .inl (cpf f71 (fun i => if i < 120 then f72 i else 0) 0 434)))) := ⟨_, rfl⟩
              rw [← qhp115] at Hhp115 fhp115
              rw [← qhp115]
              have Fhp115 := sf_fr_tr Fhp97 (sf_fr_wider (W := [(11, 0, 0), (11, 2, 5), (11, 11, 20), (11, 25, 25), (132, 0, 433), (133, 0, 119), (135, 0, 0), (137, 0, 3), (999, 0, 0)]) rfl fhp115)
              have h116 : sf_rd hp115 69 2 = some z11.toInt := (fhp115.2.2.1 _ (bs_R.uq Hhp97 (g := 11) (p := 69) rfl).1 _ (by rw [(bs_R.uq Hhp97 (g := 11) (p := 69) rfl).2]; rfl)).trans i100
              have h117 : sf_rd hp115 69 19 = some (l : Int) := (fhp115.2.2.1 _ (bs_R.uq Hhp97 (g := 11) (p := 69) rfl).1 _ (by rw [(bs_R.uq Hhp97 (g := 11) (p := 69) rfl).2]; rfl)).trans L19
              have h118 : sf_rd hp115 69 11 = some z102.toInt := (fhp115.2.2.1 _ (bs_R.uq Hhp97 (g := 11) (p := 69) rfl).1 _ (by rw [(bs_R.uq Hhp97 (g := 11) (p := 69) rfl).2]; rfl)).trans hz102
              refine bs_lit (k := 0) rfl rfl fun z119 hz119 => ?_
              refine Ev.step (j := 162) (s' := ([some (.ref 69), some (.int z119)], [], (0, 0), hp115)) rfl rfl ?_
              refine bs_loop (ι := Int32 × ab_H × (Nat → Nat)) (fun ⟨k120, hp121, t122⟩ => ([some (.ref 69), some (.int k120)], [], (0, 0), hp121)) (fun ⟨k120, hp121, t122⟩ => (sf_h t122 hp121) ∧ (sf_fr [(11, 0, 0), (11, 2, 5), (11, 11, 20), (11, 25, 25), (132, 0, 433), (133, 0, 119), (135, 0, 0), (137, 0, 3), (999, 0, 0)] t hp t122 hp121) ∧ (sf_rd hp121 69 2 = some z11.toInt) ∧ (sf_rd hp121 69 19 = some (l : Int)) ∧ (0 ≤ k120.toInt ∧ k120.toInt ≤ 14)) (fun ⟨k120, hp121, t122⟩ => (14 - k120.toInt).toNat) ?_ (z119, hp115, t98) ⟨Hhp115, Fhp115, h116, h117, (by first | omega | assumption)⟩
              rintro ⟨k120, hp121, t122⟩ ⟨Hhp121, Fhp121, i124, i125, i126⟩ ih123
              refine (show Ev _ 162 ([some (.ref 69), some (.int k120)], [], (0, 0), hp121) _ from ?_)
              refine Ev.step (j := 163) (s' := ([some (.ref 69), some (.int k120)], [.int k120], (0, 0), hp121)) rfl rfl ?_
              refine bs_lit (k := 14) rfl rfl fun z127 hz127 => ?_
              refine bs_ge rfl (fun c128 => ?_) (fun c128 => ?_)
              · skip
                refine bs_lit (k := 0) rfl rfl fun z129 hz129 => ?_
                refine Ev.step (j := 191) (s' := ([some (.ref 69), some (.int z129)], [], (0, 0), hp121)) rfl rfl ?_
                refine bs_loop (ι := Int32 × ab_H × (Nat → Nat)) (fun ⟨k130, hp131, t132⟩ => ([some (.ref 69), some (.int k130)], [], (0, 0), hp131)) (fun ⟨k130, hp131, t132⟩ => (sf_h t132 hp131) ∧ (sf_fr [(11, 0, 0), (11, 2, 5), (11, 11, 20), (11, 25, 25), (132, 0, 433), (133, 0, 119), (135, 0, 0), (137, 0, 3), (999, 0, 0)] t hp t132 hp131) ∧ (sf_rd hp131 69 2 = some z11.toInt) ∧ (sf_rd hp131 69 19 = some (l : Int)) ∧ (0 ≤ k130.toInt ∧ k130.toInt ≤ 12)) (fun ⟨k130, hp131, t132⟩ => (12 - k130.toInt).toNat) ?_ (z129, hp121, t122) ⟨Hhp121, Fhp121, i124, i125, (by first | omega | assumption)⟩
                rintro ⟨k130, hp131, t132⟩ ⟨Hhp131, Fhp131, i134, i135, i136⟩ ih133
                refine (show Ev _ 191 ([some (.ref 69), some (.int k130)], [], (0, 0), hp131) _ from ?_)
                refine Ev.step (j := 192) (s' := ([some (.ref 69), some (.int k130)], [.int k130], (0, 0), hp131)) rfl rfl ?_
                refine bs_lit (k := 12) rfl rfl fun z137 hz137 => ?_
                refine bs_ge rfl (fun c138 => ?_) (fun c138 => ?_)
                · skip
                  refine bs_lit (k := 0) rfl rfl fun z139 hz139 => ?_
                  refine Ev.step (j := 222) (s' := ([some (.ref 69), some (.int z139)], [], (0, 0), hp131)) rfl rfl ?_
                  refine bs_loop (ι := Int32 × ab_H × (Nat → Nat)) (fun ⟨k140, hp141, t142⟩ => ([some (.ref 69), some (.int k140)], [], (0, 0), hp141)) (fun ⟨k140, hp141, t142⟩ => (sf_h t142 hp141) ∧ (sf_fr [(11, 0, 0), (11, 2, 5), (11, 11, 20), (11, 25, 25), (132, 0, 433), (133, 0, 119), (135, 0, 0), (137, 0, 3), (999, 0, 0)] t hp t142 hp141) ∧ (sf_rd hp141 69 2 = some z11.toInt) ∧ (sf_rd hp141 69 19 = some (l : Int)) ∧ (0 ≤ k140.toInt ∧ k140.toInt ≤ 8)) (fun ⟨k140, hp141, t142⟩ => (8 - k140.toInt).toNat) ?_ (z139, hp131, t132) ⟨Hhp131, Fhp131, i134, i135, (by first | omega | assumption)⟩
                  rintro ⟨k140, hp141, t142⟩ ⟨Hhp141, Fhp141, i144, i145, i146⟩ ih143
                  refine (show Ev _ 222 ([some (.ref 69), some (.int k140)], [], (0, 0), hp141) _ from ?_)
                  refine Ev.step (j := 223) (s' := ([some (.ref 69), some (.int k140)], [.int k140], (0, 0), hp141)) rfl rfl ?_
                  refine bs_lit (k := 8) rfl rfl fun z147 hz147 => ?_
                  refine bs_ge rfl (fun c148 => ?_) (fun c148 => ?_)
                  · skip
                    refine Ev.step (j := 254) (s' := ([some (.ref 69), some (.int k140)], [.ref 69], (0, 0), hp141)) rfl rfl ?_
                    refine bs_lit (k := 0) rfl rfl fun z149 hz149 => ?_
                    refine bs_putIv (W := [(11, 25, 25)]) (g := 11) rfl rfl Hhp141 (bs_R.uq Hhp141 (g := 11) rfl) (by decide) rfl rfl rfl rfl (Or.inl rfl) (by omega) (by omega) fun hp150 Hhp150 fhp150 rhp150 ehp150 qhp150 nhp150 => ?_
                    have Fhp150 := sf_fr_tr Fhp141 (sf_fr_wider (W := [(11, 0, 0), (11, 2, 5), (11, 11, 20), (11, 25, 25), (132, 0, 433), (133, 0, 119), (135, 0, 0), (137, 0, 3), (999, 0, 0)]) rfl fhp150)
                    have h151 : sf_rd hp150 69 2 = some z11.toInt := (ehp150 _ _ (Or.inr (by omega))).trans i144
                    have h152 : sf_rd hp150 69 19 = some (l : Int) := (ehp150 _ _ (Or.inr (by omega))).trans i145
                    refine Ev.step (j := 259) (s' := ([some (.ref 69), some (.int k140)], [.ref 69], (0, 0), hp150)) rfl rfl ?_
                    refine bs_getI 11 rfl rfl rfl Hhp150 (bs_R.uq Hhp150 (g := 11) rfl) (by decide) rfl fun z153 hz153 lz153 gz153 => ?_
                    have e154 : z153.toInt = (l : Int) := Option.some.inj (hz153.symm.trans h152)
                    exact Ev.ret rfl rfl (by rw [hQ]; exact ⟨t142, Hhp150, Fhp150, bs_an0, sf_S_cons (sf_s1 (x := z11.toInt) (show sf_v1 _ _ _ 36008 = _ from h151) (by omega) (by omega)) (sf_S_nil), (fun n hn_ => by
                            have eqN : n = n0 := Option.some.inj (hn_.symm.trans hn0); subst eqN; rw [← hBB]
                            have K00 : (tok BB n.toNat 900 i).k = 0 := rkk_0 (by omega)
                            exact ⟨z153, 0, s, rfl, ⟨l, i, LN, (stp_end K00).trans (congrArg some (Prod.ext (by show (l : Int) = _; omega) rfl))⟩, h151.trans (congrArg some (by omega))⟩)⟩)
                  · skip
                    refine Ev.step (j := 229) (s' := ([some (.ref 69), some (.int k140)], [.ref 69], (0, 0), hp141)) rfl rfl ?_
                    refine bs_getU (g := 11) (g1 := 132) rfl rfl Hhp141 (bs_R.uq Hhp141 (g := 11) rfl) (by decide) rfl rfl ?_
                    refine bs_lit (k := 172) rfl rfl fun z155 hz155 => ?_
                    refine Ev.step (j := 236) (s' := ([some (.ref 69), some (.int k140)], [.int k140, .int z155, .ref 71], (0, 0), hp141)) rfl rfl ?_
                    first | (refine bs_add rfl (by omega) (by omega) fun z156 hz156 => ?_) | (refine bs_any rfl fun z156 => ?_)
                    have rz156 := n_range z156
                    refine Ev.step (j := 238) (s' := ([some (.ref 69), some (.int k140)], [.ref 69, .int z156, .ref 71], (0, 0), hp141)) rfl rfl ?_
                    refine bs_getU (g := 11) (g1 := 132) rfl rfl Hhp141 (bs_R.uq Hhp141 (g := 11) rfl) (by decide) rfl rfl ?_
                    refine bs_lit (k := 52) rfl rfl fun z157 hz157 => ?_
                    refine Ev.step (j := 244) (s' := ([some (.ref 69), some (.int k140)], [.int k140, .int z157, .ref 71, .int z156, .ref 71], (0, 0), hp141)) rfl rfl ?_
                    first | (refine bs_add rfl (by omega) (by omega) fun z158 hz158 => ?_) | (refine bs_any rfl fun z158 => ?_)
                    have rz158 := n_range z158
                    refine bs_ld (g := 132) 52 59 (-2147483648, 2147483647) rfl Hhp141 (bs_R.uq Hhp141 (g := 132) rfl) (by decide) rfl (by decide) (by decide) rfl (by decide) (by omega) (by omega) fun z159 hz159 lz159 gz159 => ?_
                    dsimp only at lz159 gz159
                    refine bs_stv (W := [(132, 172, 179)]) (g := 132) 172 179 (-2147483648, 2147483647) rfl Hhp141 (bs_R.uq Hhp141 (g := 132) rfl) (by decide) rfl rfl (by decide) rfl rfl (by omega) (by omega) (by dsimp only; omega) (by dsimp only; omega) fun hp160 Hhp160 fhp160 rhp160 ehp160 qhp160 nhp160 => ?_
                    have Fhp160 := sf_fr_tr Fhp141 (sf_fr_wider (W := [(11, 0, 0), (11, 2, 5), (11, 11, 20), (11, 25, 25), (132, 0, 433), (133, 0, 119), (135, 0, 0), (137, 0, 3), (999, 0, 0)]) rfl fhp160)
                    have h161 : sf_rd hp160 69 2 = some z11.toInt := (ehp160 _ _ (Or.inl (by decide))).trans i144
                    have h162 : sf_rd hp160 69 19 = some (l : Int) := (ehp160 _ _ (Or.inl (by decide))).trans i145
                    refine bs_iinc (1) rfl rfl rfl rfl (by omega) (by omega) fun z163 hz163 => ?_
                    refine (show Ev _ 250 ([some (.ref 69), some (.int z163)], [], (0, 0), hp160) _ from ?_)
                    refine Ev.step (j := 222) (s' := ([some (.ref 69), some (.int z163)], [], (0, 0), hp160)) rfl rfl ?_
                    refine ih143 (z163, hp160, t142) ⟨Hhp160, Fhp160, h161, h162, (by first | omega | assumption)⟩ ?_
                    show (8 - z163.toInt).toNat < (8 - k140.toInt).toNat
                    omega
                · skip
                  refine Ev.step (j := 198) (s' := ([some (.ref 69), some (.int k130)], [.ref 69], (0, 0), hp131)) rfl rfl ?_
                  refine bs_getU (g := 11) (g1 := 132) rfl rfl Hhp131 (bs_R.uq Hhp131 (g := 11) rfl) (by decide) rfl rfl ?_
                  refine bs_lit (k := 124) rfl rfl fun z164 hz164 => ?_
                  refine Ev.step (j := 204) (s' := ([some (.ref 69), some (.int k130)], [.int k130, .int z164, .ref 71], (0, 0), hp131)) rfl rfl ?_
                  first | (refine bs_add rfl (by omega) (by omega) fun z165 hz165 => ?_) | (refine bs_any rfl fun z165 => ?_)
                  have rz165 := n_range z165
                  refine Ev.step (j := 206) (s' := ([some (.ref 69), some (.int k130)], [.ref 69, .int z165, .ref 71], (0, 0), hp131)) rfl rfl ?_
                  refine bs_getU (g := 11) (g1 := 132) rfl rfl Hhp131 (bs_R.uq Hhp131 (g := 11) rfl) (by decide) rfl rfl ?_
                  refine bs_lit (k := 4) rfl rfl fun z166 hz166 => ?_
                  refine Ev.step (j := 211) (s' := ([some (.ref 69), some (.int k130)], [.int k130, .int z166, .ref 71, .int z165, .ref 71], (0, 0), hp131)) rfl rfl ?_
                  first | (refine bs_add rfl (by omega) (by omega) fun z167 hz167 => ?_) | (refine bs_any rfl fun z167 => ?_)
                  have rz167 := n_range z167
                  refine bs_ld (g := 132) 4 15 (0, 250) rfl Hhp131 (bs_R.uq Hhp131 (g := 132) rfl) (by decide) rfl (by decide) (by decide) rfl (by decide) (by omega) (by omega) fun z168 hz168 lz168 gz168 => ?_
                  dsimp only at lz168 gz168
                  refine bs_stv (W := [(132, 124, 135)]) (g := 132) 124 135 (0, 999) rfl Hhp131 (bs_R.uq Hhp131 (g := 132) rfl) (by decide) rfl rfl (by decide) rfl rfl (by omega) (by omega) (by dsimp only; omega) (by dsimp only; omega) fun hp169 Hhp169 fhp169 rhp169 ehp169 qhp169 nhp169 => ?_
                  have Fhp169 := sf_fr_tr Fhp131 (sf_fr_wider (W := [(11, 0, 0), (11, 2, 5), (11, 11, 20), (11, 25, 25), (132, 0, 433), (133, 0, 119), (135, 0, 0), (137, 0, 3), (999, 0, 0)]) rfl fhp169)
                  have h170 : sf_rd hp169 69 2 = some z11.toInt := (ehp169 _ _ (Or.inl (by decide))).trans i134
                  have h171 : sf_rd hp169 69 19 = some (l : Int) := (ehp169 _ _ (Or.inl (by decide))).trans i135
                  refine bs_iinc (1) rfl rfl rfl rfl (by omega) (by omega) fun z172 hz172 => ?_
                  refine (show Ev _ 217 ([some (.ref 69), some (.int z172)], [], (0, 0), hp169) _ from ?_)
                  refine Ev.step (j := 191) (s' := ([some (.ref 69), some (.int z172)], [], (0, 0), hp169)) rfl rfl ?_
                  refine ih133 (z172, hp169, t132) ⟨Hhp169, Fhp169, h170, h171, (by first | omega | assumption)⟩ ?_
                  show (12 - z172.toInt).toNat < (12 - k130.toInt).toNat
                  omega
              · skip
                refine Ev.step (j := 169) (s' := ([some (.ref 69), some (.int k120)], [.ref 69], (0, 0), hp121)) rfl rfl ?_
                refine bs_getU (g := 11) (g1 := 135) rfl rfl Hhp121 (bs_R.uq Hhp121 (g := 11) rfl) (by decide) rfl rfl ?_
                refine Ev.step (j := 173) (s' := ([some (.ref 69), some (.int k120)], [.int k120, .ref 74], (0, 0), hp121)) rfl rfl ?_
                refine Ev.step (j := 174) (s' := ([some (.ref 69), some (.int k120)], [.ref 69, .int k120, .ref 74], (0, 0), hp121)) rfl rfl ?_
                refine bs_getU (g := 11) (g1 := 135) rfl rfl Hhp121 (bs_R.uq Hhp121 (g := 11) rfl) (by decide) rfl rfl ?_
                refine bs_lit (k := 14) rfl rfl fun z173 hz173 => ?_
                refine Ev.step (j := 180) (s' := ([some (.ref 69), some (.int k120)], [.int k120, .int z173, .ref 74, .int k120, .ref 74], (0, 0), hp121)) rfl rfl ?_
                first | (refine bs_add rfl (by omega) (by omega) fun z174 hz174 => ?_) | (refine bs_any rfl fun z174 => ?_)
                have rz174 := n_range z174
                refine bs_laldv (g := 135) rfl Hhp121 (bs_R.uq Hhp121 (g := 135) rfl) (by decide) rfl (by omega) (by show _ < ((28 : Nat) : Int); omega) fun w175 hw175 => ?_
                refine bs_lastv (W := [(135, 0, 0)]) (g := 135) rfl Hhp121 (bs_R.uq Hhp121 (g := 135) rfl) (by decide) rfl rfl (by omega) (by show _ < ((28 : Nat) : Int); omega) fun hp176 Hhp176 fhp176 mhp176 lhp176 ehp176 qhp176 => ?_
                have Fhp176 := sf_fr_tr Fhp121 (sf_fr_wider (W := [(11, 0, 0), (11, 2, 5), (11, 11, 20), (11, 25, 25), (132, 0, 433), (133, 0, 119), (135, 0, 0), (137, 0, 3), (999, 0, 0)]) rfl fhp176)
                have h177 : sf_rd hp176 69 2 = some z11.toInt := (ehp176 _ _).trans i124
                have h178 : sf_rd hp176 69 19 = some (l : Int) := (ehp176 _ _).trans i125
                refine bs_iinc (1) rfl rfl rfl rfl (by omega) (by omega) fun z179 hz179 => ?_
                refine (show Ev _ 186 ([some (.ref 69), some (.int z179)], [], (0, 0), hp176) _ from ?_)
                refine Ev.step (j := 162) (s' := ([some (.ref 69), some (.int z179)], [], (0, 0), hp176)) rfl rfl ?_
                refine ih123 (z179, hp176, t122) ⟨Hhp176, Fhp176, h177, h178, (by first | omega | assumption)⟩ ?_
                show (14 - z179.toInt).toNat < (14 - k120.toInt).toNat
                omega
            · exfalso; omega
        · skip
          refine Ev.step (j := 88) (s' := ([some (.ref 69), some (.int k65)], [.ref 69], (0, 0), hp97)) rfl rfl ?_
          refine bs_callp (K := kq_X11_line_v) [.ref 69] [] rfl cp_X11_line_v (⟨K0, S0, R0⟩) Hhp97 rfl rfl rfl (bs_rcv (g := 11) Hhp97 (bs_R.uq Hhp97 (g := 11) rfl) (by decide) rfl) rfl ?_ (sf_S_nil) fun r180 hp181 thp181 Hhp181 fhp181 ahp181 php181 xhp181 => ?_
          · intro q k h
            match q, h with
            | 0, h => cases h; exact bs_jR (bs_R.uq Hhp97 (g := 11) rfl)
            | q + 1, h => cases h
          obtain ⟨z182, rfl⟩ := bs_anI ahp181
          have rgz182 := n_range z182
          have Fhp181 := sf_fr_tr Fhp97 (sf_fr_wider (W := [(11, 0, 0), (11, 2, 5), (11, 11, 20), (11, 25, 25), (132, 0, 433), (133, 0, 119), (135, 0, 0), (137, 0, 3), (999, 0, 0)]) rfl fhp181)
          have h183 : sf_rd hp181 69 2 = some z11.toInt := (fhp181.2.2.1 _ (bs_R.uq Hhp97 (g := 11) (p := 69) rfl).1 _ (by rw [(bs_R.uq Hhp97 (g := 11) (p := 69) rfl).2]; rfl)).trans i100
          have h184 : sf_rd hp181 69 19 = some (l : Int) := (fhp181.2.2.1 _ (bs_R.uq Hhp97 (g := 11) (p := 69) rfl).1 _ (by rw [(bs_R.uq Hhp97 (g := 11) (p := 69) rfl).2]; rfl)).trans L19
          obtain ⟨uz182, vz182⟩ := bs_s1 (x := z182.toInt) rfl (php181 _ (List.mem_of_getElem? (i := 0) rfl))
          refine (show Ev _ 91 ([some (.ref 69), some (.int k65)], [.int z182], (0, 0), hp181) _ from ?_)
          have XL := xhp181 rfl
          refine bs_ifeq rfl (fun c185 => ?_) (fun c185 => ?_)
          · skip
            have c186 : z182.toInt = 0 := by omega
            refine bs_lit (k := -1) rfl rfl fun z187 hz187 => ?_
            refine Ev.step (j := 105) (s' := ([some (.ref 69), some (.int k65)], [.ref 69, .int z187], (0, 0), hp181)) rfl rfl ?_
            refine bs_getI 11 rfl rfl rfl Hhp181 (bs_R.uq Hhp181 (g := 11) rfl) (by decide) rfl fun z188 hz188 lz188 gz188 => ?_
            first | (refine bs_sub rfl (by omega) (by omega) fun z189 hz189 => ?_) | (refine bs_any rfl fun z189 => ?_)
            have rz189 := n_range z189
            exact Ev.ret rfl rfl (by rw [hQ]; exact ⟨thp181, Hhp181, Fhp181, bs_an0, sf_S_cons (sf_s1 (x := z11.toInt) (show sf_v1 _ _ _ 36008 = _ from h183) (by omega) (by omega)) (sf_S_nil), (fun n hn_ => by
                    have eqN : n = n0 := Option.some.inj (hn_.symm.trans hn0); subst eqN; rw [← hBB]
                    have K0N : (tok BB n.toNat 900 i).k ≠ 0 := fun e => by rw [e] at KK; have KK2 : _ = (0 : Int) := KK; omega
                    obtain ⟨f2, j2, HL, Q4, Q5⟩ := RRES_neg XL (by omega)
                    have PE := Option.some.inj (hz188.symm.trans Q5)
                    exact ⟨z189, f2, s, rfl, ⟨l, i, LN, (stp_bad K0N HL).trans (congrArg some (Prod.ext (by show -1 - (tok BB n.toNat 900 j2).pl = _; omega) rfl))⟩, h183.trans (congrArg some (by omega))⟩)⟩)
          · skip
            obtain ⟨s2, j2, HL, S2, K2⟩ := RRES_pos XL (by omega)
            have LO : i + 2 ≤ j2 := by have := lnx_ok (tok BB n0.toNat 900) s i; rw [HL] at this; exact this
            have R2 := RES_fr Hhp97 fhp181 rfl R0
            refine Ev.step (j := 95) (s' := ([some (.ref 69), some (.int k65)], [.ref 69], (0, 0), hp181)) rfl rfl ?_
            refine bs_lit (k := 59) rfl rfl fun z190 hz190 => ?_
            refine bs_callx (K := kq_X11_sign_v) [.ref 69, .int z190] [] rfl ce_X11_sign_v Hhp181 rfl rfl rfl (bs_rcv (g := 11) Hhp181 (bs_R.uq Hhp181 (g := 11) rfl) (by decide) rfl) rfl ?_ (sf_S_cons (sf_s1 (x := z190.toInt) rfl (by omega) (by omega)) (sf_S_nil)) fun r191 hp192 thp192 Hhp192 fhp192 ahp192 php192 xhp192 => ?_
            · intro q k h
              match q, h with
              | 0, h => cases h; exact bs_jR (bs_R.uq Hhp181 (g := 11) rfl)
              | 1, h => cases h; exact sf_j0
              | q + 2, h => cases h
            obtain ⟨z193, rfl⟩ := bs_anI ahp192
            have rgz193 := n_range z193
            have Fhp192 := sf_fr_tr Fhp181 (sf_fr_wider (W := [(11, 0, 0), (11, 2, 5), (11, 11, 20), (11, 25, 25), (132, 0, 433), (133, 0, 119), (135, 0, 0), (137, 0, 3), (999, 0, 0)]) rfl fhp192)
            have h194 : sf_rd hp192 69 2 = some z11.toInt := (fhp192.2.2.1 _ (bs_R.uq Hhp181 (g := 11) (p := 69) rfl).1 _ (by rw [(bs_R.uq Hhp181 (g := 11) (p := 69) rfl).2]; rfl)).trans h183
            have h195 : sf_rd hp192 69 19 = some (l : Int) := (fhp192.2.2.1 _ (bs_R.uq Hhp181 (g := 11) (p := 69) rfl).1 _ (by rw [(bs_R.uq Hhp181 (g := 11) (p := 69) rfl).2]; rfl)).trans h184
            obtain ⟨uz193, vz193⟩ := bs_s1 (x := z193.toInt) rfl (php192 _ (List.mem_of_getElem? (i := 0) rfl))
            refine (show Ev _ 100 ([some (.ref 69), some (.int k65)], [.int z193], (0, 0), hp192) _ from ?_)
            obtain ⟨q196, rq196, X197⟩ := xhp192 _ BB n0.toNat 900 j2 rfl K2
            obtain rfl := Value.int.inj (Option.some.inj rq196)
            refine bs_ifne rfl (fun c198 => ?_) (fun c198 => ?_)
            · skip
              obtain ⟨Q0, Q1, Q2, Q3⟩ := X197.resolve_right (fun h => absurd h.1 (by omega))
              have S3 := SR_fr Hhp181 fhp192 rfl rfl rfl rfl S2
              have R3 := RES_fr Hhp181 fhp192 rfl R2
              have PSB := psi_ge K2.1.2.1 K2.1.2.2.1
              have PSL := fhp181.2.2.2.2 rfl
              have TG := tps_gt (B := BB) (n := n0.toNat) (lim := 900) (j := j2) (by omega) (by omega)
              have TM := tps_mono (B := BB) (n := n0.toNat) (lim := 900) (i := i) (j2 - i)
              rw [show i + (j2 - i) = j2 by omega] at TM
              have tn1 : tps BB n0.toNat 900 (j2 + 1) ≤ n0.toNat := tps_n (j2 + 1)
              have K59 : rkk (tok BB n0.toNat 900 j2).k = 3 := by rw [Q1]; rfl
              have NXE : (tok BB n0.toNat 900 j2).nx = tps BB n0.toNat 900 (j2 + 1) := rfl
              refine Ev.step (j := 111) (s' := ([some (.ref 69), some (.int k65)], [.ref 69], (0, 0), hp192)) rfl rfl ?_
              refine Ev.step (j := 112) (s' := ([some (.ref 69), some (.int k65)], [.ref 69, .ref 69], (0, 0), hp192)) rfl rfl ?_
              refine bs_getI 11 rfl rfl rfl Hhp192 (bs_R.uq Hhp192 (g := 11) rfl) (by decide) rfl fun z199 hz199 lz199 gz199 => ?_
              have e200 : z199.toInt = (l : Int) := Option.some.inj (hz199.symm.trans h195)
              refine bs_lit (k := 1) rfl rfl fun z201 hz201 => ?_
              first | (refine bs_add rfl (by omega) (by omega) fun z202 hz202 => ?_) | (refine bs_any rfl fun z202 => ?_)
              have rz202 := n_range z202
              refine bs_putIv (W := [(11, 19, 19)]) (g := 11) rfl rfl Hhp192 (bs_R.uq Hhp192 (g := 11) rfl) (by decide) rfl rfl rfl rfl (Or.inl rfl) (by omega) (by omega) fun hp203 Hhp203 fhp203 rhp203 ehp203 qhp203 nhp203 => ?_
              have Fhp203 := sf_fr_tr Fhp192 (sf_fr_wider (W := [(11, 0, 0), (11, 2, 5), (11, 11, 20), (11, 25, 25), (132, 0, 433), (133, 0, 119), (135, 0, 0), (137, 0, 3), (999, 0, 0)]) rfl fhp203)
              have h204 : sf_rd hp203 69 2 = some z11.toInt := (ehp203 _ _ (Or.inr (by omega))).trans h194
              have K4 := RK_keep Hhp192 fhp203 rfl rfl (nhp203 _ _) Q2
              have S4 := SR_fr Hhp192 fhp203 rfl rfl rfl rfl S3
              have R4 := RES_fr Hhp192 fhp203 rfl R3
              have PS4 := fhp203.2.2.2.2 rfl
              refine Ev.step (j := 80) (s' := ([some (.ref 69), some (.int k65)], [], (0, 0), hp203)) rfl rfl ?_
              have INV : ∃ (s : PS) (i l : Nat), sf_rd hp203 69 19 = some (l : Int) ∧ lns (tok BB n0.toNat 900) l = some (s, i) ∧ SR hp203 s ∧ RK hp203 BB n0.toNat 900 i ∧ RES hp203 ∧ l ≤ tps BB n0.toNat 900 i := ⟨s2, j2 + 1, l + 1, rhp203.trans (congrArg some (by omega)), lns_next LN (fun e => by rw [e] at KK; have KK2 : _ = (0 : Int) := KK; omega) HL Q1, S4, K4, R4, by omega⟩
              refine ih99 (hp203, thp192) ⟨Hhp203, Fhp203, h204, (by exact INV)⟩ ?_
              show (sf_psi hp203).toNat < (sf_psi hp97).toNat
              omega
            · skip
              have c205 : z193.toInt = 0 := by omega
              refine bs_lit (k := -1) rfl rfl fun z206 hz206 => ?_
              refine Ev.step (j := 105) (s' := ([some (.ref 69), some (.int k65)], [.ref 69, .int z206], (0, 0), hp192)) rfl rfl ?_
              refine bs_getI 11 rfl rfl rfl Hhp192 (bs_R.uq Hhp192 (g := 11) rfl) (by decide) rfl fun z207 hz207 lz207 gz207 => ?_
              first | (refine bs_sub rfl (by omega) (by omega) fun z208 hz208 => ?_) | (refine bs_any rfl fun z208 => ?_)
              have rz208 := n_range z208
              exact Ev.ret rfl rfl (by rw [hQ]; exact ⟨thp192, Hhp192, Fhp192, bs_an0, sf_S_cons (sf_s1 (x := z11.toInt) (show sf_v1 _ _ _ 36008 = _ from h194) (by omega) (by omega)) (sf_S_nil), (fun n hn_ => by
                      have eqN : n = n0 := Option.some.inj (hn_.symm.trans hn0); subst eqN; rw [← hBB]
                      have K0N : (tok BB n.toNat 900 i).k ≠ 0 := fun e => by rw [e] at KK; have KK2 : _ = (0 : Int) := KK; omega
                      obtain ⟨Q0, Q1, Q2, Q3⟩ := X197.resolve_left (fun h => absurd h.1 (by omega))
                      have PE := Option.some.inj (hz207.symm.trans Q1)
                      exact ⟨z208, 1, s, rfl, ⟨l, i, LN, (stp_sign K0N HL Q2).trans (congrArg some (Prod.ext (by show -1 - (tok BB n.toNat 900 j2).pl = _; omega) rfl))⟩, h194.trans (congrArg some (by omega))⟩)⟩)
      · skip
        refine Ev.step (j := 56) (s' := ([some (.ref 69), some (.int k65)], [.ref 69], (0, 0), hp66)) rfl rfl ?_
        refine bs_getU (g := 11) (g1 := 133) rfl rfl Hhp66 (bs_R.uq Hhp66 (g := 11) rfl) (by decide) rfl rfl ?_
        refine Ev.step (j := 60) (s' := ([some (.ref 69), some (.int k65)], [.int k65, .ref 72], (0, 0), hp66)) rfl rfl ?_
        refine bs_lit (k := 0) rfl rfl fun z209 hz209 => ?_
        refine bs_stv (W := [(133, 0, 119)]) (g := 133) 0 119 (0, 0) rfl Hhp66 (bs_R.uq Hhp66 (g := 133) rfl) (by decide) rfl rfl (by decide) rfl rfl (by omega) (by omega) (by dsimp only; omega) (by dsimp only; omega) fun hp210 Hhp210 fhp210 rhp210 ehp210 qhp210 nhp210 => ?_
        have Fhp210 := sf_fr_tr Fhp66 (sf_fr_wider (W := [(11, 0, 0), (11, 2, 5), (11, 11, 20), (11, 25, 25), (132, 0, 433), (133, 0, 119), (135, 0, 0), (137, 0, 3), (999, 0, 0)]) rfl fhp210)
        have h211 : sf_rd hp210 69 2 = some z11.toInt := (ehp210 _ _ (Or.inl (by decide))).trans i69
        have h212 : sf_rd hp210 69 3 = some z6.toInt := (ehp210 _ _ (Or.inl (by decide))).trans i70
        have h213 : sf_rd hp210 69 4 = some z15.toInt := (ehp210 _ _ (Or.inl (by decide))).trans i71
        have h214 : sf_rd hp210 69 5 = some z4.toInt := (ehp210 _ _ (Or.inl (by decide))).trans i72
        have h215 : sf_rd hp210 69 19 = some z32.toInt := (ehp210 _ _ (Or.inl (by decide))).trans i73
        have h216 : sf_rd hp210 69 20 = some z40.toInt := (ehp210 _ _ (Or.inl (by decide))).trans i74
        refine bs_iinc (1) rfl rfl rfl rfl (by omega) (by omega) fun z217 hz217 => ?_
        refine (show Ev _ 65 ([some (.ref 69), some (.int z217)], [], (0, 0), hp210) _ from ?_)
        refine Ev.step (j := 49) (s' := ([some (.ref 69), some (.int z217)], [], (0, 0), hp210)) rfl rfl ?_
        have INV : ∀ j : Nat, (j : Int) < z217.toInt → sf_rd hp210 72 j = some 0 := by
          intro j hj
          rcases (show (j : Int) < k65.toInt ∨ j = k65.toInt.toNat by omega) with h | h
          · exact (ehp210 _ _ (Or.inr (by omega))).trans (i75 j h)
          · rw [h]; exact rhp210.trans (congrArg some (by omega))
        have T6 : ∀ j : Nat, j < 4 → sf_rd hp210 76 j = some 0 := fun j hj => (ehp210 _ _ (Or.inl (by decide))).trans (i76 j hj)
        refine ih68 (z217, hp210, t67) ⟨Hhp210, Fhp210, h211, h212, h213, h214, h215, h216, (by first | exact INV | exact fun j h => absurd h (by omega)), (by exact T6), (by first | omega | assumption)⟩ ?_
        show (120 - z217.toInt).toNat < (120 - k65.toInt).toNat
        omega
    · skip
      refine Ev.step (j := 35) (s' := ([some (.ref 69), some (.int k50)], [.ref 69], (0, 0), hp51)) rfl rfl ?_
      refine bs_getU (g := 11) (g1 := 137) rfl rfl Hhp51 (bs_R.uq Hhp51 (g := 11) rfl) (by decide) rfl rfl ?_
      refine Ev.step (j := 39) (s' := ([some (.ref 69), some (.int k50)], [.int k50, .ref 76], (0, 0), hp51)) rfl rfl ?_
      refine bs_lit (k := 0) rfl rfl fun z218 hz218 => ?_
      refine bs_stv (W := [(137, 0, 3)]) (g := 137) 0 3 (-2147483648, 2147483647) rfl Hhp51 (bs_R.uq Hhp51 (g := 137) rfl) (by decide) rfl rfl (by decide) rfl rfl (by omega) (by omega) (by dsimp only; omega) (by dsimp only; omega) fun hp219 Hhp219 fhp219 rhp219 ehp219 qhp219 nhp219 => ?_
      have Fhp219 := sf_fr_tr Fhp51 (sf_fr_wider (W := [(11, 0, 0), (11, 2, 5), (11, 11, 20), (11, 25, 25), (132, 0, 433), (133, 0, 119), (135, 0, 0), (137, 0, 3), (999, 0, 0)]) rfl fhp219)
      have h220 : sf_rd hp219 69 2 = some z11.toInt := (ehp219 _ _ (Or.inl (by decide))).trans i54
      have h221 : sf_rd hp219 69 3 = some z6.toInt := (ehp219 _ _ (Or.inl (by decide))).trans i55
      have h222 : sf_rd hp219 69 4 = some z15.toInt := (ehp219 _ _ (Or.inl (by decide))).trans i56
      have h223 : sf_rd hp219 69 5 = some z4.toInt := (ehp219 _ _ (Or.inl (by decide))).trans i57
      have h224 : sf_rd hp219 69 19 = some z32.toInt := (ehp219 _ _ (Or.inl (by decide))).trans i58
      have h225 : sf_rd hp219 69 20 = some z40.toInt := (ehp219 _ _ (Or.inl (by decide))).trans i59
      refine bs_iinc (1) rfl rfl rfl rfl (by omega) (by omega) fun z226 hz226 => ?_
      refine (show Ev _ 44 ([some (.ref 69), some (.int z226)], [], (0, 0), hp219) _ from ?_)
      refine Ev.step (j := 29) (s' := ([some (.ref 69), some (.int z226)], [], (0, 0), hp219)) rfl rfl ?_
      have INV : ∀ j : Nat, (j : Int) < z226.toInt → sf_rd hp219 76 j = some 0 := by
        intro j hj
        rcases (show (j : Int) < k50.toInt ∨ j = k50.toInt.toNat by omega) with h | h
        · exact (ehp219 _ _ (Or.inr (by omega))).trans (i60 j h)
        · rw [h]; exact rhp219.trans (congrArg some (by omega))
      refine ih53 (z226, hp219, t52) ⟨Hhp219, Fhp219, h220, h221, h222, h223, h224, h225, (by first | exact INV | exact fun j h => absurd h (by omega)), (by first | omega | assumption)⟩ ?_
      show (4 - z226.toInt).toNat < (4 - k50.toInt).toNat
      omega
