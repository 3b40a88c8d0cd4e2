def kq_X11_image_h : sf_Q := ([(1, 11, 0), (0, 0, 0)], [], some (0, 0, 0), [(1, 0, 0, 0, 1, 0)], [(11, 0, 0), (145, 0, 867), (146, 0, 0), (147, 0, 1)])
set_option maxRecDepth 100000 in
set_option maxHeartbeats 4000000 in
theorem ct_X11_image_h : sf_ct kq_X11_image_h Z_X11_image := by
  intro t hp as H hl hj hpre
  match as, hl with
  | [v0, v1], _ =>
    obtain ⟨a0, rfl, ra0⟩ := bs_aR (hj 0 _ rfl)
    obtain rfl := ra0.eq H (p := 69) rfl
    obtain ⟨x1, rfl⟩ := bs_aI (hj 1 _ rfl)
    have rg1 := n_range x1
    clear hpre hj
    have F0 : sf_fr [(11, 0, 0), (145, 0, 867), (146, 0, 0), (147, 0, 1)] t hp t hp := sf_fr_rf
    refine bs_fin (K := kq_X11_image_h) (L := (L_X11_image Z_X11_isIn)) (nL := 3) (Nat.le_of_ble_eq_true rfl) ?_
    obtain ⟨Q, hQ⟩ : ∃ Q : ab_O → Prop, Q = (fun o => ∃ t', sf_h t' o.2 ∧ sf_fr (kq_X11_image_h).2.2.2.2 t hp t' o.2 ∧ sf_an t' o.2.1 (kq_X11_image_h).2.2.1 o.1 ∧ sf_S (sf_v1 o.1 [.ref 69, .int x1] o.2) (kq_X11_image_h).2.2.2.1) := ⟨_, rfl⟩
    rw [← hQ]
    refine (show Ev (ab_T (L_X11_image Z_X11_isIn)) 0 ([some (.ref 69), some (.int x1), none], [], (0, 0), hp) Q from ?_)
    refine Ev.step (j := 1) (s' := ([some (.ref 69), some (.int x1), none], [.ref 69], (0, 0), hp)) rfl rfl ?_
    refine bs_lit (k := 0) rfl rfl fun z1 hz1 => ?_
    refine bs_putI (W := [(11, 0, 0)]) (g := 11) rfl rfl H (bs_R.uq H (g := 11) rfl) (by decide) rfl rfl rfl rfl (Or.inl rfl) (by omega) (by omega) fun hp2 Hhp2 fhp2 rhp2 ehp2 qhp2 nhp2 => ?_
    have Fhp2 := sf_fr_tr F0 (sf_fr_wider (W := [(11, 0, 0), (145, 0, 867), (146, 0, 0), (147, 0, 1)]) rfl fhp2)
    refine Ev.step (j := 6) (s' := ([some (.ref 69), some (.int x1), none], [.int x1], (0, 0), hp2)) rfl rfl ?_
    refine bs_lit (k := 0) rfl rfl fun z3 hz3 => ?_
    refine bs_lit (k := 1) rfl rfl fun z4 hz4 => ?_
    refine Ev.inlS (L := L_X11_isIn) (nL := 3) rfl rfl (Nat.le_of_ble_eq_true rfl) ?_
    generalize hQ5 : (fun (o : ab_O) => Ev _ _ _ _) = Q5
    refine (show Ev (ab_T L_X11_isIn) 0 ([some (.int x1), some (.int z3), some (.int z4)], [], (0, 0), hp2) Q5 from ?_)
    refine Ev.step (j := 1) (s' := ([some (.int x1), some (.int z3), some (.int z4)], [.int x1], (0, 0), hp2)) rfl rfl ?_
    refine Ev.step (j := 2) (s' := ([some (.int x1), some (.int z3), some (.int z4)], [.int z3, .int x1], (0, 0), hp2)) rfl rfl ?_
    refine bs_lt rfl (fun c6 => ?_) (fun c6 => ?_)
    · skip
      refine bs_lit (k := 0) rfl rfl fun z7 hz7 => ?_
      refine bs_zret rfl rfl (by omega) (by omega) ?_
      rw [← hQ5]
      refine (show Ev _ 11 ([some (.ref 69), some (.int x1), none], [.int z7], (0, 0), hp2) _ from ?_)
      refine bs_ifne rfl (fun c8 => ?_) (fun c8 => ?_)
      · exfalso; omega
      · skip
        refine bs_lit (k := 0) rfl rfl fun z9 hz9 => ?_
        exact bs_zret rfl rfl (by omega) (by omega) (by rw [hQ]; exact ⟨t, Hhp2, Fhp2, bs_an0, sf_S_cons (sf_s1 (x := z9.toInt) rfl (by omega) (by omega)) (sf_S_nil)⟩)
    · skip
      refine Ev.step (j := 6) (s' := ([some (.int x1), some (.int z3), some (.int z4)], [.int x1], (0, 0), hp2)) rfl rfl ?_
      refine Ev.step (j := 7) (s' := ([some (.int x1), some (.int z3), some (.int z4)], [.int z4, .int x1], (0, 0), hp2)) rfl rfl ?_
      refine bs_gt rfl (fun c10 => ?_) (fun c10 => ?_)
      · skip
        refine bs_lit (k := 0) rfl rfl fun z11 hz11 => ?_
        refine bs_zret rfl rfl (by omega) (by omega) ?_
        rw [← hQ5]
        refine (show Ev _ 11 ([some (.ref 69), some (.int x1), none], [.int z11], (0, 0), hp2) _ from ?_)
        refine bs_ifne rfl (fun c12 => ?_) (fun c12 => ?_)
        · exfalso; omega
        · skip
          refine bs_lit (k := 0) rfl rfl fun z13 hz13 => ?_
          exact bs_zret rfl rfl (by omega) (by omega) (by rw [hQ]; exact ⟨t, Hhp2, Fhp2, bs_an0, sf_S_cons (sf_s1 (x := z13.toInt) rfl (by omega) (by omega)) (sf_S_nil)⟩)
      · skip
        refine bs_lit (k := 1) rfl rfl fun z14 hz14 => ?_
        refine Ev.step (j := 15) (s' := ([some (.int x1), some (.int z3), some (.int z4)], [.int z14], (0, 0), hp2)) rfl rfl ?_
        refine bs_zret rfl rfl (by omega) (by omega) ?_
        rw [← hQ5]
        refine (show Ev _ 11 ([some (.ref 69), some (.int x1), none], [.int z14], (0, 0), hp2) _ from ?_)
        refine bs_ifne rfl (fun c15 => ?_) (fun c15 => ?_)
        · skip
          refine bs_lit (k := 0) rfl rfl fun z16 hz16 => ?_
          refine Ev.step (j := 18) (s' := ([some (.ref 69), some (.int x1), some (.int z16)], [], (0, 0), hp2)) rfl rfl ?_
          obtain ⟨n69, fl, e69, hfl⟩ := fl_get Hhp2
          obtain ⟨n71, f71, e71, k71⟩ := ar_get Hhp2 132 71 434 rfl (by decide) rfl rfl
          obtain ⟨n84, f84, e84, k84⟩ := ar_get Hhp2 145 84 868 rfl (by decide) rfl rfl
          obtain ⟨o0, ho0, ho⟩ : ∃ o : Nat, (o : Int) = 434 * x1.toInt ∧ (o = 0 ∨ o = 434) := ⟨(434 * x1.toInt).toNat, by omega, by omega⟩
          refine Ev.hp (show hp2 = ab_up hp2 84 (.inl (1, 868, .inl (cpf f84 f71 o0 0))) by rw [cpf_0]; exact ab_up_same e84) ?_
          refine cp_loop (N := 434) (fun zz nn => ([some (.ref 69), some (.int x1), some (.int zz)], [], (0, 0), (ab_up hp2 84 (.inl (1, 868, .inl (cpf f84 f71 o0 nn)))))) ?_ ?_ z16 (by omega)
          · intro nn zz hnn hzz ih
            refine (show Ev _ 18 ([some (.ref 69), some (.int x1), some (.int zz)], [], (0, 0), (ab_up hp2 84 (.inl (1, 868, .inl (cpf f84 f71 o0 nn))))) _ from ?_)
            have m69 : (ab_up hp2 84 (.inl (1, 868, .inl (cpf f84 f71 o0 nn)))).2 69 = .inr (11, fl) := (ab_up_ne (by decide)).trans e69
            have m71 : (ab_up hp2 84 (.inl (1, 868, .inl (cpf f84 f71 o0 nn)))).2 71 = .inl (1, 434, .inl f71) := (ab_up_ne (by decide)).trans e71
            refine Ev.step (j := 19) (s' := ([some (.ref 69), some (.int x1), some (.int zz)], [.int zz], (0, 0), (ab_up hp2 84 (.inl (1, 868, .inl (cpf f84 f71 o0 nn)))))) rfl rfl ?_
            refine bs_lit (k := 434) rfl rfl fun z17 hz17 => ?_
            refine bs_ge rfl (fun c18 => ?_) (fun c18 => ?_)
            · exfalso; omega
            · skip
              refine Ev.step (j := 26) (s' := ([some (.ref 69), some (.int x1), some (.int zz)], [.ref 69], (0, 0), (ab_up hp2 84 (.inl (1, 868, .inl (cpf f84 f71 o0 nn)))))) rfl rfl ?_
              refine Ev.getf rfl n69 m69 (hfl 40 145 84 rfl rfl) ?_
              refine (show Ev _ 29 ([some (.ref 69), some (.int x1), some (.int zz)], [.ref 84], (0, 0), (ab_up hp2 84 (.inl (1, 868, .inl (cpf f84 f71 o0 nn))))) _ from ?_)
              refine bs_lit (k := 434) rfl rfl fun z19 hz19 => ?_
              refine Ev.step (j := 33) (s' := ([some (.ref 69), some (.int x1), some (.int zz)], [.int x1, .int z19, .ref 84], (0, 0), (ab_up hp2 84 (.inl (1, 868, .inl (cpf f84 f71 o0 nn)))))) rfl rfl ?_
              refine bs_mul (434) rfl (Or.inl hz19) (by rw [hz19]; omega) (by rw [hz19]; omega) fun z20 hz20 => ?_
              rw [hz19] at hz20
              refine Ev.step (j := 35) (s' := ([some (.ref 69), some (.int x1), some (.int zz)], [.int zz, .int z20, .ref 84], (0, 0), (ab_up hp2 84 (.inl (1, 868, .inl (cpf f84 f71 o0 nn)))))) rfl rfl ?_
              first | (refine bs_add rfl (by omega) (by omega) fun z21 hz21 => ?_) | (refine bs_any rfl fun z21 => ?_)
              have rz21 := n_range z21
              refine Ev.step (j := 37) (s' := ([some (.ref 69), some (.int x1), some (.int zz)], [.ref 69, .int z21, .ref 84], (0, 0), (ab_up hp2 84 (.inl (1, 868, .inl (cpf f84 f71 o0 nn)))))) rfl rfl ?_
              refine Ev.getf rfl n69 m69 (hfl 6 132 71 rfl rfl) ?_
              refine (show Ev _ 40 ([some (.ref 69), some (.int x1), some (.int zz)], [.ref 71, .int z21, .ref 84], (0, 0), (ab_up hp2 84 (.inl (1, 868, .inl (cpf f84 f71 o0 nn))))) _ from ?_)
              refine Ev.step (j := 41) (s' := ([some (.ref 69), some (.int x1), some (.int zz)], [.int zz, .ref 71, .int z21, .ref 84], (0, 0), (ab_up hp2 84 (.inl (1, 868, .inl (cpf f84 f71 o0 nn)))))) rfl rfl ?_
              refine Ev.ald rfl n71 m71 (n_in (by omega) (by omega)) ?_
              refine (show Ev _ 42 ([some (.ref 69), some (.int x1), some (.int zz)], [.int (f71 zz.toNatClampNeg), .int z21, .ref 84], (0, 0), (ab_up hp2 84 (.inl (1, 868, .inl (cpf f84 f71 o0 nn))))) _ from ?_)
              refine Ev.ast rfl n84 (ab_up_eq _ _ _) (n_in (by omega) (by omega)) ?_
              refine Ev.hp (cpf_up (n_at (by omega)) (congrArg f71 (n_at (by omega)))) ?_
              refine bs_iinc (1) rfl rfl rfl rfl (by omega) (by omega) fun z22 hz22 => ?_
              refine (show Ev _ 46 ([some (.ref 69), some (.int x1), some (.int z22)], [], (0, 0), (ab_up hp2 84 (.inl (1, 868, .inl (cpf f84 f71 o0 (nn + 1)))))) _ from ?_)
              refine Ev.step (j := 18) (s' := ([some (.ref 69), some (.int x1), some (.int z22)], [], (0, 0), (ab_up hp2 84 (.inl (1, 868, .inl (cpf f84 f71 o0 (nn + 1))))))) rfl rfl ?_
              exact ih z22 (by omega)
          · intro zz hzz
            refine (show Ev _ 18 ([some (.ref 69), some (.int x1), some (.int zz)], [], (0, 0), (ab_up hp2 84 (.inl (1, 868, .inl (cpf f84 f71 o0 434))))) _ from ?_)
            have m69 : (ab_up hp2 84 (.inl (1, 868, .inl (cpf f84 f71 o0 434)))).2 69 = .inr (11, fl) := (ab_up_ne (by decide)).trans e69
            refine Ev.step (j := 19) (s' := ([some (.ref 69), some (.int x1), some (.int zz)], [.int zz], (0, 0), (ab_up hp2 84 (.inl (1, 868, .inl (cpf f84 f71 o0 434)))))) rfl rfl ?_
            refine bs_lit (k := 434) rfl rfl fun z23 hz23 => ?_
            refine bs_ge rfl (fun c24 => ?_) (fun c24 => ?_)
            · skip
              have EK : ∀ q, q < 868 → sf_v t hp2.1 (sf_e (sf_A 145).2.2 q) (.int ((cpf f84 f71 o0 434) q)) := by
                intro q hq
                by_cases c : o0 ≤ q ∧ q < o0 + 434
                · rw [cpf_in c.1 c.2]
                  have h := k71 (q - o0) (by omega)
                  rw [sg_145 q hq, show q % 434 = q - o0 by omega]
                  exact h
                · rw [cpf_out (by omega)]
                  exact k84 q hq
              have I3 := Hhp2.2.2.2.2.2
              have E3 : sf_I3 (ab_up hp2 84 (.inl (1, 868, .inl (cpf f84 f71 o0 434)))) := by
                refine ⟨by rw [cd_ne (by decide)]; exact I3.1, ?_, ?_⟩
                · rcases ho with h | h
                  · exact cd_ok_same (fun j hj => by rw [cd_up (by omega), cd_at e71 (by omega), cpf_in (by omega) (by omega), show 253 + j - o0 = 253 + j by omega]) I3.1
                  · exact cd_ok_same (fun j hj => by rw [cd_up (by omega), cd_at e84 (by omega), cpf_out (by omega)]) I3.2.1
                · rcases ho with h | h
                  · exact cd_ok_same (fun j hj => by rw [cd_up (by omega), cd_at e84 (by omega), cpf_out (by omega)]) I3.2.2
                  · exact cd_ok_same (fun j hj => by rw [cd_up (by omega), cd_at e71 (by omega), cpf_in (by omega) (by omega), show 687 + j - o0 = 253 + j by omega]) I3.1
              obtain ⟨Hhp25, fhp25⟩ := cp_end (a := 84) (len := 868) (f' := (cpf f84 f71 o0 434)) (i0 := 0) (i1 := 867) Hhp2 (bs_R.uq Hhp2 (g := 145) rfl) (by decide) rfl rfl e84 EK (by decide) (fun q hq => cpf_out (by omega)) E3
              clear EK E3 I3
              obtain ⟨hp25, qhp25⟩ : ∃ x, x = (ab_up hp2 84 (.inl (1, 868, .inl (cpf f84 f71 o0 434)))) := ⟨_, rfl⟩
              rw [← qhp25] at Hhp25 fhp25
              rw [← qhp25]
              have Fhp25 := sf_fr_tr Fhp2 (sf_fr_wider (W := [(11, 0, 0), (145, 0, 867), (146, 0, 0), (147, 0, 1)]) rfl fhp25)
              have h26 : sf_rd hp25 69 0 = some z1.toInt := (fhp25.2.2.1 _ (bs_R.uq Hhp2 (g := 11) (p := 69) rfl).1 _ (by rw [(bs_R.uq Hhp2 (g := 11) (p := 69) rfl).2]; rfl)).trans rhp2
              refine bs_lit (k := 0) rfl rfl fun z27 hz27 => ?_
              refine Ev.step (j := 51) (s' := ([some (.ref 69), some (.int x1), some (.int z27)], [], (0, 0), hp25)) rfl rfl ?_
              refine bs_loop (ι := Int32 × ab_H × (Nat → Nat)) (fun ⟨k28, hp29, t30⟩ => ([some (.ref 69), some (.int x1), some (.int k28)], [], (0, 0), hp29)) (fun ⟨k28, hp29, t30⟩ => (sf_h t30 hp29) ∧ (sf_fr [(11, 0, 0), (145, 0, 867), (146, 0, 0), (147, 0, 1)] t hp t30 hp29) ∧ (0 ≤ k28.toInt ∧ k28.toInt ≤ 14)) (fun ⟨k28, hp29, t30⟩ => (14 - k28.toInt).toNat) ?_ (z27, hp25, t) ⟨Hhp25, Fhp25, (by first | omega | assumption)⟩
              rintro ⟨k28, hp29, t30⟩ ⟨Hhp29, Fhp29, i32⟩ ih31
              refine (show Ev _ 51 ([some (.ref 69), some (.int x1), some (.int k28)], [], (0, 0), hp29) _ from ?_)
              refine Ev.step (j := 52) (s' := ([some (.ref 69), some (.int x1), some (.int k28)], [.int k28], (0, 0), hp29)) rfl rfl ?_
              refine bs_lit (k := 14) rfl rfl fun z33 hz33 => ?_
              refine bs_ge rfl (fun c34 => ?_) (fun c34 => ?_)
              · skip
                refine Ev.step (j := 81) (s' := ([some (.ref 69), some (.int x1), some (.int k28)], [.ref 69], (0, 0), hp29)) rfl rfl ?_
                refine bs_getU (g := 11) (g1 := 147) rfl rfl Hhp29 (bs_R.uq Hhp29 (g := 11) rfl) (by decide) rfl rfl ?_
                refine Ev.step (j := 85) (s' := ([some (.ref 69), some (.int x1), some (.int k28)], [.int x1, .ref 86], (0, 0), hp29)) rfl rfl ?_
                refine bs_lit (k := 1) rfl rfl fun z35 hz35 => ?_
                refine bs_stT (W := [(147, 0, 1)]) (g := 147) 0 1 rfl Hhp29 (bs_R.uq Hhp29 (g := 147) rfl) (by decide) rfl (by decide) (by decide) rfl (by decide) rfl rfl (by omega) (by omega) fun hp36 Hhp36 fhp36 rhp36 ehp36 qhp36 nhp36 => ?_
                rw [nar3 (by omega) (by omega)] at rhp36
                have Fhp36 := sf_fr_tr Fhp29 (sf_fr_wider (W := [(11, 0, 0), (145, 0, 867), (146, 0, 0), (147, 0, 1)]) rfl fhp36)
                refine bs_lit (k := 1) rfl rfl fun z37 hz37 => ?_
                exact bs_zret rfl rfl (by omega) (by omega) (by rw [hQ]; exact ⟨t30, Hhp36, Fhp36, bs_an0, sf_S_cons (sf_s1 (x := z37.toInt) rfl (by omega) (by omega)) (sf_S_nil)⟩)
              · skip
                refine Ev.step (j := 58) (s' := ([some (.ref 69), some (.int x1), some (.int k28)], [.ref 69], (0, 0), hp29)) rfl rfl ?_
                refine bs_getU (g := 11) (g1 := 146) rfl rfl Hhp29 (bs_R.uq Hhp29 (g := 11) rfl) (by decide) rfl rfl ?_
                refine bs_lit (k := 14) rfl rfl fun z38 hz38 => ?_
                refine Ev.step (j := 64) (s' := ([some (.ref 69), some (.int x1), some (.int k28)], [.int x1, .int z38, .ref 85], (0, 0), hp29)) rfl rfl ?_
                refine bs_mul (14) rfl (Or.inl hz38) (by rw [hz38]; omega) (by rw [hz38]; omega) fun z39 hz39 => ?_
                rw [hz38] at hz39
                refine Ev.step (j := 66) (s' := ([some (.ref 69), some (.int x1), some (.int k28)], [.int k28, .int z39, .ref 85], (0, 0), hp29)) rfl rfl ?_
                first | (refine bs_add rfl (by omega) (by omega) fun z40 hz40 => ?_) | (refine bs_any rfl fun z40 => ?_)
                have rz40 := n_range z40
                refine Ev.step (j := 68) (s' := ([some (.ref 69), some (.int x1), some (.int k28)], [.ref 69, .int z40, .ref 85], (0, 0), hp29)) rfl rfl ?_
                refine bs_getU (g := 11) (g1 := 135) rfl rfl Hhp29 (bs_R.uq Hhp29 (g := 11) rfl) (by decide) rfl rfl ?_
                refine Ev.step (j := 72) (s' := ([some (.ref 69), some (.int x1), some (.int k28)], [.int k28, .ref 74, .int z40, .ref 85], (0, 0), hp29)) rfl rfl ?_
                refine bs_lald (g := 135) rfl Hhp29 (bs_R.uq Hhp29 (g := 135) rfl) (by decide) rfl (by omega) (by show _ < ((28 : Nat) : Int); omega) fun w41 => ?_
                refine bs_last (W := [(146, 0, 0)]) (g := 146) rfl Hhp29 (bs_R.uq Hhp29 (g := 146) rfl) (by decide) rfl rfl (by omega) (by show _ < ((28 : Nat) : Int); omega) fun hp42 Hhp42 fhp42 ehp42 qhp42 nhp42 => ?_
                have Fhp42 := sf_fr_tr Fhp29 (sf_fr_wider (W := [(11, 0, 0), (145, 0, 867), (146, 0, 0), (147, 0, 1)]) rfl fhp42)
                refine bs_iinc (1) rfl rfl rfl rfl (by omega) (by omega) fun z43 hz43 => ?_
                refine (show Ev _ 77 ([some (.ref 69), some (.int x1), some (.int z43)], [], (0, 0), hp42) _ from ?_)
                refine Ev.step (j := 51) (s' := ([some (.ref 69), some (.int x1), some (.int z43)], [], (0, 0), hp42)) rfl rfl ?_
                refine ih31 (z43, hp42, t30) ⟨Hhp42, Fhp42, (by first | omega | assumption)⟩ ?_
                show (14 - z43.toInt).toNat < (14 - k28.toInt).toNat
                omega
            · exfalso; omega
        · exfalso; omega
def kq_X11_restore_h : sf_Q := ([(1, 11, 0), (0, 0, 0)], [], some (0, 0, 0), [(1, 0, 0, 0, 1, 0)], [(11, 0, 0), (11, 25, 25), (132, 0, 433), (135, 0, 0)])
set_option maxRecDepth 100000 in
set_option maxHeartbeats 4000000 in
theorem ct_X11_restore_h : sf_ct kq_X11_restore_h Z_X11_restore := by
  intro t hp as H hl hj hpre
  match as, hl with
  | [v0, v1], _ =>
    obtain ⟨a0, rfl, ra0⟩ := bs_aR (hj 0 _ rfl)
    obtain rfl := ra0.eq H (p := 69) rfl
    obtain ⟨x1, rfl⟩ := bs_aI (hj 1 _ rfl)
    have rg1 := n_range x1
    clear hpre hj
    have F0 : sf_fr [(11, 0, 0), (11, 25, 25), (132, 0, 433), (135, 0, 0)] t hp t hp := sf_fr_rf
    refine bs_fin (K := kq_X11_restore_h) (L := (L_X11_restore Z_X11_isIn)) (nL := 3) (Nat.le_of_ble_eq_true rfl) ?_
    obtain ⟨Q, hQ⟩ : ∃ Q : ab_O → Prop, Q = (fun o => ∃ t', sf_h t' o.2 ∧ sf_fr (kq_X11_restore_h).2.2.2.2 t hp t' o.2 ∧ sf_an t' o.2.1 (kq_X11_restore_h).2.2.1 o.1 ∧ sf_S (sf_v1 o.1 [.ref 69, .int x1] o.2) (kq_X11_restore_h).2.2.2.1) := ⟨_, rfl⟩
    rw [← hQ]
    refine (show Ev (ab_T (L_X11_restore Z_X11_isIn)) 0 ([some (.ref 69), some (.int x1), none], [], (0, 0), hp) Q from ?_)
    refine Ev.step (j := 1) (s' := ([some (.ref 69), some (.int x1), none], [.ref 69], (0, 0), hp)) rfl rfl ?_
    refine bs_lit (k := 0) rfl rfl fun z1 hz1 => ?_
    refine bs_putI (W := [(11, 0, 0)]) (g := 11) rfl rfl H (bs_R.uq H (g := 11) rfl) (by decide) rfl rfl rfl rfl (Or.inl rfl) (by omega) (by omega) fun hp2 Hhp2 fhp2 rhp2 ehp2 qhp2 nhp2 => ?_
    have Fhp2 := sf_fr_tr F0 (sf_fr_wider (W := [(11, 0, 0), (11, 25, 25), (132, 0, 433), (135, 0, 0)]) rfl fhp2)
    refine Ev.step (j := 6) (s' := ([some (.ref 69), some (.int x1), none], [.int x1], (0, 0), hp2)) rfl rfl ?_
    refine bs_lit (k := 0) rfl rfl fun z3 hz3 => ?_
    refine bs_lit (k := 1) rfl rfl fun z4 hz4 => ?_
    refine Ev.inlS (L := L_X11_isIn) (nL := 3) rfl rfl (Nat.le_of_ble_eq_true rfl) ?_
    generalize hQ5 : (fun (o : ab_O) => Ev _ _ _ _) = Q5
    refine (show Ev (ab_T L_X11_isIn) 0 ([some (.int x1), some (.int z3), some (.int z4)], [], (0, 0), hp2) Q5 from ?_)
    refine Ev.step (j := 1) (s' := ([some (.int x1), some (.int z3), some (.int z4)], [.int x1], (0, 0), hp2)) rfl rfl ?_
    refine Ev.step (j := 2) (s' := ([some (.int x1), some (.int z3), some (.int z4)], [.int z3, .int x1], (0, 0), hp2)) rfl rfl ?_
    refine bs_lt rfl (fun c6 => ?_) (fun c6 => ?_)
    · skip
      refine bs_lit (k := 0) rfl rfl fun z7 hz7 => ?_
      refine bs_zret rfl rfl (by omega) (by omega) ?_
      rw [← hQ5]
      refine (show Ev _ 11 ([some (.ref 69), some (.int x1), none], [.int z7], (0, 0), hp2) _ from ?_)
      refine bs_ifeq rfl (fun c8 => ?_) (fun c8 => ?_)
      · skip
        refine bs_lit (k := 0) rfl rfl fun z9 hz9 => ?_
        exact bs_zret rfl rfl (by omega) (by omega) (by rw [hQ]; exact ⟨t, Hhp2, Fhp2, bs_an0, sf_S_cons (sf_s1 (x := z9.toInt) rfl (by omega) (by omega)) (sf_S_nil)⟩)
      · exfalso; omega
    · skip
      refine Ev.step (j := 6) (s' := ([some (.int x1), some (.int z3), some (.int z4)], [.int x1], (0, 0), hp2)) rfl rfl ?_
      refine Ev.step (j := 7) (s' := ([some (.int x1), some (.int z3), some (.int z4)], [.int z4, .int x1], (0, 0), hp2)) rfl rfl ?_
      refine bs_gt rfl (fun c10 => ?_) (fun c10 => ?_)
      · skip
        refine bs_lit (k := 0) rfl rfl fun z11 hz11 => ?_
        refine bs_zret rfl rfl (by omega) (by omega) ?_
        rw [← hQ5]
        refine (show Ev _ 11 ([some (.ref 69), some (.int x1), none], [.int z11], (0, 0), hp2) _ from ?_)
        refine bs_ifeq rfl (fun c12 => ?_) (fun c12 => ?_)
        · skip
          refine bs_lit (k := 0) rfl rfl fun z13 hz13 => ?_
          exact bs_zret rfl rfl (by omega) (by omega) (by rw [hQ]; exact ⟨t, Hhp2, Fhp2, bs_an0, sf_S_cons (sf_s1 (x := z13.toInt) rfl (by omega) (by omega)) (sf_S_nil)⟩)
        · exfalso; omega
      · skip
        refine bs_lit (k := 1) rfl rfl fun z14 hz14 => ?_
        refine Ev.step (j := 15) (s' := ([some (.int x1), some (.int z3), some (.int z4)], [.int z14], (0, 0), hp2)) rfl rfl ?_
        refine bs_zret rfl rfl (by omega) (by omega) ?_
        rw [← hQ5]
        refine (show Ev _ 11 ([some (.ref 69), some (.int x1), none], [.int z14], (0, 0), hp2) _ from ?_)
        refine bs_ifeq rfl (fun c15 => ?_) (fun c15 => ?_)
        · exfalso; omega
        · skip
          refine Ev.step (j := 15) (s' := ([some (.ref 69), some (.int x1), none], [.ref 69], (0, 0), hp2)) rfl rfl ?_
          refine bs_getU (g := 11) (g1 := 147) rfl rfl Hhp2 (bs_R.uq Hhp2 (g := 11) rfl) (by decide) rfl rfl ?_
          refine Ev.step (j := 19) (s' := ([some (.ref 69), some (.int x1), none], [.int x1, .ref 86], (0, 0), hp2)) rfl rfl ?_
          refine bs_ld (g := 147) 0 1 (-2147483648, 2147483647) rfl Hhp2 (bs_R.uq Hhp2 (g := 147) rfl) (by decide) rfl (by decide) (by decide) rfl (by decide) (by omega) (by omega) fun z16 hz16 lz16 gz16 => ?_
          dsimp only at lz16 gz16
          refine bs_ifne rfl (fun c17 => ?_) (fun c17 => ?_)
          · skip
            refine bs_lit (k := 0) rfl rfl fun z18 hz18 => ?_
            refine Ev.step (j := 27) (s' := ([some (.ref 69), some (.int x1), some (.int z18)], [], (0, 0), hp2)) rfl rfl ?_
            obtain ⟨n69, fl, e69, hfl⟩ := fl_get Hhp2
            obtain ⟨n71, f71, e71, k71⟩ := ar_get Hhp2 132 71 434 rfl (by decide) rfl rfl
            obtain ⟨n84, f84, e84, k84⟩ := ar_get Hhp2 145 84 868 rfl (by decide) rfl rfl
            obtain ⟨o0, ho0, ho⟩ : ∃ o : Nat, (o : Int) = 434 * x1.toInt ∧ (o = 0 ∨ o = 434) := ⟨(434 * x1.toInt).toNat, by omega, by omega⟩
            refine Ev.hp (show hp2 = ab_up hp2 71 (.inl (1, 434, .inl (cpf f71 (fun i => f84 (o0 + i)) 0 0))) by rw [cpf_0]; exact ab_up_same e71) ?_
            refine cp_loop (N := 434) (fun zz nn => ([some (.ref 69), some (.int x1), some (.int zz)], [], (0, 0), (ab_up hp2 71 (.inl (1, 434, .inl (cpf f71 (fun i => f84 (o0 + i)) 0 nn)))))) ?_ ?_ z18 (by omega)
            · intro nn zz hnn hzz ih
              refine (show Ev _ 27 ([some (.ref 69), some (.int x1), some (.int zz)], [], (0, 0), (ab_up hp2 71 (.inl (1, 434, .inl (cpf f71 (fun i => f84 (o0 + i)) 0 nn))))) _ from ?_)
              have m69 : (ab_up hp2 71 (.inl (1, 434, .inl (cpf f71 (fun i => f84 (o0 + i)) 0 nn)))).2 69 = .inr (11, fl) := (ab_up_ne (by decide)).trans e69
              have m84 : (ab_up hp2 71 (.inl (1, 434, .inl (cpf f71 (fun i => f84 (o0 + i)) 0 nn)))).2 84 = .inl (1, 868, .inl f84) := (ab_up_ne (by decide)).trans e84
              refine Ev.step (j := 28) (s' := ([some (.ref 69), some (.int x1), some (.int zz)], [.int zz], (0, 0), (ab_up hp2 71 (.inl (1, 434, .inl (cpf f71 (fun i => f84 (o0 + i)) 0 nn)))))) rfl rfl ?_
              refine bs_lit (k := 434) rfl rfl fun z19 hz19 => ?_
              refine bs_ge rfl (fun c20 => ?_) (fun c20 => ?_)
              · exfalso; omega
              · skip
                refine Ev.step (j := 35) (s' := ([some (.ref 69), some (.int x1), some (.int zz)], [.ref 69], (0, 0), (ab_up hp2 71 (.inl (1, 434, .inl (cpf f71 (fun i => f84 (o0 + i)) 0 nn)))))) rfl rfl ?_
                refine Ev.getf rfl n69 m69 (hfl 6 132 71 rfl rfl) ?_
                refine (show Ev _ 38 ([some (.ref 69), some (.int x1), some (.int zz)], [.ref 71], (0, 0), (ab_up hp2 71 (.inl (1, 434, .inl (cpf f71 (fun i => f84 (o0 + i)) 0 nn))))) _ from ?_)
                refine Ev.step (j := 39) (s' := ([some (.ref 69), some (.int x1), some (.int zz)], [.int zz, .ref 71], (0, 0), (ab_up hp2 71 (.inl (1, 434, .inl (cpf f71 (fun i => f84 (o0 + i)) 0 nn)))))) rfl rfl ?_
                refine Ev.step (j := 40) (s' := ([some (.ref 69), some (.int x1), some (.int zz)], [.ref 69, .int zz, .ref 71], (0, 0), (ab_up hp2 71 (.inl (1, 434, .inl (cpf f71 (fun i => f84 (o0 + i)) 0 nn)))))) rfl rfl ?_
                refine Ev.getf rfl n69 m69 (hfl 40 145 84 rfl rfl) ?_
                refine (show Ev _ 43 ([some (.ref 69), some (.int x1), some (.int zz)], [.ref 84, .int zz, .ref 71], (0, 0), (ab_up hp2 71 (.inl (1, 434, .inl (cpf f71 (fun i => f84 (o0 + i)) 0 nn))))) _ from ?_)
                refine bs_lit (k := 434) rfl rfl fun z21 hz21 => ?_
                refine Ev.step (j := 47) (s' := ([some (.ref 69), some (.int x1), some (.int zz)], [.int x1, .int z21, .ref 84, .int zz, .ref 71], (0, 0), (ab_up hp2 71 (.inl (1, 434, .inl (cpf f71 (fun i => f84 (o0 + i)) 0 nn)))))) rfl rfl ?_
                refine bs_mul (434) rfl (Or.inl hz21) (by rw [hz21]; omega) (by rw [hz21]; omega) fun z22 hz22 => ?_
                rw [hz21] at hz22
                refine Ev.step (j := 49) (s' := ([some (.ref 69), some (.int x1), some (.int zz)], [.int zz, .int z22, .ref 84, .int zz, .ref 71], (0, 0), (ab_up hp2 71 (.inl (1, 434, .inl (cpf f71 (fun i => f84 (o0 + i)) 0 nn)))))) rfl rfl ?_
                first | (refine bs_add rfl (by omega) (by omega) fun z23 hz23 => ?_) | (refine bs_any rfl fun z23 => ?_)
                have rz23 := n_range z23
                refine Ev.ald rfl n84 m84 (n_in (by omega) (by omega)) ?_
                refine (show Ev _ 51 ([some (.ref 69), some (.int x1), some (.int zz)], [.int (f84 z23.toNatClampNeg), .int zz, .ref 71], (0, 0), (ab_up hp2 71 (.inl (1, 434, .inl (cpf f71 (fun i => f84 (o0 + i)) 0 nn))))) _ from ?_)
                refine Ev.ast rfl n71 (ab_up_eq _ _ _) (n_in (by omega) (by omega)) ?_
                refine Ev.hp (cpf_up (n_at (by omega)) (congrArg f84 (n_at (by omega)))) ?_
                refine bs_iinc (1) rfl rfl rfl rfl (by omega) (by omega) fun z24 hz24 => ?_
                refine (show Ev _ 55 ([some (.ref 69), some (.int x1), some (.int z24)], [], (0, 0), (ab_up hp2 71 (.inl (1, 434, .inl (cpf f71 (fun i => f84 (o0 + i)) 0 (nn + 1)))))) _ from ?_)
                refine Ev.step (j := 27) (s' := ([some (.ref 69), some (.int x1), some (.int z24)], [], (0, 0), (ab_up hp2 71 (.inl (1, 434, .inl (cpf f71 (fun i => f84 (o0 + i)) 0 (nn + 1))))))) rfl rfl ?_
                exact ih z24 (by omega)
            · intro zz hzz
              refine (show Ev _ 27 ([some (.ref 69), some (.int x1), some (.int zz)], [], (0, 0), (ab_up hp2 71 (.inl (1, 434, .inl (cpf f71 (fun i => f84 (o0 + i)) 0 434))))) _ from ?_)
              have m69 : (ab_up hp2 71 (.inl (1, 434, .inl (cpf f71 (fun i => f84 (o0 + i)) 0 434)))).2 69 = .inr (11, fl) := (ab_up_ne (by decide)).trans e69
              refine Ev.step (j := 28) (s' := ([some (.ref 69), some (.int x1), some (.int zz)], [.int zz], (0, 0), (ab_up hp2 71 (.inl (1, 434, .inl (cpf f71 (fun i => f84 (o0 + i)) 0 434)))))) rfl rfl ?_
              refine bs_lit (k := 434) rfl rfl fun z25 hz25 => ?_
              refine bs_ge rfl (fun c26 => ?_) (fun c26 => ?_)
              · skip
                have EK : ∀ q, q < 434 → sf_v t hp2.1 (sf_e (sf_A 132).2.2 q) (.int ((cpf f71 (fun i => f84 (o0 + i)) 0 434) q)) := by
                  intro q hq
                  by_cases c : 0 ≤ q ∧ q < 0 + 434
                  · rw [cpf_in c.1 c.2]
                    have h := k84 (o0 + (q - 0)) (by omega)
                    rw [sg_145 _ (by omega), show (o0 + (q - 0)) % 434 = q by omega] at h
                    exact h
                  · rw [cpf_out (by omega)]
                    exact k71 q hq
                have I3 := Hhp2.2.2.2.2.2
                have E3 : sf_I3 (ab_up hp2 71 (.inl (1, 434, .inl (cpf f71 (fun i => f84 (o0 + i)) 0 434)))) := by
                  refine ⟨?_, by rw [cd_ne (by decide)]; exact I3.2.1, by rw [cd_ne (by decide)]; exact I3.2.2⟩
                  rcases ho with h | h
                  · exact cd_ok_same (fun j hj => by rw [cd_up (by omega), cd_at e84 (by omega), cpf_in (by omega) (by omega), show o0 + (253 + j - 0) = 253 + j by omega]) I3.2.1
                  · exact cd_ok_same (fun j hj => by rw [cd_up (by omega), cd_at e84 (by omega), cpf_in (by omega) (by omega), show o0 + (253 + j - 0) = 687 + j by omega]) I3.2.2
                obtain ⟨Hhp27, fhp27⟩ := cp_end (a := 71) (len := 434) (f' := (cpf f71 (fun i => f84 (o0 + i)) 0 434)) (i0 := 0) (i1 := 433) Hhp2 (bs_R.uq Hhp2 (g := 132) rfl) (by decide) rfl rfl e71 EK (by decide) (fun q hq => cpf_out (by omega)) E3
                clear EK E3 I3
                obtain ⟨hp27, qhp27⟩ : ∃ x, x = (ab_up hp2 71 (.inl (1, 434, .inl (cpf f71 (fun i => f84 (o0 + i)) 0 434)))) := ⟨_, rfl⟩
                rw [← qhp27] at Hhp27 fhp27
                rw [← qhp27]
                have Fhp27 := sf_fr_tr Fhp2 (sf_fr_wider (W := [(11, 0, 0), (11, 25, 25), (132, 0, 433), (135, 0, 0)]) rfl fhp27)
                have h28 : sf_rd hp27 69 0 = some z1.toInt := (fhp27.2.2.1 _ (bs_R.uq Hhp2 (g := 11) (p := 69) rfl).1 _ (by rw [(bs_R.uq Hhp2 (g := 11) (p := 69) rfl).2]; rfl)).trans rhp2
                have h29 : sf_rd hp27 86 x1.toInt.toNat = some z16.toInt := (fhp27.2.2.1 _ (bs_R.uq Hhp2 (g := 147) (p := 86) rfl).1 _ (by rw [(bs_R.uq Hhp2 (g := 147) (p := 86) rfl).2]; rfl)).trans hz16
                refine bs_lit (k := 0) rfl rfl fun z30 hz30 => ?_
                refine Ev.step (j := 60) (s' := ([some (.ref 69), some (.int x1), some (.int z30)], [], (0, 0), hp27)) rfl rfl ?_
                refine bs_loop (ι := Int32 × ab_H × (Nat → Nat)) (fun ⟨k31, hp32, t33⟩ => ([some (.ref 69), some (.int x1), some (.int k31)], [], (0, 0), hp32)) (fun ⟨k31, hp32, t33⟩ => (sf_h t33 hp32) ∧ (sf_fr [(11, 0, 0), (11, 25, 25), (132, 0, 433), (135, 0, 0)] t hp t33 hp32) ∧ (0 ≤ k31.toInt ∧ k31.toInt ≤ 14)) (fun ⟨k31, hp32, t33⟩ => (14 - k31.toInt).toNat) ?_ (z30, hp27, t) ⟨Hhp27, Fhp27, (by first | omega | assumption)⟩
                rintro ⟨k31, hp32, t33⟩ ⟨Hhp32, Fhp32, i35⟩ ih34
                refine (show Ev _ 60 ([some (.ref 69), some (.int x1), some (.int k31)], [], (0, 0), hp32) _ from ?_)
                refine Ev.step (j := 61) (s' := ([some (.ref 69), some (.int x1), some (.int k31)], [.int k31], (0, 0), hp32)) rfl rfl ?_
                refine bs_lit (k := 14) rfl rfl fun z36 hz36 => ?_
                refine bs_ge rfl (fun c37 => ?_) (fun c37 => ?_)
                · skip
                  refine Ev.step (j := 90) (s' := ([some (.ref 69), some (.int x1), some (.int k31)], [.ref 69], (0, 0), hp32)) rfl rfl ?_
                  refine bs_lit (k := 0) rfl rfl fun z38 hz38 => ?_
                  refine bs_putI (W := [(11, 25, 25)]) (g := 11) rfl rfl Hhp32 (bs_R.uq Hhp32 (g := 11) rfl) (by decide) rfl rfl rfl rfl (Or.inl rfl) (by omega) (by omega) fun hp39 Hhp39 fhp39 rhp39 ehp39 qhp39 nhp39 => ?_
                  have Fhp39 := sf_fr_tr Fhp32 (sf_fr_wider (W := [(11, 0, 0), (11, 25, 25), (132, 0, 433), (135, 0, 0)]) rfl fhp39)
                  refine bs_lit (k := 1) rfl rfl fun z40 hz40 => ?_
                  exact bs_zret rfl rfl (by omega) (by omega) (by rw [hQ]; exact ⟨t33, Hhp39, Fhp39, bs_an0, sf_S_cons (sf_s1 (x := z40.toInt) rfl (by omega) (by omega)) (sf_S_nil)⟩)
                · skip
                  refine Ev.step (j := 67) (s' := ([some (.ref 69), some (.int x1), some (.int k31)], [.ref 69], (0, 0), hp32)) rfl rfl ?_
                  refine bs_getU (g := 11) (g1 := 135) rfl rfl Hhp32 (bs_R.uq Hhp32 (g := 11) rfl) (by decide) rfl rfl ?_
                  refine Ev.step (j := 71) (s' := ([some (.ref 69), some (.int x1), some (.int k31)], [.int k31, .ref 74], (0, 0), hp32)) rfl rfl ?_
                  refine Ev.step (j := 72) (s' := ([some (.ref 69), some (.int x1), some (.int k31)], [.ref 69, .int k31, .ref 74], (0, 0), hp32)) rfl rfl ?_
                  refine bs_getU (g := 11) (g1 := 146) rfl rfl Hhp32 (bs_R.uq Hhp32 (g := 11) rfl) (by decide) rfl rfl ?_
                  refine bs_lit (k := 14) rfl rfl fun z41 hz41 => ?_
                  refine Ev.step (j := 78) (s' := ([some (.ref 69), some (.int x1), some (.int k31)], [.int x1, .int z41, .ref 85, .int k31, .ref 74], (0, 0), hp32)) rfl rfl ?_
                  refine bs_mul (14) rfl (Or.inl hz41) (by rw [hz41]; omega) (by rw [hz41]; omega) fun z42 hz42 => ?_
                  rw [hz41] at hz42
                  refine Ev.step (j := 80) (s' := ([some (.ref 69), some (.int x1), some (.int k31)], [.int k31, .int z42, .ref 85, .int k31, .ref 74], (0, 0), hp32)) rfl rfl ?_
                  first | (refine bs_add rfl (by omega) (by omega) fun z43 hz43 => ?_) | (refine bs_any rfl fun z43 => ?_)
                  have rz43 := n_range z43
                  refine bs_lald (g := 146) rfl Hhp32 (bs_R.uq Hhp32 (g := 146) rfl) (by decide) rfl (by omega) (by show _ < ((28 : Nat) : Int); omega) fun w44 => ?_
                  refine bs_last (W := [(135, 0, 0)]) (g := 135) rfl Hhp32 (bs_R.uq Hhp32 (g := 135) rfl) (by decide) rfl rfl (by omega) (by show _ < ((28 : Nat) : Int); omega) fun hp45 Hhp45 fhp45 ehp45 qhp45 nhp45 => ?_
                  have Fhp45 := sf_fr_tr Fhp32 (sf_fr_wider (W := [(11, 0, 0), (11, 25, 25), (132, 0, 433), (135, 0, 0)]) rfl fhp45)
                  refine bs_iinc (1) rfl rfl rfl rfl (by omega) (by omega) fun z46 hz46 => ?_
                  refine (show Ev _ 86 ([some (.ref 69), some (.int x1), some (.int z46)], [], (0, 0), hp45) _ from ?_)
                  refine Ev.step (j := 60) (s' := ([some (.ref 69), some (.int x1), some (.int z46)], [], (0, 0), hp45)) rfl rfl ?_
                  refine ih34 (z46, hp45, t33) ⟨Hhp45, Fhp45, (by first | omega | assumption)⟩ ?_
                  show (14 - z46.toInt).toNat < (14 - k31.toInt).toNat
                  omega
              · exfalso; omega
          · skip
            have c47 : z16.toInt = 0 := by omega
            refine bs_lit (k := 0) rfl rfl fun z48 hz48 => ?_
            exact bs_zret rfl rfl (by omega) (by omega) (by rw [hQ]; exact ⟨t, Hhp2, Fhp2, bs_an0, sf_S_cons (sf_s1 (x := z48.toInt) rfl (by omega) (by omega)) (sf_S_nil)⟩)
def kq_X11_bits_a : sf_Q := ([(0, 0, 0)], [], some (0, 0, 0), [], [])
theorem ct_X11_bits_a : sf_ct kq_X11_bits_a Z_X11_bits := by
  intro t hp as H hl hj hpre
  match as, hl with
  | [v0], _ =>
    obtain ⟨x, rfl⟩ := bs_aI (hj 0 _ rfl)
    refine bs_fin (K := kq_X11_bits_a) (L := L_X11_bits) (nL := 3) (Nat.le_of_ble_eq_true rfl) ?_
    obtain ⟨Q, hQ⟩ : ∃ Q : ab_O → Prop, Q = (fun o => ∃ t', sf_h t' o.2 ∧ sf_fr (kq_X11_bits_a).2.2.2.2 t hp t' o.2 ∧ sf_an t' o.2.1 (kq_X11_bits_a).2.2.1 o.1 ∧ sf_S (sf_v1 o.1 [.int x] o.2) (kq_X11_bits_a).2.2.2.1) := ⟨_, rfl⟩
    rw [← hQ]
    refine (show Ev (ab_T L_X11_bits) 0 ([some (.int x), none, none], [], (0, 0), hp) Q from ?_)
    refine Ev.step (j := 1) (s' := ([some (.int x), none, none], [.int 0], (0, 0), hp)) rfl rfl ?_
    refine Ev.step (j := 2) (s' := ([some (.int x), some (.int 0), none], [], (0, 0), hp)) rfl rfl ?_
    refine Ev.step (j := 3) (s' := ([some (.int x), some (.int 0), none], [.int x], (0, 0), hp)) rfl rfl ?_
    refine Ev.step (j := 4) (s' := ([some (.int x), some (.int 0), some (.int x)], [], (0, 0), hp)) rfl rfl ?_
    refine bs_loop (ι := Int32 × Int32) (fun ⟨n, v⟩ => ([some (.int x), some (.int n), some (.int v)], [], (0, 0), hp)) (fun _ => True) (fun ⟨_, v⟩ => v.toBitVec.toNat) ?_ (0, x) trivial
    rintro ⟨n, v⟩ - ih
    refine (show Ev _ 4 ([some (.int x), some (.int n), some (.int v)], [], (0, 0), hp) _ from ?_)
    refine Ev.step (j := 5) (s' := ([some (.int x), some (.int n), some (.int v)], [.int v], (0, 0), hp)) rfl rfl ?_
    refine bs_ifeq rfl (fun c => ?_) (fun c => ?_)
    · refine Ev.step (j := 21) (s' := ([some (.int x), some (.int n), some (.int v)], [.int n], (0, 0), hp)) rfl rfl ?_
      exact Ev.ret rfl rfl (by rw [hQ]; exact ⟨t, H, sf_fr_rf, bs_an0, sf_S_nil⟩)
    · refine Ev.step (j := 11) (s' := ([some (.int x), some (.int (n + 1)), some (.int v)], [], (0, 0), hp)) rfl rfl ?_
      refine Ev.step (j := 12) (s' := ([some (.int x), some (.int (n + 1)), some (.int v)], [.int v], (0, 0), hp)) rfl rfl ?_
      refine Ev.step (j := 13) (s' := ([some (.int x), some (.int (n + 1)), some (.int v)], [.int v, .int v], (0, 0), hp)) rfl rfl ?_
      refine Ev.step (j := 14) (s' := ([some (.int x), some (.int (n + 1)), some (.int v)], [.int 1, .int v, .int v], (0, 0), hp)) rfl rfl ?_
      refine Ev.step (j := 15) (s' := ([some (.int x), some (.int (n + 1)), some (.int v)], [.int (v - 1), .int v], (0, 0), hp)) rfl rfl ?_
      refine Ev.step (j := 16) (s' := ([some (.int x), some (.int (n + 1)), some (.int v)], [.int (v &&& (v - 1))], (0, 0), hp)) rfl rfl ?_
      refine Ev.step (j := 17) (s' := ([some (.int x), some (.int (n + 1)), some (.int (v &&& (v - 1)))], [], (0, 0), hp)) rfl rfl ?_
      refine Ev.step (j := 4) (s' := ([some (.int x), some (.int (n + 1)), some (.int (v &&& (v - 1)))], [], (0, 0), hp)) rfl rfl ?_
      exact ih (n + 1, v &&& (v - 1)) trivial (n_bit c)
def kq_X11_dearest_6afe8b : sf_Q := ([(1, 11, 0)], [], some (0, 0, 0), [(1, 36002, 0, 0, 0, 0), (1, 0, 0, -1, 7, 0)], [(11, 0, 0)])
def kc_X11_dearest_6afe8b : List (Nat × sf_I) := [(0, 4, [1, 0]),
  (1, 0, [2, 0]),
  (2, 24, [5, 11, 0, 0]),
  (5, 0, [6, -1]),
  (6, 5, [7, 1]),
  (7, 0, [8, 0]),
  (8, 5, [9, 2]),
  (9, 0, [10, 0]),
  (10, 5, [11, 3]),
  (11, 2, [12, 3]),
  (12, 4, [13, 0]),
  (13, 23, [16, 11, 6]),
  (16, 0, [17, 1]),
  (17, 25, [18, 1]),
  (18, 21, [21, 53, 5]),
  (21, 4, [22, 0]),
  (22, 2, [23, 3]),
  (23, 32, [26, 0, 2, 11, 0, 0, 0, 0]),
  (26, 31, [29, 1, 1, 0, 0, 0, 0]),
  (29, 2, [30, 2]),
  (30, 21, [33, 36, 4]),
  (33, 22, [47]),
  (36, 4, [37, 0]),
  (37, 2, [38, 3]),
  (38, 32, [41, 0, 2, 11, 0, 0, 0, 0]),
  (41, 31, [44, 1, 1, 0, 0, 0, 0]),
  (44, 5, [45, 2]),
  (45, 2, [46, 3]),
  (46, 5, [47, 1]),
  (47, 8, [50, 3, 1]),
  (50, 22, [11]),
  (53, 2, [54, 1]),
  (54, 35, [0, 0])]
def kd_X11_dearest_6afe8b_0 : List (Nat × sf_D × sf_M) := [(0, ([(1, 11, 0), (8, 0, 0), (8, 0, 0), (8, 0, 0)], [], [], 0, 0), (220, [])),
  (1, ([(1, 11, 0), (8, 0, 0), (8, 0, 0), (8, 0, 0)], [(1, 11, 0)], [], 0, 0), (219, [])),
  (2, ([(1, 11, 0), (8, 0, 0), (8, 0, 0), (8, 0, 0)], [(0, 0, 0), (1, 11, 0)], [(1, 3, 0, 0, 0, 0)], 0, 0), (218, [])),
  (5, ([(1, 11, 0), (8, 0, 0), (8, 0, 0), (8, 0, 0)], [], [(1, 36002, 0, 0, 0, 0)], 0, 0), (217, [])),
  (6, ([(1, 11, 0), (8, 0, 0), (8, 0, 0), (8, 0, 0)], [(0, 0, 0)], [(1, 36002, 0, 0, 0, 0), (1, 0, 0, -1, -1, 0)], 0, 0), (216, [])),
  (7, ([(1, 11, 0), (0, 0, 0), (8, 0, 0), (8, 0, 0)], [], [(1, 36002, 0, 0, 0, 0), (1, 4, 0, -1, -1, 0)], 0, 0), (215, [])),
  (8, ([(1, 11, 0), (0, 0, 0), (8, 0, 0), (8, 0, 0)], [(0, 0, 0)], [(1, 36002, 0, 0, 0, 0), (1, 4, 0, -1, -1, 0), (1, 0, 0, 0, 0, 0)], 0, 0), (214, [])),
  (9, ([(1, 11, 0), (0, 0, 0), (0, 0, 0), (8, 0, 0)], [], [(1, 36002, 0, 0, 0, 0), (1, 4, 0, -1, -1, 0), (1, 7, 0, 0, 0, 0)], 0, 0), (213, [])),
  (10, ([(1, 11, 0), (0, 0, 0), (0, 0, 0), (8, 0, 0)], [(0, 0, 0)], [(1, 36002, 0, 0, 0, 0), (1, 4, 0, -1, -1, 0), (1, 7, 0, 0, 0, 0), (1, 0, 0, 0, 0, 0)], 0, 0), (212, []))]
def kd_X11_dearest_6afe8b_1 : List (Nat × sf_D × sf_M) := [(11, ([(1, 11, 0), (0, 0, 0), (0, 0, 0), (0, 0, 0)], [], [(1, 36002, 0, 0, 0, 0), (1, 4, 0, -1, 7, 0), (1, 7, 0, -2147483648, 2147483647, 0), (1, 10, 0, 0, 8, 0), (3, 10, 399005, 1, 8, 0)], 0, 0), (19, [(24, 10, 8, 0)])),
  (12, ([(1, 11, 0), (0, 0, 0), (0, 0, 0), (0, 0, 0)], [(0, 0, 0)], [(1, 36002, 0, 0, 0, 0), (1, 4, 0, -1, 7, 0), (1, 7, 0, -2147483648, 2147483647, 0), (1, 10, 0, 0, 8, 0), (1, 0, 0, 0, 8, 0), (3, 10, 399005, 1, 8, 0), (2, 0, 10, 1, 0, 0)], 0, 0), (18, [(24, 10, 8, 0)])),
  (13, ([(1, 11, 0), (0, 0, 0), (0, 0, 0), (0, 0, 0)], [(1, 11, 0), (0, 0, 0)], [(1, 36002, 0, 0, 0, 0), (1, 4, 0, -1, 7, 0), (1, 7, 0, -2147483648, 2147483647, 0), (1, 10, 0, 0, 8, 0), (1, 0, 0, 0, 8, 0), (3, 10, 399005, 1, 8, 0), (2, 0, 10, 1, 0, 0)], 0, 0), (17, [(24, 10, 8, 0)])),
  (16, ([(1, 11, 0), (0, 0, 0), (0, 0, 0), (0, 0, 0)], [(1, 132, 0), (0, 0, 0)], [(1, 36002, 0, 0, 0, 0), (1, 4, 0, -1, 7, 0), (1, 7, 0, -2147483648, 2147483647, 0), (1, 10, 0, 0, 8, 0), (1, 0, 0, 0, 8, 0), (3, 10, 399005, 1, 8, 0), (2, 0, 10, 1, 0, 0)], 0, 0), (16, [(24, 10, 8, 0)]))]
def kd_X11_dearest_6afe8b_2 : List (Nat × sf_D × sf_M) := [(17, ([(1, 11, 0), (0, 0, 0), (0, 0, 0), (0, 0, 0)], [(0, 0, 0), (1, 132, 0), (0, 0, 0)], [(1, 36002, 0, 0, 0, 0), (1, 4, 0, -1, 7, 0), (1, 7, 0, -2147483648, 2147483647, 0), (1, 10, 0, 0, 8, 0), (1, 0, 0, 0, 8, 0), (1, 6, 0, 1, 1, 0), (2, 0, 10, 1, 0, 0), (3, 10, 399005, 1, 8, 0)], 0, 0), (15, [(24, 10, 8, 0)])),
  (18, ([(1, 11, 0), (0, 0, 0), (0, 0, 0), (0, 0, 0)], [(0, 0, 0), (0, 0, 0)], [(1, 36002, 0, 0, 0, 0), (1, 4, 0, -1, 7, 0), (1, 7, 0, -2147483648, 2147483647, 0), (1, 10, 0, 0, 8, 0), (1, 0, 0, 0, 8, 0), (1, 3, 0, 0, 8, 0), (1, 399005, 0, -2147483648, 2147483647, 0), (2, 0, 10, 1, 0, 0), (3, 10, 399005, 1, 8, 0), (2, 3, 399005, 1, 0, 0)], 0, 0), (14, [(24, 10, 8, 0)])),
  (21, ([(1, 11, 0), (0, 0, 0), (0, 0, 0), (0, 0, 0)], [], [(1, 36002, 0, 0, 0, 0), (1, 4, 0, -1, 7, 0), (1, 7, 0, -2147483648, 2147483647, 0), (1, 10, 0, 0, 7, 0), (1, 399005, 0, 1, 8, 0)], 0, 0), (13, [(24, 10, 8, 0)])),
  (22, ([(1, 11, 0), (0, 0, 0), (0, 0, 0), (0, 0, 0)], [(1, 11, 0)], [(1, 36002, 0, 0, 0, 0), (1, 4, 0, -1, 7, 0), (1, 7, 0, -2147483648, 2147483647, 0), (1, 10, 0, 0, 7, 0), (1, 399005, 0, 1, 8, 0)], 0, 0), (12, [(24, 10, 8, 0)]))]
def kd_X11_dearest_6afe8b_3 : List (Nat × sf_D × sf_M) := [(23, ([(1, 11, 0), (0, 0, 0), (0, 0, 0), (0, 0, 0)], [(0, 0, 0), (1, 11, 0)], [(1, 36002, 0, 0, 0, 0), (1, 4, 0, -1, 7, 0), (1, 7, 0, -2147483648, 2147483647, 0), (1, 10, 0, 0, 7, 0), (1, 399005, 0, 1, 8, 0), (1, 3, 0, 0, 7, 0), (2, 3, 10, 1, 0, 0)], 0, 0), (11, [(24, 10, 8, 0)])),
  (26, ([(1, 11, 0), (0, 0, 0), (0, 0, 0), (0, 0, 0)], [(0, 0, 0)], [(1, 36002, 0, 0, 0, 0), (1, 4, 0, -1, 7, 0), (1, 7, 0, -2147483648, 2147483647, 0), (1, 10, 0, 0, 7, 0), (1, 399005, 0, 1, 8, 0), (1, 0, 0, -2147483648, 2147483647, 0)], 0, 0), (10, [(24, 10, 8, 0)])),
  (29, ([(1, 11, 0), (0, 0, 0), (0, 0, 0), (0, 0, 0)], [(0, 0, 0)], [(1, 36002, 0, 0, 0, 0), (1, 4, 0, -1, 7, 0), (1, 7, 0, -2147483648, 2147483647, 0), (1, 10, 0, 0, 7, 0), (1, 399005, 0, 1, 8, 0), (1, 0, 0, -2147483648, 2147483647, 0)], 0, 0), (9, [(24, 10, 8, 0)])),
  (30, ([(1, 11, 0), (0, 0, 0), (0, 0, 0), (0, 0, 0)], [(0, 0, 0), (0, 0, 0)], [(1, 36002, 0, 0, 0, 0), (1, 4, 0, -1, 7, 0), (1, 7, 0, -2147483648, 2147483647, 0), (1, 10, 0, 0, 7, 0), (1, 399005, 0, 1, 8, 0), (1, 0, 0, -2147483648, 2147483647, 0), (1, 3, 0, -2147483648, 2147483647, 0), (2, 3, 7, 1, 0, 0)], 0, 0), (8, [(24, 10, 8, 0)]))]
def kd_X11_dearest_6afe8b_4 : List (Nat × sf_D × sf_M) := [(33, ([(1, 11, 0), (0, 0, 0), (0, 0, 0), (0, 0, 0)], [], [(1, 36002, 0, 0, 0, 0), (1, 4, 0, -1, 7, 0), (1, 7, 0, -2147483648, 2147483647, 0), (1, 10, 0, 0, 7, 0), (1, 399005, 0, 1, 8, 0)], 0, 0), (1, [(24, 10, 8, 0)])),
  (36, ([(1, 11, 0), (0, 0, 0), (0, 0, 0), (0, 0, 0)], [], [(1, 36002, 0, 0, 0, 0), (1, 4, 0, -1, 7, 0), (1, 7, 0, -2147483648, 2147483646, 0), (1, 10, 0, 0, 7, 0), (1, 399005, 0, 1, 8, 0)], 0, 0), (7, [(24, 10, 8, 0)])),
  (37, ([(1, 11, 0), (0, 0, 0), (0, 0, 0), (0, 0, 0)], [(1, 11, 0)], [(1, 36002, 0, 0, 0, 0), (1, 4, 0, -1, 7, 0), (1, 7, 0, -2147483648, 2147483646, 0), (1, 10, 0, 0, 7, 0), (1, 399005, 0, 1, 8, 0)], 0, 0), (6, [(24, 10, 8, 0)])),
  (38, ([(1, 11, 0), (0, 0, 0), (0, 0, 0), (0, 0, 0)], [(0, 0, 0), (1, 11, 0)], [(1, 36002, 0, 0, 0, 0), (1, 4, 0, -1, 7, 0), (1, 7, 0, -2147483648, 2147483646, 0), (1, 10, 0, 0, 7, 0), (1, 399005, 0, 1, 8, 0), (1, 3, 0, 0, 7, 0), (2, 3, 10, 1, 0, 0)], 0, 0), (5, [(24, 10, 8, 0)])),
  (41, ([(1, 11, 0), (0, 0, 0), (0, 0, 0), (0, 0, 0)], [(0, 0, 0)], [(1, 36002, 0, 0, 0, 0), (1, 4, 0, -1, 7, 0), (1, 7, 0, -2147483648, 2147483646, 0), (1, 10, 0, 0, 7, 0), (1, 399005, 0, 1, 8, 0), (1, 0, 0, -2147483648, 2147483647, 0)], 0, 0), (4, [(24, 10, 8, 0)]))]
def kd_X11_dearest_6afe8b_5 : List (Nat × sf_D × sf_M) := [(44, ([(1, 11, 0), (0, 0, 0), (0, 0, 0), (0, 0, 0)], [(0, 0, 0)], [(1, 36002, 0, 0, 0, 0), (1, 4, 0, -1, 7, 0), (1, 7, 0, -2147483648, 2147483646, 0), (1, 10, 0, 0, 7, 0), (1, 399005, 0, 1, 8, 0), (1, 0, 0, -2147483648, 2147483647, 0)], 0, 0), (3, [(24, 10, 8, 0)])),
  (45, ([(1, 11, 0), (0, 0, 0), (0, 0, 0), (0, 0, 0)], [], [(1, 36002, 0, 0, 0, 0), (1, 4, 0, -1, 7, 0), (1, 10, 0, 0, 7, 0), (1, 399005, 0, 1, 8, 0), (1, 7, 0, -2147483648, 2147483647, 0)], 0, 0), (2, [(24, 10, 8, 0)])),
  (46, ([(1, 11, 0), (0, 0, 0), (0, 0, 0), (0, 0, 0)], [(0, 0, 0)], [(1, 36002, 0, 0, 0, 0), (1, 4, 0, -1, 7, 0), (1, 10, 0, 0, 7, 0), (1, 399005, 0, 1, 8, 0), (1, 7, 0, -2147483648, 2147483647, 0), (1, 0, 0, 0, 7, 0), (2, 0, 10, 1, 0, 0)], 0, 0), (1, [(24, 10, 8, 0)])),
  (47, ([(1, 11, 0), (0, 0, 0), (0, 0, 0), (0, 0, 0)], [], [(1, 36002, 0, 0, 0, 0), (1, 4, 0, -1, 7, 0), (1, 7, 0, -2147483648, 2147483647, 0), (1, 10, 0, 0, 7, 0), (1, 399005, 0, 1, 8, 0)], 0, 0), (0, [(24, 10, 8, 0)])),
  (50, ([(1, 11, 0), (0, 0, 0), (0, 0, 0), (0, 0, 0)], [], [(1, 36002, 0, 0, 0, 0), (1, 4, 0, -1, 7, 0), (1, 7, 0, -2147483648, 2147483647, 0), (1, 399005, 0, 1, 8, 0), (1, 10, 0, 1, 8, 0)], 0, 0), (20, [(24, 10, 8, 0)]))]
def kd_X11_dearest_6afe8b_6 : List (Nat × sf_D × sf_M) := [(53, ([(1, 11, 0), (0, 0, 0), (0, 0, 0), (0, 0, 0)], [], [(1, 36002, 0, 0, 0, 0), (1, 4, 0, -1, 7, 0), (1, 7, 0, -2147483648, 2147483647, 0), (1, 10, 0, 0, 8, 0), (1, 399005, 0, 0, 8, 0), (3, 10, 399005, 1, 8, 0)], 0, 0), (1, [])),
  (54, ([(1, 11, 0), (0, 0, 0), (0, 0, 0), (0, 0, 0)], [(0, 0, 0)], [(1, 36002, 0, 0, 0, 0), (1, 4, 0, -1, 7, 0), (1, 7, 0, -2147483648, 2147483647, 0), (1, 10, 0, 0, 8, 0), (1, 399005, 0, 0, 8, 0), (1, 0, 0, -1, 7, 0), (3, 10, 399005, 1, 8, 0), (2, 0, 4, 1, 0, 0)], 0, 0), (0, []))]
def kd_X11_dearest_6afe8b : List (Nat × sf_D × sf_M) := kd_X11_dearest_6afe8b_0 ++ (kd_X11_dearest_6afe8b_1 ++ (kd_X11_dearest_6afe8b_2 ++ (kd_X11_dearest_6afe8b_3 ++ (kd_X11_dearest_6afe8b_4 ++ (kd_X11_dearest_6afe8b_5 ++ (kd_X11_dearest_6afe8b_6))))))
set_option maxRecDepth 100000 in
theorem kt_X11_dearest_6afe8b : sf_chk [kq_X11_missedBy_ebc78d, kq_X11_bits_a] kq_X11_dearest_6afe8b 4 kc_X11_dearest_6afe8b kd_X11_dearest_6afe8b = true := by decide +kernel
set_option maxRecDepth 100000 in
theorem kl_X11_dearest_6afe8b : (kc_X11_dearest_6afe8b).map (fun c => (c.1, sf_den ([Z_X11_missedBy, Z_X11_bits] : List sf_X) c.2)) = L_X11_dearest Z_X11_missedBy Z_X11_bits := rfl
theorem ct_X11_dearest_6afe8b : sf_ct kq_X11_dearest_6afe8b Z_X11_dearest := by
  have h := sf_meth (K := [kq_X11_missedBy_ebc78d, kq_X11_bits_a]) (E := [Z_X11_missedBy, Z_X11_bits]) (k := kq_X11_dearest_6afe8b) (nL := 4) (C := kc_X11_dearest_6afe8b) (D := kd_X11_dearest_6afe8b) (fun m k hk => match m, hk with
    | 0, hk => (Option.some.inj hk) ▸ ct_X11_missedBy_ebc78d
    | 1, hk => (Option.some.inj hk) ▸ ct_X11_bits_a
    | _ + 2, hk => (by cases hk)) kt_X11_dearest_6afe8b
  rw [kl_X11_dearest_6afe8b] at h
  exact h
def kq_X8_put_h : sf_Q := ([(1, 8, 0), (0, 0, 0)], [(1, 27005, 0, 0, 936, 0)], none, [], [(8, 1, 1), (123, 0, 939)])
def ke_X8_put_h : List Value → ab_H → Option Value → ab_H → Prop := fun _ hp _ hp' => ∀ v : Int, sf_rd hp 1 1 = some v → sf_rd hp' 1 1 = some (v + 4)
set_option maxRecDepth 100000 in
set_option maxHeartbeats 4000000 in
theorem ce_X8_put_h : sf_cE kq_X8_put_h Z_X8_put ke_X8_put_h := by
  intro t hp as H hl hj hpre
  match as, hl with
  | [v0, v1], _ =>
    obtain ⟨a0, rfl, ra0⟩ := bs_aR (hj 0 _ rfl)
    obtain rfl := ra0.eq H (p := 1) rfl
    obtain ⟨x1, rfl⟩ := bs_aI (hj 1 _ rfl)
    have rg1 := n_range x1
    obtain ⟨pv0, pe0, pl0, ph0⟩ := (hpre _ (List.mem_of_getElem? (i := 0) rfl)).1 rfl
    replace pe0 : sf_rd hp 1 1 = some pv0 := pe0
    replace pl0 : (0 : Int) ≤ pv0 := pl0
    replace ph0 : pv0 ≤ (936 : Int) := ph0
    clear hpre hj
    have F0 : sf_fr [(8, 1, 1), (123, 0, 939)] t hp t hp := sf_fr_rf
    refine bs_finx (E := ke_X8_put_h) (K := kq_X8_put_h) (L := L_X8_put) (nL := 3) (Nat.le_of_ble_eq_true rfl) ?_
    obtain ⟨Q, hQ⟩ : ∃ Q : ab_O → Prop, Q = (fun o => ∃ t', sf_h t' o.2 ∧ sf_fr (kq_X8_put_h).2.2.2.2 t hp t' o.2 ∧ sf_an t' o.2.1 (kq_X8_put_h).2.2.1 o.1 ∧ sf_S (sf_v1 o.1 [.ref 1, .int x1] o.2) (kq_X8_put_h).2.2.2.1 ∧ ke_X8_put_h [.ref 1, .int x1] hp o.1 o.2) := ⟨_, rfl⟩
    rw [← hQ]
    refine (show Ev (ab_T L_X8_put) 0 ([some (.ref 1), some (.int x1), none], [], (0, 0), hp) Q from ?_)
    refine bs_lit (k := 24) rfl rfl fun z1 hz1 => ?_
    refine Ev.step (j := 3) (s' := ([some (.ref 1), some (.int x1), some (.int z1)], [], (0, 0), hp)) rfl rfl ?_
    have INV : ∃ v : Int, sf_rd hp 1 1 = some v ∧ 8 * v + z1.toInt = 8 * pv0 + 24 ∧ pv0 ≤ v ∧ -8 ≤ z1.toInt := ⟨_, pe0, by omega, by omega, by omega⟩
    refine bs_loop (ι := Int32 × ab_H × (Nat → Nat)) (fun ⟨k2, hp3, t4⟩ => ([some (.ref 1), some (.int x1), some (.int k2)], [], (0, 0), hp3)) (fun ⟨k2, hp3, t4⟩ => (sf_h t4 hp3) ∧ (sf_fr [(8, 1, 1), (123, 0, 939)] t hp t4 hp3) ∧ (∃ v : Int, sf_rd hp3 1 1 = some v ∧ 8 * v + k2.toInt = 8 * pv0 + 24 ∧ pv0 ≤ v ∧ -8 ≤ k2.toInt)) (fun ⟨k2, hp3, t4⟩ => (k2.toInt + 8).toNat) ?_ (z1, hp, t) ⟨H, F0, (by exact INV)⟩
    rintro ⟨k2, hp3, t4⟩ ⟨Hhp3, Fhp3, i6⟩ ih5
    refine (show Ev _ 3 ([some (.ref 1), some (.int x1), some (.int k2)], [], (0, 0), hp3) _ from ?_)
    obtain ⟨y7, hy7, ly7, gy7, dy7⟩ := i6
    refine Ev.step (j := 4) (s' := ([some (.ref 1), some (.int x1), some (.int k2)], [.int k2], (0, 0), hp3)) rfl rfl ?_
    refine bs_iflt rfl (fun c8 => ?_) (fun c8 => ?_)
    · skip
      exact Ev.ret rfl rfl (by rw [hQ]; exact ⟨t4, Hhp3, Fhp3, bs_anU, sf_S_nil, (fun v hv => by have e : v = pv0 := Option.some.inj (hv.symm.trans pe0); exact hy7.trans (congrArg some (by omega)))⟩)
    · skip
      refine Ev.step (j := 8) (s' := ([some (.ref 1), some (.int x1), some (.int k2)], [.ref 1], (0, 0), hp3)) rfl rfl ?_
      refine bs_getI 8 rfl rfl rfl Hhp3 (bs_R.uq Hhp3 (g := 8) rfl) (by decide) rfl fun z9 hz9 lz9 gz9 => ?_
      have e10 : z9.toInt = y7 := Option.some.inj (hz9.symm.trans hy7)
      refine bs_lit (k := 940) rfl rfl fun z11 hz11 => ?_
      refine bs_ge rfl (fun c12 => ?_) (fun c12 => ?_)
      · skip
        exact Ev.ret rfl rfl (by rw [hQ]; exact ⟨t4, Hhp3, Fhp3, bs_anU, sf_S_nil, (fun v hv => by have e : v = pv0 := Option.some.inj (hv.symm.trans pe0); exact hy7.trans (congrArg some (by omega)))⟩)
      · skip
        refine Ev.step (j := 18) (s' := ([some (.ref 1), some (.int x1), some (.int k2)], [.ref 1], (0, 0), hp3)) rfl rfl ?_
        refine bs_getU (g := 8) (g1 := 123) rfl rfl Hhp3 (bs_R.uq Hhp3 (g := 8) rfl) (by decide) rfl rfl ?_
        refine Ev.step (j := 22) (s' := ([some (.ref 1), some (.int x1), some (.int k2)], [.ref 1, .ref 2], (0, 0), hp3)) rfl rfl ?_
        refine bs_getI 8 rfl rfl rfl Hhp3 (bs_R.uq Hhp3 (g := 8) rfl) (by decide) rfl fun z13 hz13 lz13 gz13 => ?_
        have e14 : z13.toInt = y7 := Option.some.inj (hz13.symm.trans hy7)
        refine Ev.step (j := 26) (s' := ([some (.ref 1), some (.int x1), some (.int k2)], [.int x1, .int z13, .ref 2], (0, 0), hp3)) rfl rfl ?_
        refine Ev.step (j := 27) (s' := ([some (.ref 1), some (.int x1), some (.int k2)], [.int k2, .int x1, .int z13, .ref 2], (0, 0), hp3)) rfl rfl ?_
        refine bs_any rfl fun z15 => ?_
        have rz15 := n_range z15
        refine Ev.step (j := 29) (s' := ([some (.ref 1), some (.int x1), some (.int k2)], [.int (z15.toInt8.toInt32), .int z13, .ref 2], (0, 0), hp3)) rfl rfl ?_
        refine bs_stT (W := [(123, 0, 939)]) (g := 123) 0 939 rfl Hhp3 (bs_R.uq Hhp3 (g := 123) rfl) (by decide) rfl (by decide) (by decide) rfl (by decide) rfl rfl (by omega) (by omega) fun hp16 Hhp16 fhp16 rhp16 ehp16 qhp16 nhp16 => ?_
        have Fhp16 := sf_fr_tr Fhp3 (sf_fr_wider (W := [(8, 1, 1), (123, 0, 939)]) rfl fhp16)
        have h17 : sf_rd hp16 1 1 = some y7 := (ehp16 _ _ (Or.inl (by decide))).trans hy7
        refine Ev.step (j := 31) (s' := ([some (.ref 1), some (.int x1), some (.int k2)], [.ref 1], (0, 0), hp16)) rfl rfl ?_
        refine Ev.step (j := 32) (s' := ([some (.ref 1), some (.int x1), some (.int k2)], [.ref 1, .ref 1], (0, 0), hp16)) rfl rfl ?_
        refine bs_getI 8 rfl rfl rfl Hhp16 (bs_R.uq Hhp16 (g := 8) rfl) (by decide) rfl fun z18 hz18 lz18 gz18 => ?_
        have e19 : z18.toInt = y7 := Option.some.inj (hz18.symm.trans h17)
        refine bs_lit (k := 1) rfl rfl fun z20 hz20 => ?_
        first | (refine bs_add rfl (by omega) (by omega) fun z21 hz21 => ?_) | (refine bs_any rfl fun z21 => ?_)
        have rz21 := n_range z21
        refine bs_putI (W := [(8, 1, 1)]) (g := 8) rfl rfl Hhp16 (bs_R.uq Hhp16 (g := 8) rfl) (by decide) rfl rfl rfl rfl (Or.inl rfl) (by omega) (by omega) fun hp22 Hhp22 fhp22 rhp22 ehp22 qhp22 nhp22 => ?_
        have Fhp22 := sf_fr_tr Fhp16 (sf_fr_wider (W := [(8, 1, 1), (123, 0, 939)]) rfl fhp22)
        refine bs_iinc (-8) rfl rfl rfl rfl (by omega) (by omega) fun z23 hz23 => ?_
        refine (show Ev _ 43 ([some (.ref 1), some (.int x1), some (.int z23)], [], (0, 0), hp22) _ from ?_)
        refine Ev.step (j := 3) (s' := ([some (.ref 1), some (.int x1), some (.int z23)], [], (0, 0), hp22)) rfl rfl ?_
        have INV : ∃ v : Int, sf_rd hp22 1 1 = some v ∧ 8 * v + z23.toInt = 8 * pv0 + 24 ∧ pv0 ≤ v ∧ -8 ≤ z23.toInt := ⟨_, rhp22, by omega, by omega, by omega⟩
        refine ih5 (z23, hp22, t4) ⟨Hhp22, Fhp22, (by exact INV)⟩ ?_
        show (z23.toInt + 8).toNat < (k2.toInt + 8).toNat
        omega
theorem ct_X8_put_h : sf_ct kq_X8_put_h Z_X8_put := ce_X8_put_h.ct
def kq_X10_feed_h : sf_Q := ([(1, 10, 0), (0, 0, 0), (0, 0, 0), (0, 0, 0), (0, 0, 0), (0, 0, 0)], [], some (0, 0, 0), [], [(8, 1, 1), (123, 0, 939)])
def ke_X10_feed_h : List Value → ab_H → Option Value → ab_H → Prop := fun _ hp r hp' => ∀ v : Int, sf_rd hp 1 1 = some v → ∃ z : Int32, r = some (.int z) ∧ z.toInt = fd_z v ∧ sf_rd hp' 1 1 = some (fd_n v)
set_option maxRecDepth 100000 in
set_option maxHeartbeats 4000000 in
theorem ce_X10_feed_h : sf_cE kq_X10_feed_h Z_X10_feed ke_X10_feed_h := by
  intro t hp as H hl hj hpre
  match as, hl with
  | [v0, v1, v2, v3, v4, v5], _ =>
    obtain ⟨a0, rfl, ra0⟩ := bs_aR (hj 0 _ rfl)
    obtain rfl := ra0.eq H (p := 0) rfl
    obtain ⟨x1, rfl⟩ := bs_aI (hj 1 _ rfl)
    have rg1 := n_range x1
    obtain ⟨x2, rfl⟩ := bs_aI (hj 2 _ rfl)
    have rg2 := n_range x2
    obtain ⟨x3, rfl⟩ := bs_aI (hj 3 _ rfl)
    have rg3 := n_range x3
    obtain ⟨x4, rfl⟩ := bs_aI (hj 4 _ rfl)
    have rg4 := n_range x4
    obtain ⟨x5, rfl⟩ := bs_aI (hj 5 _ rfl)
    have rg5 := n_range x5
    clear hpre hj
    have F0 : sf_fr [(8, 1, 1), (123, 0, 939)] t hp t hp := sf_fr_rf
    refine bs_finx (E := ke_X10_feed_h) (K := kq_X10_feed_h) (L := (L_X10_feed Z_X8_put)) (nL := 6) (Nat.le_of_ble_eq_true rfl) ?_
    obtain ⟨Q, hQ⟩ : ∃ Q : ab_O → Prop, Q = (fun o => ∃ t', sf_h t' o.2 ∧ sf_fr (kq_X10_feed_h).2.2.2.2 t hp t' o.2 ∧ sf_an t' o.2.1 (kq_X10_feed_h).2.2.1 o.1 ∧ sf_S (sf_v1 o.1 [.ref 0, .int x1, .int x2, .int x3, .int x4, .int x5] o.2) (kq_X10_feed_h).2.2.2.1 ∧ ke_X10_feed_h [.ref 0, .int x1, .int x2, .int x3, .int x4, .int x5] hp o.1 o.2) := ⟨_, rfl⟩
    rw [← hQ]
    refine (show Ev (ab_T (L_X10_feed Z_X8_put)) 0 ([some (.ref 0), some (.int x1), some (.int x2), some (.int x3), some (.int x4), some (.int x5)], [], (0, 0), hp) Q from ?_)
    obtain ⟨L0, hL0, lL0, uL0⟩ := bs_fld (k := 1) H (bs_R.uq H (g := 8) rfl) (by decide) rfl
    refine Ev.step (j := 1) (s' := ([some (.ref 0), some (.int x1), some (.int x2), some (.int x3), some (.int x4), some (.int x5)], [.ref 0], (0, 0), hp)) rfl rfl ?_
    refine bs_getU (g := 10) (g1 := 8) rfl rfl H (bs_R.uq H (g := 10) rfl) (by decide) rfl rfl ?_
    refine bs_getI 8 rfl rfl rfl H (bs_R.uq H (g := 8) rfl) (by decide) rfl fun z1 hz1 lz1 gz1 => ?_
    have e2 : z1.toInt = L0 := Option.some.inj (hz1.symm.trans hL0)
    refine bs_lit (k := 20) rfl rfl fun z3 hz3 => ?_
    first | (refine bs_add rfl (by omega) (by omega) fun z4 hz4 => ?_) | (refine bs_any rfl fun z4 => ?_)
    have rz4 := n_range z4
    refine bs_lit (k := 940) rfl rfl fun z5 hz5 => ?_
    refine bs_le rfl (fun c6 => ?_) (fun c6 => ?_)
    · skip
      refine Ev.step (j := 19) (s' := ([some (.ref 0), some (.int x1), some (.int x2), some (.int x3), some (.int x4), some (.int x5)], [.ref 0], (0, 0), hp)) rfl rfl ?_
      refine bs_getU (g := 10) (g1 := 8) rfl rfl H (bs_R.uq H (g := 10) rfl) (by decide) rfl rfl ?_
      refine Ev.step (j := 23) (s' := ([some (.ref 0), some (.int x1), some (.int x2), some (.int x3), some (.int x4), some (.int x5)], [.int x1, .ref 1], (0, 0), hp)) rfl rfl ?_
      refine bs_callx (K := kq_X8_put_h) [.ref 1, .int x1] [] rfl ce_X8_put_h H rfl rfl rfl (bs_rcv (g := 8) H (bs_R.uq H (g := 8) rfl) (by decide) rfl) rfl ?_ (sf_S_cons (sf_s1 (x := L0) (show sf_v0 _ _ 27005 = _ from hL0) (by omega) (by omega)) (sf_S_nil)) fun r7 hp8 thp8 Hhp8 fhp8 ahp8 php8 xhp8 => ?_
      · intro q k h
        match q, h with
        | 0, h => cases h; exact bs_jR (bs_R.uq H (g := 8) rfl)
        | 1, h => cases h; exact sf_j0
        | q + 2, h => cases h
      obtain rfl := ahp8.1 rfl
      have Fhp8 := sf_fr_tr F0 (sf_fr_wider (W := [(8, 1, 1), (123, 0, 939)]) rfl fhp8)
      refine (show Ev _ 26 ([some (.ref 0), some (.int x1), some (.int x2), some (.int x3), some (.int x4), some (.int x5)], [], (0, 0), hp8) _ from ?_)
      have h9 := xhp8 _ hL0
      refine Ev.step (j := 27) (s' := ([some (.ref 0), some (.int x1), some (.int x2), some (.int x3), some (.int x4), some (.int x5)], [.ref 0], (0, 0), hp8)) rfl rfl ?_
      refine bs_getU (g := 10) (g1 := 8) rfl rfl Hhp8 (bs_R.uq Hhp8 (g := 10) rfl) (by decide) rfl rfl ?_
      refine Ev.step (j := 31) (s' := ([some (.ref 0), some (.int x1), some (.int x2), some (.int x3), some (.int x4), some (.int x5)], [.int x2, .ref 1], (0, 0), hp8)) rfl rfl ?_
      refine bs_callx (K := kq_X8_put_h) [.ref 1, .int x2] [] rfl ce_X8_put_h Hhp8 rfl rfl rfl (bs_rcv (g := 8) Hhp8 (bs_R.uq Hhp8 (g := 8) rfl) (by decide) rfl) rfl ?_ (sf_S_cons (sf_s1 (x := (L0 + 4)) (show sf_v0 _ _ 27005 = _ from h9) (by omega) (by omega)) (sf_S_nil)) fun r10 hp11 thp11 Hhp11 fhp11 ahp11 php11 xhp11 => ?_
      · intro q k h
        match q, h with
        | 0, h => cases h; exact bs_jR (bs_R.uq Hhp8 (g := 8) rfl)
        | 1, h => cases h; exact sf_j0
        | q + 2, h => cases h
      obtain rfl := ahp11.1 rfl
      have Fhp11 := sf_fr_tr Fhp8 (sf_fr_wider (W := [(8, 1, 1), (123, 0, 939)]) rfl fhp11)
      refine (show Ev _ 34 ([some (.ref 0), some (.int x1), some (.int x2), some (.int x3), some (.int x4), some (.int x5)], [], (0, 0), hp11) _ from ?_)
      have h12 := xhp11 _ h9
      refine Ev.step (j := 35) (s' := ([some (.ref 0), some (.int x1), some (.int x2), some (.int x3), some (.int x4), some (.int x5)], [.ref 0], (0, 0), hp11)) rfl rfl ?_
      refine bs_getU (g := 10) (g1 := 8) rfl rfl Hhp11 (bs_R.uq Hhp11 (g := 10) rfl) (by decide) rfl rfl ?_
      refine Ev.step (j := 39) (s' := ([some (.ref 0), some (.int x1), some (.int x2), some (.int x3), some (.int x4), some (.int x5)], [.int x3, .ref 1], (0, 0), hp11)) rfl rfl ?_
      refine bs_callx (K := kq_X8_put_h) [.ref 1, .int x3] [] rfl ce_X8_put_h Hhp11 rfl rfl rfl (bs_rcv (g := 8) Hhp11 (bs_R.uq Hhp11 (g := 8) rfl) (by decide) rfl) rfl ?_ (sf_S_cons (sf_s1 (x := ((L0 + 4) + 4)) (show sf_v0 _ _ 27005 = _ from h12) (by omega) (by omega)) (sf_S_nil)) fun r13 hp14 thp14 Hhp14 fhp14 ahp14 php14 xhp14 => ?_
      · intro q k h
        match q, h with
        | 0, h => cases h; exact bs_jR (bs_R.uq Hhp11 (g := 8) rfl)
        | 1, h => cases h; exact sf_j0
        | q + 2, h => cases h
      obtain rfl := ahp14.1 rfl
      have Fhp14 := sf_fr_tr Fhp11 (sf_fr_wider (W := [(8, 1, 1), (123, 0, 939)]) rfl fhp14)
      refine (show Ev _ 42 ([some (.ref 0), some (.int x1), some (.int x2), some (.int x3), some (.int x4), some (.int x5)], [], (0, 0), hp14) _ from ?_)
      have h15 := xhp14 _ h12
      refine Ev.step (j := 43) (s' := ([some (.ref 0), some (.int x1), some (.int x2), some (.int x3), some (.int x4), some (.int x5)], [.ref 0], (0, 0), hp14)) rfl rfl ?_
      refine bs_getU (g := 10) (g1 := 8) rfl rfl Hhp14 (bs_R.uq Hhp14 (g := 10) rfl) (by decide) rfl rfl ?_
      refine Ev.step (j := 48) (s' := ([some (.ref 0), some (.int x1), some (.int x2), some (.int x3), some (.int x4), some (.int x5)], [.int x4, .ref 1], (0, 0), hp14)) rfl rfl ?_
      refine bs_callx (K := kq_X8_put_h) [.ref 1, .int x4] [] rfl ce_X8_put_h Hhp14 rfl rfl rfl (bs_rcv (g := 8) Hhp14 (bs_R.uq Hhp14 (g := 8) rfl) (by decide) rfl) rfl ?_ (sf_S_cons (sf_s1 (x := (((L0 + 4) + 4) + 4)) (show sf_v0 _ _ 27005 = _ from h15) (by omega) (by omega)) (sf_S_nil)) fun r16 hp17 thp17 Hhp17 fhp17 ahp17 php17 xhp17 => ?_
      · intro q k h
        match q, h with
        | 0, h => cases h; exact bs_jR (bs_R.uq Hhp14 (g := 8) rfl)
        | 1, h => cases h; exact sf_j0
        | q + 2, h => cases h
      obtain rfl := ahp17.1 rfl
      have Fhp17 := sf_fr_tr Fhp14 (sf_fr_wider (W := [(8, 1, 1), (123, 0, 939)]) rfl fhp17)
      refine (show Ev _ 51 ([some (.ref 0), some (.int x1), some (.int x2), some (.int x3), some (.int x4), some (.int x5)], [], (0, 0), hp17) _ from ?_)
      have h18 := xhp17 _ h15
      refine Ev.step (j := 52) (s' := ([some (.ref 0), some (.int x1), some (.int x2), some (.int x3), some (.int x4), some (.int x5)], [.ref 0], (0, 0), hp17)) rfl rfl ?_
      refine bs_getU (g := 10) (g1 := 8) rfl rfl Hhp17 (bs_R.uq Hhp17 (g := 10) rfl) (by decide) rfl rfl ?_
      refine Ev.step (j := 57) (s' := ([some (.ref 0), some (.int x1), some (.int x2), some (.int x3), some (.int x4), some (.int x5)], [.int x5, .ref 1], (0, 0), hp17)) rfl rfl ?_
      refine bs_callx (K := kq_X8_put_h) [.ref 1, .int x5] [] rfl ce_X8_put_h Hhp17 rfl rfl rfl (bs_rcv (g := 8) Hhp17 (bs_R.uq Hhp17 (g := 8) rfl) (by decide) rfl) rfl ?_ (sf_S_cons (sf_s1 (x := ((((L0 + 4) + 4) + 4) + 4)) (show sf_v0 _ _ 27005 = _ from h18) (by omega) (by omega)) (sf_S_nil)) fun r19 hp20 thp20 Hhp20 fhp20 ahp20 php20 xhp20 => ?_
      · intro q k h
        match q, h with
        | 0, h => cases h; exact bs_jR (bs_R.uq Hhp17 (g := 8) rfl)
        | 1, h => cases h; exact sf_j0
        | q + 2, h => cases h
      obtain rfl := ahp20.1 rfl
      have Fhp20 := sf_fr_tr Fhp17 (sf_fr_wider (W := [(8, 1, 1), (123, 0, 939)]) rfl fhp20)
      refine (show Ev _ 60 ([some (.ref 0), some (.int x1), some (.int x2), some (.int x3), some (.int x4), some (.int x5)], [], (0, 0), hp20) _ from ?_)
      have h21 := xhp20 _ h18
      refine Ev.step (j := 61) (s' := ([some (.ref 0), some (.int x1), some (.int x2), some (.int x3), some (.int x4), some (.int x5)], [.ref 0], (0, 0), hp20)) rfl rfl ?_
      refine bs_getU (g := 10) (g1 := 8) rfl rfl Hhp20 (bs_R.uq Hhp20 (g := 10) rfl) (by decide) rfl rfl ?_
      refine bs_getI 8 rfl rfl rfl Hhp20 (bs_R.uq Hhp20 (g := 8) rfl) (by decide) rfl fun z22 hz22 lz22 gz22 => ?_
      have e23 : z22.toInt = (((((L0 + 4) + 4) + 4) + 4) + 4) := Option.some.inj (hz22.symm.trans h21)
      exact Ev.ret rfl rfl (by rw [hQ]; exact ⟨thp20, Hhp20, Fhp20, bs_an0, sf_S_nil, (fun v hv => by have e : v = L0 := Option.some.inj (hv.symm.trans hL0); subst e; exact ⟨z22, rfl, by unfold fd_z; split <;> omega, by unfold fd_n; split <;> exact h21.trans (congrArg some (by omega))⟩)⟩)
    · skip
      refine bs_lit (k := -1) rfl rfl fun z24 hz24 => ?_
      exact Ev.ret rfl rfl (by rw [hQ]; exact ⟨t, H, F0, bs_an0, sf_S_nil, (fun v hv => by have e : v = L0 := Option.some.inj (hv.symm.trans hL0); subst e; exact ⟨z24, rfl, by unfold fd_z; split <;> omega, by unfold fd_n; split <;> exact hL0.trans (congrArg some (by omega))⟩)⟩)
theorem ct_X10_feed_h : sf_ct kq_X10_feed_h Z_X10_feed := ce_X10_feed_h.ct
def kq_X10_end_h : sf_Q := ([(1, 10, 0), (0, 0, 0)], [], some (0, 0, 0), [(1, 0, 0, 0, 1, 0)], [(8, 1, 1)])
def ke_X10_end_h : List Value → ab_H → Option Value → ab_H → Prop := fun as hp _ hp' => ∀ (v : Int) (x : Int32), as[1]? = some (Value.int x) → sf_rd hp 1 1 = some v → sf_rd hp' 1 1 = some (en_n v x.toInt)
set_option maxRecDepth 100000 in
set_option maxHeartbeats 4000000 in
theorem ce_X10_end_h : sf_cE kq_X10_end_h Z_X10_end ke_X10_end_h := by
  intro t hp as H hl hj hpre
  match as, hl with
  | [v0, v1], _ =>
    obtain ⟨a0, rfl, ra0⟩ := bs_aR (hj 0 _ rfl)
    obtain rfl := ra0.eq H (p := 0) rfl
    obtain ⟨x1, rfl⟩ := bs_aI (hj 1 _ rfl)
    have rg1 := n_range x1
    clear hpre hj
    have F0 : sf_fr [(8, 1, 1)] t hp t hp := sf_fr_rf
    refine bs_finx (E := ke_X10_end_h) (K := kq_X10_end_h) (L := L_X10_end) (nL := 2) (Nat.le_of_ble_eq_true rfl) ?_
    obtain ⟨Q, hQ⟩ : ∃ Q : ab_O → Prop, Q = (fun o => ∃ t', sf_h t' o.2 ∧ sf_fr (kq_X10_end_h).2.2.2.2 t hp t' o.2 ∧ sf_an t' o.2.1 (kq_X10_end_h).2.2.1 o.1 ∧ sf_S (sf_v1 o.1 [.ref 0, .int x1] o.2) (kq_X10_end_h).2.2.2.1 ∧ ke_X10_end_h [.ref 0, .int x1] hp o.1 o.2) := ⟨_, rfl⟩
    rw [← hQ]
    refine (show Ev (ab_T L_X10_end) 0 ([some (.ref 0), some (.int x1)], [], (0, 0), hp) Q from ?_)
    obtain ⟨L0, hL0, lL0, uL0⟩ := bs_fld (k := 1) H (bs_R.uq H (g := 8) rfl) (by decide) rfl
    refine Ev.step (j := 1) (s' := ([some (.ref 0), some (.int x1)], [.int x1], (0, 0), hp)) rfl rfl ?_
    refine bs_iflt rfl (fun c1 => ?_) (fun c1 => ?_)
    · skip
      refine bs_lit (k := 0) rfl rfl fun z2 hz2 => ?_
      exact bs_zret rfl rfl (by omega) (by omega) (by rw [hQ]; exact ⟨t, H, F0, bs_an0, sf_S_cons (sf_s1 (x := z2.toInt) rfl (by omega) (by omega)) (sf_S_nil), (fun v x hx hv => by have e : v = L0 := Option.some.inj (hv.symm.trans hL0); subst e; have hx2 : some (Value.int x1) = some (Value.int x) := hx; obtain rfl := Value.int.inj (Option.some.inj hx2); unfold en_n; split <;> exact hL0.trans (congrArg some (by omega)))⟩)
    · skip
      refine Ev.step (j := 5) (s' := ([some (.ref 0), some (.int x1)], [.int x1], (0, 0), hp)) rfl rfl ?_
      refine Ev.step (j := 6) (s' := ([some (.ref 0), some (.int x1)], [.ref 0, .int x1], (0, 0), hp)) rfl rfl ?_
      refine bs_getU (g := 10) (g1 := 8) rfl rfl H (bs_R.uq H (g := 10) rfl) (by decide) rfl rfl ?_
      refine bs_getI 8 rfl rfl rfl H (bs_R.uq H (g := 8) rfl) (by decide) rfl fun z3 hz3 lz3 gz3 => ?_
      have e4 : z3.toInt = L0 := Option.some.inj (hz3.symm.trans hL0)
      refine bs_le rfl (fun c5 => ?_) (fun c5 => ?_)
      · skip
        refine Ev.step (j := 18) (s' := ([some (.ref 0), some (.int x1)], [.ref 0], (0, 0), hp)) rfl rfl ?_
        refine bs_getU (g := 10) (g1 := 8) rfl rfl H (bs_R.uq H (g := 10) rfl) (by decide) rfl rfl ?_
        refine Ev.step (j := 22) (s' := ([some (.ref 0), some (.int x1)], [.int x1, .ref 1], (0, 0), hp)) rfl rfl ?_
        refine bs_putI (W := [(8, 1, 1)]) (g := 8) rfl rfl H (bs_R.uq H (g := 8) rfl) (by decide) rfl rfl rfl rfl (Or.inl rfl) (by omega) (by omega) fun hp6 Hhp6 fhp6 rhp6 ehp6 qhp6 nhp6 => ?_
        have Fhp6 := sf_fr_tr F0 (sf_fr_wider (W := [(8, 1, 1)]) rfl fhp6)
        refine bs_lit (k := 1) rfl rfl fun z7 hz7 => ?_
        exact bs_zret rfl rfl (by omega) (by omega) (by rw [hQ]; exact ⟨t, Hhp6, Fhp6, bs_an0, sf_S_cons (sf_s1 (x := z7.toInt) rfl (by omega) (by omega)) (sf_S_nil), (fun v x hx hv => by have e : v = L0 := Option.some.inj (hv.symm.trans hL0); subst e; have hx2 : some (Value.int x1) = some (Value.int x) := hx; obtain rfl := Value.int.inj (Option.some.inj hx2); unfold en_n; split <;> exact rhp6.trans (congrArg some (by omega)))⟩)
      · skip
        refine bs_lit (k := 0) rfl rfl fun z8 hz8 => ?_
        exact bs_zret rfl rfl (by omega) (by omega) (by rw [hQ]; exact ⟨t, H, F0, bs_an0, sf_S_cons (sf_s1 (x := z8.toInt) rfl (by omega) (by omega)) (sf_S_nil), (fun v x hx hv => by have e : v = L0 := Option.some.inj (hv.symm.trans hL0); subst e; have hx2 : some (Value.int x1) = some (Value.int x) := hx; obtain rfl := Value.int.inj (Option.some.inj hx2); unfold en_n; split <;> exact hL0.trans (congrArg some (by omega)))⟩)
theorem ct_X10_end_h : sf_ct kq_X10_end_h Z_X10_end := ce_X10_end_h.ct
def kq_X11_four_h : sf_Q := ([(1, 11, 0), (0, 0, 0)], [(1, 36008, 0, 0, 936, 0)], none, [], [(11, 2, 2), (131, 0, 939)])
def ke_X11_four_h : List Value → ab_H → Option Value → ab_H → Prop := fun _ hp _ hp' => ∀ v : Int, sf_rd hp 69 2 = some v → sf_rd hp' 69 2 = some (v + 4)
set_option maxRecDepth 100000 in
set_option maxHeartbeats 4000000 in
theorem ce_X11_four_h : sf_cE kq_X11_four_h Z_X11_four ke_X11_four_h := by
  intro t hp as H hl hj hpre
  match as, hl with
  | [v0, v1], _ =>
    obtain ⟨a0, rfl, ra0⟩ := bs_aR (hj 0 _ rfl)
    obtain rfl := ra0.eq H (p := 69) rfl
    obtain ⟨x1, rfl⟩ := bs_aI (hj 1 _ rfl)
    have rg1 := n_range x1
    obtain ⟨pv0, pe0, pl0, ph0⟩ := (hpre _ (List.mem_of_getElem? (i := 0) rfl)).1 rfl
    replace pe0 : sf_rd hp 69 2 = some pv0 := pe0
    replace pl0 : (0 : Int) ≤ pv0 := pl0
    replace ph0 : pv0 ≤ (936 : Int) := ph0
    clear hpre hj
    have F0 : sf_fr [(11, 2, 2), (131, 0, 939)] t hp t hp := sf_fr_rf
    refine bs_finx (E := ke_X11_four_h) (K := kq_X11_four_h) (L := L_X11_four) (nL := 3) (Nat.le_of_ble_eq_true rfl) ?_
    obtain ⟨Q, hQ⟩ : ∃ Q : ab_O → Prop, Q = (fun o => ∃ t', sf_h t' o.2 ∧ sf_fr (kq_X11_four_h).2.2.2.2 t hp t' o.2 ∧ sf_an t' o.2.1 (kq_X11_four_h).2.2.1 o.1 ∧ sf_S (sf_v1 o.1 [.ref 69, .int x1] o.2) (kq_X11_four_h).2.2.2.1 ∧ ke_X11_four_h [.ref 69, .int x1] hp o.1 o.2) := ⟨_, rfl⟩
    rw [← hQ]
    refine (show Ev (ab_T L_X11_four) 0 ([some (.ref 69), some (.int x1), none], [], (0, 0), hp) Q from ?_)
    refine bs_lit (k := 24) rfl rfl fun z1 hz1 => ?_
    refine Ev.step (j := 3) (s' := ([some (.ref 69), some (.int x1), some (.int z1)], [], (0, 0), hp)) rfl rfl ?_
    have INV : ∃ v : Int, sf_rd hp 69 2 = some v ∧ 8 * v + z1.toInt = 8 * pv0 + 24 ∧ pv0 ≤ v ∧ -8 ≤ z1.toInt := ⟨_, pe0, by omega, by omega, by omega⟩
    refine bs_loop (ι := Int32 × ab_H × (Nat → Nat)) (fun ⟨k2, hp3, t4⟩ => ([some (.ref 69), some (.int x1), some (.int k2)], [], (0, 0), hp3)) (fun ⟨k2, hp3, t4⟩ => (sf_h t4 hp3) ∧ (sf_fr [(11, 2, 2), (131, 0, 939)] t hp t4 hp3) ∧ (∃ v : Int, sf_rd hp3 69 2 = some v ∧ 8 * v + k2.toInt = 8 * pv0 + 24 ∧ pv0 ≤ v ∧ -8 ≤ k2.toInt)) (fun ⟨k2, hp3, t4⟩ => (k2.toInt + 8).toNat) ?_ (z1, hp, t) ⟨H, F0, (by exact INV)⟩
    rintro ⟨k2, hp3, t4⟩ ⟨Hhp3, Fhp3, i6⟩ ih5
    refine (show Ev _ 3 ([some (.ref 69), some (.int x1), some (.int k2)], [], (0, 0), hp3) _ from ?_)
    obtain ⟨y7, hy7, ly7, gy7, dy7⟩ := i6
    refine Ev.step (j := 4) (s' := ([some (.ref 69), some (.int x1), some (.int k2)], [.int k2], (0, 0), hp3)) rfl rfl ?_
    refine bs_iflt rfl (fun c8 => ?_) (fun c8 => ?_)
    · skip
      exact Ev.ret rfl rfl (by rw [hQ]; exact ⟨t4, Hhp3, Fhp3, bs_anU, sf_S_nil, (fun v hv => by have e : v = pv0 := Option.some.inj (hv.symm.trans pe0); exact hy7.trans (congrArg some (by omega)))⟩)
    · skip
      refine Ev.step (j := 8) (s' := ([some (.ref 69), some (.int x1), some (.int k2)], [.ref 69], (0, 0), hp3)) rfl rfl ?_
      refine bs_getU (g := 11) (g1 := 131) rfl rfl Hhp3 (bs_R.uq Hhp3 (g := 11) rfl) (by decide) rfl rfl ?_
      refine Ev.step (j := 12) (s' := ([some (.ref 69), some (.int x1), some (.int k2)], [.ref 69, .ref 70], (0, 0), hp3)) rfl rfl ?_
      refine bs_getI 11 rfl rfl rfl Hhp3 (bs_R.uq Hhp3 (g := 11) rfl) (by decide) rfl fun z9 hz9 lz9 gz9 => ?_
      have e10 : z9.toInt = y7 := Option.some.inj (hz9.symm.trans hy7)
      refine Ev.step (j := 16) (s' := ([some (.ref 69), some (.int x1), some (.int k2)], [.int x1, .int z9, .ref 70], (0, 0), hp3)) rfl rfl ?_
      refine Ev.step (j := 17) (s' := ([some (.ref 69), some (.int x1), some (.int k2)], [.int k2, .int x1, .int z9, .ref 70], (0, 0), hp3)) rfl rfl ?_
      refine bs_any rfl fun z11 => ?_
      have rz11 := n_range z11
      refine Ev.step (j := 19) (s' := ([some (.ref 69), some (.int x1), some (.int k2)], [.int (z11.toInt8.toInt32), .int z9, .ref 70], (0, 0), hp3)) rfl rfl ?_
      refine bs_stT (W := [(131, 0, 939)]) (g := 131) 0 939 rfl Hhp3 (bs_R.uq Hhp3 (g := 131) rfl) (by decide) rfl (by decide) (by decide) rfl (by decide) rfl rfl (by omega) (by omega) fun hp12 Hhp12 fhp12 rhp12 ehp12 qhp12 nhp12 => ?_
      have Fhp12 := sf_fr_tr Fhp3 (sf_fr_wider (W := [(11, 2, 2), (131, 0, 939)]) rfl fhp12)
      have h13 : sf_rd hp12 69 2 = some y7 := (ehp12 _ _ (Or.inl (by decide))).trans hy7
      refine Ev.step (j := 21) (s' := ([some (.ref 69), some (.int x1), some (.int k2)], [.ref 69], (0, 0), hp12)) rfl rfl ?_
      refine Ev.step (j := 22) (s' := ([some (.ref 69), some (.int x1), some (.int k2)], [.ref 69, .ref 69], (0, 0), hp12)) rfl rfl ?_
      refine bs_getI 11 rfl rfl rfl Hhp12 (bs_R.uq Hhp12 (g := 11) rfl) (by decide) rfl fun z14 hz14 lz14 gz14 => ?_
      have e15 : z14.toInt = y7 := Option.some.inj (hz14.symm.trans h13)
      refine bs_lit (k := 1) rfl rfl fun z16 hz16 => ?_
      first | (refine bs_add rfl (by omega) (by omega) fun z17 hz17 => ?_) | (refine bs_any rfl fun z17 => ?_)
      have rz17 := n_range z17
      refine bs_putI (W := [(11, 2, 2)]) (g := 11) rfl rfl Hhp12 (bs_R.uq Hhp12 (g := 11) rfl) (by decide) rfl rfl rfl rfl (Or.inl rfl) (by omega) (by omega) fun hp18 Hhp18 fhp18 rhp18 ehp18 qhp18 nhp18 => ?_
      have Fhp18 := sf_fr_tr Fhp12 (sf_fr_wider (W := [(11, 2, 2), (131, 0, 939)]) rfl fhp18)
      refine bs_iinc (-8) rfl rfl rfl rfl (by omega) (by omega) fun z19 hz19 => ?_
      refine (show Ev _ 33 ([some (.ref 69), some (.int x1), some (.int z19)], [], (0, 0), hp18) _ from ?_)
      refine Ev.step (j := 3) (s' := ([some (.ref 69), some (.int x1), some (.int z19)], [], (0, 0), hp18)) rfl rfl ?_
      have INV : ∃ v : Int, sf_rd hp18 69 2 = some v ∧ 8 * v + z19.toInt = 8 * pv0 + 24 ∧ pv0 ≤ v ∧ -8 ≤ z19.toInt := ⟨_, rhp18, by omega, by omega, by omega⟩
      refine ih5 (z19, hp18, t4) ⟨Hhp18, Fhp18, (by exact INV)⟩ ?_
      show (z19.toInt + 8).toNat < (k2.toInt + 8).toNat
      omega
theorem ct_X11_four_h : sf_ct kq_X11_four_h Z_X11_four := ce_X11_four_h.ct
def kq_X11_feed_h : sf_Q := ([(1, 11, 0), (0, 0, 0), (0, 0, 0), (0, 0, 0), (0, 0, 0), (0, 0, 0)], [], some (0, 0, 0), [], [(11, 0, 0), (11, 2, 2), (131, 0, 939)])
def ke_X11_feed_h : List Value → ab_H → Option Value → ab_H → Prop := fun _ hp r hp' => ∀ v : Int, sf_rd hp 69 2 = some v → ∃ z : Int32, r = some (.int z) ∧ z.toInt = fd_z v ∧ sf_rd hp' 69 2 = some (fd_n v)
set_option maxRecDepth 100000 in
set_option maxHeartbeats 4000000 in
theorem ce_X11_feed_h : sf_cE kq_X11_feed_h Z_X11_feed ke_X11_feed_h := by
  intro t hp as H hl hj hpre
  match as, hl with
  | [v0, v1, v2, v3, v4, v5], _ =>
    obtain ⟨a0, rfl, ra0⟩ := bs_aR (hj 0 _ rfl)
    obtain rfl := ra0.eq H (p := 69) rfl
    obtain ⟨x1, rfl⟩ := bs_aI (hj 1 _ rfl)
    have rg1 := n_range x1
    obtain ⟨x2, rfl⟩ := bs_aI (hj 2 _ rfl)
    have rg2 := n_range x2
    obtain ⟨x3, rfl⟩ := bs_aI (hj 3 _ rfl)
    have rg3 := n_range x3
    obtain ⟨x4, rfl⟩ := bs_aI (hj 4 _ rfl)
    have rg4 := n_range x4
    obtain ⟨x5, rfl⟩ := bs_aI (hj 5 _ rfl)
    have rg5 := n_range x5
    clear hpre hj
    have F0 : sf_fr [(11, 0, 0), (11, 2, 2), (131, 0, 939)] t hp t hp := sf_fr_rf
    refine bs_finx (E := ke_X11_feed_h) (K := kq_X11_feed_h) (L := (L_X11_feed Z_X11_four)) (nL := 6) (Nat.le_of_ble_eq_true rfl) ?_
    obtain ⟨Q, hQ⟩ : ∃ Q : ab_O → Prop, Q = (fun o => ∃ t', sf_h t' o.2 ∧ sf_fr (kq_X11_feed_h).2.2.2.2 t hp t' o.2 ∧ sf_an t' o.2.1 (kq_X11_feed_h).2.2.1 o.1 ∧ sf_S (sf_v1 o.1 [.ref 69, .int x1, .int x2, .int x3, .int x4, .int x5] o.2) (kq_X11_feed_h).2.2.2.1 ∧ ke_X11_feed_h [.ref 69, .int x1, .int x2, .int x3, .int x4, .int x5] hp o.1 o.2) := ⟨_, rfl⟩
    rw [← hQ]
    refine (show Ev (ab_T (L_X11_feed Z_X11_four)) 0 ([some (.ref 69), some (.int x1), some (.int x2), some (.int x3), some (.int x4), some (.int x5)], [], (0, 0), hp) Q from ?_)
    obtain ⟨L0, hL0, lL0, uL0⟩ := bs_fld (k := 2) H (bs_R.uq H (g := 11) rfl) (by decide) rfl
    refine Ev.step (j := 1) (s' := ([some (.ref 69), some (.int x1), some (.int x2), some (.int x3), some (.int x4), some (.int x5)], [.ref 69], (0, 0), hp)) rfl rfl ?_
    refine bs_lit (k := 0) rfl rfl fun z1 hz1 => ?_
    refine bs_putI (W := [(11, 0, 0)]) (g := 11) rfl rfl H (bs_R.uq H (g := 11) rfl) (by decide) rfl rfl rfl rfl (Or.inl rfl) (by omega) (by omega) fun hp2 Hhp2 fhp2 rhp2 ehp2 qhp2 nhp2 => ?_
    have Fhp2 := sf_fr_tr F0 (sf_fr_wider (W := [(11, 0, 0), (11, 2, 2), (131, 0, 939)]) rfl fhp2)
    have h3 : sf_rd hp2 69 2 = some L0 := (ehp2 _ _ (Or.inr (by omega))).trans hL0
    refine Ev.step (j := 6) (s' := ([some (.ref 69), some (.int x1), some (.int x2), some (.int x3), some (.int x4), some (.int x5)], [.ref 69], (0, 0), hp2)) rfl rfl ?_
    refine bs_getI 11 rfl rfl rfl Hhp2 (bs_R.uq Hhp2 (g := 11) rfl) (by decide) rfl fun z4 hz4 lz4 gz4 => ?_
    have e5 : z4.toInt = L0 := Option.some.inj (hz4.symm.trans h3)
    refine bs_lit (k := 20) rfl rfl fun z6 hz6 => ?_
    first | (refine bs_add rfl (by omega) (by omega) fun z7 hz7 => ?_) | (refine bs_any rfl fun z7 => ?_)
    have rz7 := n_range z7
    refine bs_lit (k := 940) rfl rfl fun z8 hz8 => ?_
    refine bs_le rfl (fun c9 => ?_) (fun c9 => ?_)
    · skip
      refine Ev.step (j := 21) (s' := ([some (.ref 69), some (.int x1), some (.int x2), some (.int x3), some (.int x4), some (.int x5)], [.ref 69], (0, 0), hp2)) rfl rfl ?_
      refine Ev.step (j := 22) (s' := ([some (.ref 69), some (.int x1), some (.int x2), some (.int x3), some (.int x4), some (.int x5)], [.int x1, .ref 69], (0, 0), hp2)) rfl rfl ?_
      refine bs_callx (K := kq_X11_four_h) [.ref 69, .int x1] [] rfl ce_X11_four_h Hhp2 rfl rfl rfl (bs_rcv (g := 11) Hhp2 (bs_R.uq Hhp2 (g := 11) rfl) (by decide) rfl) rfl ?_ (sf_S_cons (sf_s1 (x := L0) (show sf_v0 _ _ 36008 = _ from h3) (by omega) (by omega)) (sf_S_nil)) fun r10 hp11 thp11 Hhp11 fhp11 ahp11 php11 xhp11 => ?_
      · intro q k h
        match q, h with
        | 0, h => cases h; exact bs_jR (bs_R.uq Hhp2 (g := 11) rfl)
        | 1, h => cases h; exact sf_j0
        | q + 2, h => cases h
      obtain rfl := ahp11.1 rfl
      have Fhp11 := sf_fr_tr Fhp2 (sf_fr_wider (W := [(11, 0, 0), (11, 2, 2), (131, 0, 939)]) rfl fhp11)
      have h12 : sf_rd hp11 69 0 = some z1.toInt := (fhp11.2.2.1 _ (bs_R.uq Hhp2 (g := 11) (p := 69) rfl).1 _ (by rw [(bs_R.uq Hhp2 (g := 11) (p := 69) rfl).2]; rfl)).trans rhp2
      refine (show Ev _ 25 ([some (.ref 69), some (.int x1), some (.int x2), some (.int x3), some (.int x4), some (.int x5)], [], (0, 0), hp11) _ from ?_)
      have h13 := xhp11 _ h3
      refine Ev.step (j := 26) (s' := ([some (.ref 69), some (.int x1), some (.int x2), some (.int x3), some (.int x4), some (.int x5)], [.ref 69], (0, 0), hp11)) rfl rfl ?_
      refine Ev.step (j := 27) (s' := ([some (.ref 69), some (.int x1), some (.int x2), some (.int x3), some (.int x4), some (.int x5)], [.int x2, .ref 69], (0, 0), hp11)) rfl rfl ?_
      refine bs_callx (K := kq_X11_four_h) [.ref 69, .int x2] [] rfl ce_X11_four_h Hhp11 rfl rfl rfl (bs_rcv (g := 11) Hhp11 (bs_R.uq Hhp11 (g := 11) rfl) (by decide) rfl) rfl ?_ (sf_S_cons (sf_s1 (x := (L0 + 4)) (show sf_v0 _ _ 36008 = _ from h13) (by omega) (by omega)) (sf_S_nil)) fun r14 hp15 thp15 Hhp15 fhp15 ahp15 php15 xhp15 => ?_
      · intro q k h
        match q, h with
        | 0, h => cases h; exact bs_jR (bs_R.uq Hhp11 (g := 11) rfl)
        | 1, h => cases h; exact sf_j0
        | q + 2, h => cases h
      obtain rfl := ahp15.1 rfl
      have Fhp15 := sf_fr_tr Fhp11 (sf_fr_wider (W := [(11, 0, 0), (11, 2, 2), (131, 0, 939)]) rfl fhp15)
      have h16 : sf_rd hp15 69 0 = some z1.toInt := (fhp15.2.2.1 _ (bs_R.uq Hhp11 (g := 11) (p := 69) rfl).1 _ (by rw [(bs_R.uq Hhp11 (g := 11) (p := 69) rfl).2]; rfl)).trans h12
      refine (show Ev _ 30 ([some (.ref 69), some (.int x1), some (.int x2), some (.int x3), some (.int x4), some (.int x5)], [], (0, 0), hp15) _ from ?_)
      have h17 := xhp15 _ h13
      refine Ev.step (j := 31) (s' := ([some (.ref 69), some (.int x1), some (.int x2), some (.int x3), some (.int x4), some (.int x5)], [.ref 69], (0, 0), hp15)) rfl rfl ?_
      refine Ev.step (j := 32) (s' := ([some (.ref 69), some (.int x1), some (.int x2), some (.int x3), some (.int x4), some (.int x5)], [.int x3, .ref 69], (0, 0), hp15)) rfl rfl ?_
      refine bs_callx (K := kq_X11_four_h) [.ref 69, .int x3] [] rfl ce_X11_four_h Hhp15 rfl rfl rfl (bs_rcv (g := 11) Hhp15 (bs_R.uq Hhp15 (g := 11) rfl) (by decide) rfl) rfl ?_ (sf_S_cons (sf_s1 (x := ((L0 + 4) + 4)) (show sf_v0 _ _ 36008 = _ from h17) (by omega) (by omega)) (sf_S_nil)) fun r18 hp19 thp19 Hhp19 fhp19 ahp19 php19 xhp19 => ?_
      · intro q k h
        match q, h with
        | 0, h => cases h; exact bs_jR (bs_R.uq Hhp15 (g := 11) rfl)
        | 1, h => cases h; exact sf_j0
        | q + 2, h => cases h
      obtain rfl := ahp19.1 rfl
      have Fhp19 := sf_fr_tr Fhp15 (sf_fr_wider (W := [(11, 0, 0), (11, 2, 2), (131, 0, 939)]) rfl fhp19)
      have h20 : sf_rd hp19 69 0 = some z1.toInt := (fhp19.2.2.1 _ (bs_R.uq Hhp15 (g := 11) (p := 69) rfl).1 _ (by rw [(bs_R.uq Hhp15 (g := 11) (p := 69) rfl).2]; rfl)).trans h16
      refine (show Ev _ 35 ([some (.ref 69), some (.int x1), some (.int x2), some (.int x3), some (.int x4), some (.int x5)], [], (0, 0), hp19) _ from ?_)
      have h21 := xhp19 _ h17
      refine Ev.step (j := 36) (s' := ([some (.ref 69), some (.int x1), some (.int x2), some (.int x3), some (.int x4), some (.int x5)], [.ref 69], (0, 0), hp19)) rfl rfl ?_
      refine Ev.step (j := 38) (s' := ([some (.ref 69), some (.int x1), some (.int x2), some (.int x3), some (.int x4), some (.int x5)], [.int x4, .ref 69], (0, 0), hp19)) rfl rfl ?_
      refine bs_callx (K := kq_X11_four_h) [.ref 69, .int x4] [] rfl ce_X11_four_h Hhp19 rfl rfl rfl (bs_rcv (g := 11) Hhp19 (bs_R.uq Hhp19 (g := 11) rfl) (by decide) rfl) rfl ?_ (sf_S_cons (sf_s1 (x := (((L0 + 4) + 4) + 4)) (show sf_v0 _ _ 36008 = _ from h21) (by omega) (by omega)) (sf_S_nil)) fun r22 hp23 thp23 Hhp23 fhp23 ahp23 php23 xhp23 => ?_
      · intro q k h
        match q, h with
        | 0, h => cases h; exact bs_jR (bs_R.uq Hhp19 (g := 11) rfl)
        | 1, h => cases h; exact sf_j0
        | q + 2, h => cases h
      obtain rfl := ahp23.1 rfl
      have Fhp23 := sf_fr_tr Fhp19 (sf_fr_wider (W := [(11, 0, 0), (11, 2, 2), (131, 0, 939)]) rfl fhp23)
      have h24 : sf_rd hp23 69 0 = some z1.toInt := (fhp23.2.2.1 _ (bs_R.uq Hhp19 (g := 11) (p := 69) rfl).1 _ (by rw [(bs_R.uq Hhp19 (g := 11) (p := 69) rfl).2]; rfl)).trans h20
      refine (show Ev _ 41 ([some (.ref 69), some (.int x1), some (.int x2), some (.int x3), some (.int x4), some (.int x5)], [], (0, 0), hp23) _ from ?_)
      have h25 := xhp23 _ h21
      refine Ev.step (j := 42) (s' := ([some (.ref 69), some (.int x1), some (.int x2), some (.int x3), some (.int x4), some (.int x5)], [.ref 69], (0, 0), hp23)) rfl rfl ?_
      refine Ev.step (j := 44) (s' := ([some (.ref 69), some (.int x1), some (.int x2), some (.int x3), some (.int x4), some (.int x5)], [.int x5, .ref 69], (0, 0), hp23)) rfl rfl ?_
      refine bs_callx (K := kq_X11_four_h) [.ref 69, .int x5] [] rfl ce_X11_four_h Hhp23 rfl rfl rfl (bs_rcv (g := 11) Hhp23 (bs_R.uq Hhp23 (g := 11) rfl) (by decide) rfl) rfl ?_ (sf_S_cons (sf_s1 (x := ((((L0 + 4) + 4) + 4) + 4)) (show sf_v0 _ _ 36008 = _ from h25) (by omega) (by omega)) (sf_S_nil)) fun r26 hp27 thp27 Hhp27 fhp27 ahp27 php27 xhp27 => ?_
      · intro q k h
        match q, h with
        | 0, h => cases h; exact bs_jR (bs_R.uq Hhp23 (g := 11) rfl)
        | 1, h => cases h; exact sf_j0
        | q + 2, h => cases h
      obtain rfl := ahp27.1 rfl
      have Fhp27 := sf_fr_tr Fhp23 (sf_fr_wider (W := [(11, 0, 0), (11, 2, 2), (131, 0, 939)]) rfl fhp27)
      have h28 : sf_rd hp27 69 0 = some z1.toInt := (fhp27.2.2.1 _ (bs_R.uq Hhp23 (g := 11) (p := 69) rfl).1 _ (by rw [(bs_R.uq Hhp23 (g := 11) (p := 69) rfl).2]; rfl)).trans h24
      refine (show Ev _ 47 ([some (.ref 69), some (.int x1), some (.int x2), some (.int x3), some (.int x4), some (.int x5)], [], (0, 0), hp27) _ from ?_)
      have h29 := xhp27 _ h25
      refine Ev.step (j := 48) (s' := ([some (.ref 69), some (.int x1), some (.int x2), some (.int x3), some (.int x4), some (.int x5)], [.ref 69], (0, 0), hp27)) rfl rfl ?_
      refine bs_getI 11 rfl rfl rfl Hhp27 (bs_R.uq Hhp27 (g := 11) rfl) (by decide) rfl fun z30 hz30 lz30 gz30 => ?_
      have e31 : z30.toInt = (((((L0 + 4) + 4) + 4) + 4) + 4) := Option.some.inj (hz30.symm.trans h29)
      exact Ev.ret rfl rfl (by rw [hQ]; exact ⟨thp27, Hhp27, Fhp27, bs_an0, sf_S_nil, (fun v hv => by have e : v = L0 := Option.some.inj (hv.symm.trans hL0); subst e; exact ⟨z30, rfl, by unfold fd_z; split <;> omega, by unfold fd_n; split <;> exact h29.trans (congrArg some (by omega))⟩)⟩)
    · skip
      refine bs_lit (k := -1) rfl rfl fun z32 hz32 => ?_
      exact Ev.ret rfl rfl (by rw [hQ]; exact ⟨t, Hhp2, Fhp2, bs_an0, sf_S_nil, (fun v hv => by have e : v = L0 := Option.some.inj (hv.symm.trans hL0); subst e; exact ⟨z32, rfl, by unfold fd_z; split <;> omega, by unfold fd_n; split <;> exact h3.trans (congrArg some (by omega))⟩)⟩)
theorem ct_X11_feed_h : sf_ct kq_X11_feed_h Z_X11_feed := ce_X11_feed_h.ct
def kq_X11_end_h : sf_Q := ([(1, 11, 0), (0, 0, 0)], [], some (0, 0, 0), [(1, 0, 0, 0, 1, 0)], [(11, 0, 0), (11, 2, 2)])
def ke_X11_end_h : List Value → ab_H → Option Value → ab_H → Prop := fun as hp _ hp' => ∀ (v : Int) (x : Int32), as[1]? = some (Value.int x) → sf_rd hp 69 2 = some v → sf_rd hp' 69 2 = some (en_n v x.toInt)
set_option maxRecDepth 100000 in
set_option maxHeartbeats 4000000 in
theorem ce_X11_end_h : sf_cE kq_X11_end_h Z_X11_end ke_X11_end_h := by
  intro t hp as H hl hj hpre
  match as, hl with
  | [v0, v1], _ =>
    obtain ⟨a0, rfl, ra0⟩ := bs_aR (hj 0 _ rfl)
    obtain rfl := ra0.eq H (p := 69) rfl
    obtain ⟨x1, rfl⟩ := bs_aI (hj 1 _ rfl)
    have rg1 := n_range x1
    clear hpre hj
    have F0 : sf_fr [(11, 0, 0), (11, 2, 2)] t hp t hp := sf_fr_rf
    refine bs_finx (E := ke_X11_end_h) (K := kq_X11_end_h) (L := L_X11_end) (nL := 2) (Nat.le_of_ble_eq_true rfl) ?_
    obtain ⟨Q, hQ⟩ : ∃ Q : ab_O → Prop, Q = (fun o => ∃ t', sf_h t' o.2 ∧ sf_fr (kq_X11_end_h).2.2.2.2 t hp t' o.2 ∧ sf_an t' o.2.1 (kq_X11_end_h).2.2.1 o.1 ∧ sf_S (sf_v1 o.1 [.ref 69, .int x1] o.2) (kq_X11_end_h).2.2.2.1 ∧ ke_X11_end_h [.ref 69, .int x1] hp o.1 o.2) := ⟨_, rfl⟩
    rw [← hQ]
    refine (show Ev (ab_T L_X11_end) 0 ([some (.ref 69), some (.int x1)], [], (0, 0), hp) Q from ?_)
    obtain ⟨L0, hL0, lL0, uL0⟩ := bs_fld (k := 2) H (bs_R.uq H (g := 11) rfl) (by decide) rfl
    refine Ev.step (j := 1) (s' := ([some (.ref 69), some (.int x1)], [.ref 69], (0, 0), hp)) rfl rfl ?_
    refine bs_lit (k := 0) rfl rfl fun z1 hz1 => ?_
    refine bs_putI (W := [(11, 0, 0)]) (g := 11) rfl rfl H (bs_R.uq H (g := 11) rfl) (by decide) rfl rfl rfl rfl (Or.inl rfl) (by omega) (by omega) fun hp2 Hhp2 fhp2 rhp2 ehp2 qhp2 nhp2 => ?_
    have Fhp2 := sf_fr_tr F0 (sf_fr_wider (W := [(11, 0, 0), (11, 2, 2)]) rfl fhp2)
    have h3 : sf_rd hp2 69 2 = some L0 := (ehp2 _ _ (Or.inr (by omega))).trans hL0
    refine Ev.step (j := 6) (s' := ([some (.ref 69), some (.int x1)], [.int x1], (0, 0), hp2)) rfl rfl ?_
    refine bs_iflt rfl (fun c4 => ?_) (fun c4 => ?_)
    · skip
      refine bs_lit (k := 0) rfl rfl fun z5 hz5 => ?_
      exact bs_zret rfl rfl (by omega) (by omega) (by rw [hQ]; exact ⟨t, Hhp2, Fhp2, bs_an0, sf_S_cons (sf_s1 (x := z5.toInt) rfl (by omega) (by omega)) (sf_S_nil), (fun v x hx hv => by have e : v = L0 := Option.some.inj (hv.symm.trans hL0); subst e; have hx2 : some (Value.int x1) = some (Value.int x) := hx; obtain rfl := Value.int.inj (Option.some.inj hx2); unfold en_n; split <;> exact h3.trans (congrArg some (by omega)))⟩)
    · skip
      refine Ev.step (j := 10) (s' := ([some (.ref 69), some (.int x1)], [.int x1], (0, 0), hp2)) rfl rfl ?_
      refine Ev.step (j := 11) (s' := ([some (.ref 69), some (.int x1)], [.ref 69, .int x1], (0, 0), hp2)) rfl rfl ?_
      refine bs_getI 11 rfl rfl rfl Hhp2 (bs_R.uq Hhp2 (g := 11) rfl) (by decide) rfl fun z6 hz6 lz6 gz6 => ?_
      have e7 : z6.toInt = L0 := Option.some.inj (hz6.symm.trans h3)
      refine bs_le rfl (fun c8 => ?_) (fun c8 => ?_)
      · skip
        refine Ev.step (j := 20) (s' := ([some (.ref 69), some (.int x1)], [.ref 69], (0, 0), hp2)) rfl rfl ?_
        refine Ev.step (j := 21) (s' := ([some (.ref 69), some (.int x1)], [.int x1, .ref 69], (0, 0), hp2)) rfl rfl ?_
        refine bs_putI (W := [(11, 2, 2)]) (g := 11) rfl rfl Hhp2 (bs_R.uq Hhp2 (g := 11) rfl) (by decide) rfl rfl rfl rfl (Or.inl rfl) (by omega) (by omega) fun hp9 Hhp9 fhp9 rhp9 ehp9 qhp9 nhp9 => ?_
        have Fhp9 := sf_fr_tr Fhp2 (sf_fr_wider (W := [(11, 0, 0), (11, 2, 2)]) rfl fhp9)
        have h10 : sf_rd hp9 69 0 = some z1.toInt := (ehp9 _ _ (Or.inr (by omega))).trans rhp2
        refine bs_lit (k := 1) rfl rfl fun z11 hz11 => ?_
        exact bs_zret rfl rfl (by omega) (by omega) (by rw [hQ]; exact ⟨t, Hhp9, Fhp9, bs_an0, sf_S_cons (sf_s1 (x := z11.toInt) rfl (by omega) (by omega)) (sf_S_nil), (fun v x hx hv => by have e : v = L0 := Option.some.inj (hv.symm.trans hL0); subst e; have hx2 : some (Value.int x1) = some (Value.int x) := hx; obtain rfl := Value.int.inj (Option.some.inj hx2); unfold en_n; split <;> exact rhp9.trans (congrArg some (by omega)))⟩)
      · skip
        refine bs_lit (k := 0) rfl rfl fun z12 hz12 => ?_
        exact bs_zret rfl rfl (by omega) (by omega) (by rw [hQ]; exact ⟨t, Hhp2, Fhp2, bs_an0, sf_S_cons (sf_s1 (x := z12.toInt) rfl (by omega) (by omega)) (sf_S_nil), (fun v x hx hv => by have e : v = L0 := Option.some.inj (hv.symm.trans hL0); subst e; have hx2 : some (Value.int x1) = some (Value.int x) := hx; obtain rfl := Value.int.inj (Option.some.inj hx2); unfold en_n; split <;> exact h3.trans (congrArg some (by omega)))⟩)
theorem ct_X11_end_h : sf_ct kq_X11_end_h Z_X11_end := ce_X11_end_h.ct
