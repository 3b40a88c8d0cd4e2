def kq_X11_tries_h : sf_Q := ([(1, 11, 0)], [], none, [], [(139, 0, 132)])
set_option maxRecDepth 100000 in
set_option maxHeartbeats 4000000 in
theorem ct_X11_tries_h : sf_ct kq_X11_tries_h Z_X11_tries := by
  intro t hp as H hl hj hpre
  match as, hl with
  | [v0], _ =>
    obtain ⟨a0, rfl, ra0⟩ := bs_aR (hj 0 _ rfl)
    obtain rfl := ra0.eq H (p := 69) rfl
    clear hpre hj
    have F0 : sf_fr [(139, 0, 132)] t hp t hp := sf_fr_rf
    refine bs_fin (K := kq_X11_tries_h) (L := L_X11_tries) (nL := 2) (Nat.le_of_ble_eq_true rfl) ?_
    obtain ⟨Q, hQ⟩ : ∃ Q : ab_O → Prop, Q = (fun o => ∃ t', sf_h t' o.2 ∧ sf_fr (kq_X11_tries_h).2.2.2.2 t hp t' o.2 ∧ sf_an t' o.2.1 (kq_X11_tries_h).2.2.1 o.1 ∧ sf_S (sf_v1 o.1 [.ref 69] o.2) (kq_X11_tries_h).2.2.2.1) := ⟨_, rfl⟩
    rw [← hQ]
    refine (show Ev (ab_T L_X11_tries) 0 ([some (.ref 69), none], [], (0, 0), hp) Q from ?_)
    refine bs_lit (k := 0) rfl rfl fun z1 hz1 => ?_
    refine Ev.step (j := 2) (s' := ([some (.ref 69), some (.int z1)], [], (0, 0), hp)) rfl rfl ?_
    refine bs_loop (ι := Int32 × ab_H × (Nat → Nat)) (fun ⟨k2, hp3, t4⟩ => ([some (.ref 69), some (.int k2)], [], (0, 0), hp3)) (fun ⟨k2, hp3, t4⟩ => (sf_h t4 hp3) ∧ (sf_fr [(139, 0, 132)] t hp t4 hp3) ∧ (0 ≤ k2.toInt ∧ k2.toInt ≤ 133)) (fun ⟨k2, hp3, t4⟩ => (133 - k2.toInt).toNat) ?_ (z1, hp, t) ⟨H, F0, (by first | omega | assumption)⟩
    rintro ⟨k2, hp3, t4⟩ ⟨Hhp3, Fhp3, i6⟩ ih5
    refine (show Ev _ 2 ([some (.ref 69), some (.int k2)], [], (0, 0), hp3) _ from ?_)
    refine Ev.step (j := 3) (s' := ([some (.ref 69), some (.int k2)], [.int k2], (0, 0), hp3)) rfl rfl ?_
    refine bs_lit (k := 133) rfl rfl fun z7 hz7 => ?_
    refine bs_ge rfl (fun c8 => ?_) (fun c8 => ?_)
    · skip
      exact Ev.ret rfl rfl (by rw [hQ]; exact ⟨t4, Hhp3, Fhp3, bs_anU, sf_S_nil⟩)
    · skip
      refine Ev.step (j := 10) (s' := ([some (.ref 69), some (.int k2)], [.ref 69], (0, 0), hp3)) rfl rfl ?_
      refine bs_getU (g := 11) (g1 := 139) rfl rfl Hhp3 (bs_R.uq Hhp3 (g := 11) rfl) (by decide) rfl rfl ?_
      refine Ev.step (j := 14) (s' := ([some (.ref 69), some (.int k2)], [.int k2, .ref 78], (0, 0), hp3)) rfl rfl ?_
      refine Ev.step (j := 15) (s' := ([some (.ref 69), some (.int k2)], [.ref 69, .int k2, .ref 78], (0, 0), hp3)) rfl rfl ?_
      refine bs_getU (g := 11) (g1 := 132) rfl rfl Hhp3 (bs_R.uq Hhp3 (g := 11) rfl) (by decide) rfl rfl ?_
      refine bs_lit (k := 120) rfl rfl fun z9 hz9 => ?_
      refine Ev.step (j := 21) (s' := ([some (.ref 69), some (.int k2)], [.int k2, .int z9, .ref 71, .int k2, .ref 78], (0, 0), hp3)) rfl rfl ?_
      first | (refine bs_add rfl (by omega) (by omega) fun z10 hz10 => ?_) | (refine bs_any rfl fun z10 => ?_)
      have rz10 := n_range z10
      refine bs_ldK (g := 132) rfl Hhp3 (bs_R.uq Hhp3 (g := 132) rfl) (by decide) rfl (by omega) (by show _ < ((434 : Nat) : Int); omega) fun z11 hz11 kz11 => ?_
      have rz11 := n_range z11
      have kv : ∀ n, sf_v t4 n (sf_e (sf_A 139).2.2 k2.toInt.toNat) (.int z11) := fun n => by
        have h1 := sg_132 (z10.toInt.toNat - 120) (by omega)
        have h2 := sg_139 k2.toInt.toNat (by omega)
        rw [show 120 + (z10.toInt.toNat - 120) = z10.toInt.toNat by omega] at h1
        have h3 := kz11 n
        rw [h1] at h3
        rw [h2]
        have e9 : 120 + k2.toInt.toNat % 133 = 120 + (z10.toInt.toNat - 120) % 133 := by omega
        rw [e9]
        exact h3
      refine bs_stK (W := [(139, 0, 132)]) (g := 139) 0 132 rfl Hhp3 (bs_R.uq Hhp3 (g := 139) rfl) (by decide) rfl (by decide) rfl rfl (by omega) (by omega) (kv _) fun hp12 Hhp12 fhp12 rhp12 ehp12 qhp12 nhp12 => ?_
      clear kv
      have Fhp12 := sf_fr_tr Fhp3 (sf_fr_wider (W := [(139, 0, 132)]) rfl fhp12)
      refine bs_iinc (1) rfl rfl rfl rfl (by omega) (by omega) fun z13 hz13 => ?_
      refine (show Ev _ 27 ([some (.ref 69), some (.int z13)], [], (0, 0), hp12) _ from ?_)
      refine Ev.step (j := 2) (s' := ([some (.ref 69), some (.int z13)], [], (0, 0), hp12)) rfl rfl ?_
      refine ih5 (z13, hp12, t4) ⟨Hhp12, Fhp12, (by first | omega | assumption)⟩ ?_
      show (133 - z13.toInt).toNat < (133 - k2.toInt).toNat
      omega
def kq_X11_back_h : sf_Q := ([(1, 11, 0)], [], none, [], [(132, 120, 252)])
set_option maxRecDepth 100000 in
set_option maxHeartbeats 4000000 in
theorem ct_X11_back_h : sf_ct kq_X11_back_h Z_X11_back := by
  intro t hp as H hl hj hpre
  match as, hl with
  | [v0], _ =>
    obtain ⟨a0, rfl, ra0⟩ := bs_aR (hj 0 _ rfl)
    obtain rfl := ra0.eq H (p := 69) rfl
    clear hpre hj
    have F0 : sf_fr [(132, 120, 252)] t hp t hp := sf_fr_rf
    refine bs_fin (K := kq_X11_back_h) (L := L_X11_back) (nL := 2) (Nat.le_of_ble_eq_true rfl) ?_
    obtain ⟨Q, hQ⟩ : ∃ Q : ab_O → Prop, Q = (fun o => ∃ t', sf_h t' o.2 ∧ sf_fr (kq_X11_back_h).2.2.2.2 t hp t' o.2 ∧ sf_an t' o.2.1 (kq_X11_back_h).2.2.1 o.1 ∧ sf_S (sf_v1 o.1 [.ref 69] o.2) (kq_X11_back_h).2.2.2.1) := ⟨_, rfl⟩
    rw [← hQ]
    refine (show Ev (ab_T L_X11_back) 0 ([some (.ref 69), none], [], (0, 0), hp) Q from ?_)
    refine bs_lit (k := 0) rfl rfl fun z1 hz1 => ?_
    refine Ev.step (j := 2) (s' := ([some (.ref 69), some (.int z1)], [], (0, 0), hp)) rfl rfl ?_
    refine bs_loop (ι := Int32 × ab_H × (Nat → Nat)) (fun ⟨k2, hp3, t4⟩ => ([some (.ref 69), some (.int k2)], [], (0, 0), hp3)) (fun ⟨k2, hp3, t4⟩ => (sf_h t4 hp3) ∧ (sf_fr [(132, 120, 252)] t hp t4 hp3) ∧ (0 ≤ k2.toInt ∧ k2.toInt ≤ 133)) (fun ⟨k2, hp3, t4⟩ => (133 - k2.toInt).toNat) ?_ (z1, hp, t) ⟨H, F0, (by first | omega | assumption)⟩
    rintro ⟨k2, hp3, t4⟩ ⟨Hhp3, Fhp3, i6⟩ ih5
    refine (show Ev _ 2 ([some (.ref 69), some (.int k2)], [], (0, 0), hp3) _ from ?_)
    refine Ev.step (j := 3) (s' := ([some (.ref 69), some (.int k2)], [.int k2], (0, 0), hp3)) rfl rfl ?_
    refine bs_lit (k := 133) rfl rfl fun z7 hz7 => ?_
    refine bs_ge rfl (fun c8 => ?_) (fun c8 => ?_)
    · skip
      exact Ev.ret rfl rfl (by rw [hQ]; exact ⟨t4, Hhp3, Fhp3, bs_anU, sf_S_nil⟩)
    · skip
      refine Ev.step (j := 10) (s' := ([some (.ref 69), some (.int k2)], [.ref 69], (0, 0), hp3)) rfl rfl ?_
      refine bs_getU (g := 11) (g1 := 132) rfl rfl Hhp3 (bs_R.uq Hhp3 (g := 11) rfl) (by decide) rfl rfl ?_
      refine bs_lit (k := 120) rfl rfl fun z9 hz9 => ?_
      refine Ev.step (j := 16) (s' := ([some (.ref 69), some (.int k2)], [.int k2, .int z9, .ref 71], (0, 0), hp3)) rfl rfl ?_
      first | (refine bs_add rfl (by omega) (by omega) fun z10 hz10 => ?_) | (refine bs_any rfl fun z10 => ?_)
      have rz10 := n_range z10
      refine Ev.step (j := 18) (s' := ([some (.ref 69), some (.int k2)], [.ref 69, .int z10, .ref 71], (0, 0), hp3)) rfl rfl ?_
      refine bs_getU (g := 11) (g1 := 139) rfl rfl Hhp3 (bs_R.uq Hhp3 (g := 11) rfl) (by decide) rfl rfl ?_
      refine Ev.step (j := 22) (s' := ([some (.ref 69), some (.int k2)], [.int k2, .ref 78, .int z10, .ref 71], (0, 0), hp3)) rfl rfl ?_
      refine bs_ldK (g := 139) rfl Hhp3 (bs_R.uq Hhp3 (g := 139) rfl) (by decide) rfl (by omega) (by show _ < ((133 : Nat) : Int); omega) fun z11 hz11 kz11 => ?_
      have rz11 := n_range z11
      have kv : ∀ n, sf_v t4 n (sf_e (sf_A 132).2.2 z10.toInt.toNat) (.int z11) := fun n => by
        have h1 := sg_139 k2.toInt.toNat (by omega)
        have h2 := sg_132 (z10.toInt.toNat - 120) (by omega)
        rw [show 120 + (z10.toInt.toNat - 120) = z10.toInt.toNat by omega] at h2
        have h3 := kz11 n
        rw [h1] at h3
        rw [h2]
        have e9 : 120 + (z10.toInt.toNat - 120) % 133 = 120 + k2.toInt.toNat % 133 := by omega
        rw [e9]
        exact h3
      refine bs_stK (W := [(132, 120, 252)]) (g := 132) 120 252 rfl Hhp3 (bs_R.uq Hhp3 (g := 132) rfl) (by decide) rfl (by decide) rfl rfl (by omega) (by omega) (kv _) fun hp12 Hhp12 fhp12 rhp12 ehp12 qhp12 nhp12 => ?_
      clear kv
      have Fhp12 := sf_fr_tr Fhp3 (sf_fr_wider (W := [(132, 120, 252)]) rfl fhp12)
      refine bs_iinc (1) rfl rfl rfl rfl (by omega) (by omega) fun z13 hz13 => ?_
      refine (show Ev _ 27 ([some (.ref 69), some (.int z13)], [], (0, 0), hp12) _ from ?_)
      refine Ev.step (j := 2) (s' := ([some (.ref 69), some (.int z13)], [], (0, 0), hp12)) rfl rfl ?_
      refine ih5 (z13, hp12, t4) ⟨Hhp12, Fhp12, (by first | omega | assumption)⟩ ?_
      show (133 - z13.toInt).toNat < (133 - k2.toInt).toNat
      omega
def kq_X11_keep_h : sf_Q := ([(1, 11, 0)], [], none, [], [(11, 25, 25), (138, 0, 1063)])
set_option maxRecDepth 100000 in
set_option maxHeartbeats 4000000 in
theorem ct_X11_keep_h : sf_ct kq_X11_keep_h Z_X11_keep := by
  intro t hp as H hl hj hpre
  match as, hl with
  | [v0], _ =>
    obtain ⟨a0, rfl, ra0⟩ := bs_aR (hj 0 _ rfl)
    obtain rfl := ra0.eq H (p := 69) rfl
    clear hpre hj
    have F0 : sf_fr [(11, 25, 25), (138, 0, 1063)] t hp t hp := sf_fr_rf
    refine bs_fin (K := kq_X11_keep_h) (L := L_X11_keep) (nL := 2) (Nat.le_of_ble_eq_true rfl) ?_
    obtain ⟨Q, hQ⟩ : ∃ Q : ab_O → Prop, Q = (fun o => ∃ t', sf_h t' o.2 ∧ sf_fr (kq_X11_keep_h).2.2.2.2 t hp t' o.2 ∧ sf_an t' o.2.1 (kq_X11_keep_h).2.2.1 o.1 ∧ sf_S (sf_v1 o.1 [.ref 69] o.2) (kq_X11_keep_h).2.2.2.1) := ⟨_, rfl⟩
    rw [← hQ]
    refine (show Ev (ab_T L_X11_keep) 0 ([some (.ref 69), none], [], (0, 0), hp) Q from ?_)
    refine Ev.step (j := 1) (s' := ([some (.ref 69), none], [.ref 69], (0, 0), hp)) rfl rfl ?_
    refine bs_getI 11 rfl rfl rfl H (bs_R.uq H (g := 11) rfl) (by decide) rfl fun z1 hz1 lz1 gz1 => ?_
    refine bs_lit (k := 8) rfl rfl fun z2 hz2 => ?_
    refine bs_ne rfl (fun c3 => ?_) (fun c3 => ?_)
    · skip
      refine bs_lit (k := 0) rfl rfl fun z4 hz4 => ?_
      refine Ev.step (j := 48) (s' := ([some (.ref 69), some (.int z4)], [], (0, 0), hp)) rfl rfl ?_
      refine bs_loop (ι := Int32 × ab_H × (Nat → Nat)) (fun ⟨k5, hp6, t7⟩ => ([some (.ref 69), some (.int k5)], [], (0, 0), hp6)) (fun ⟨k5, hp6, t7⟩ => (sf_h t7 hp6) ∧ (sf_fr [(11, 25, 25), (138, 0, 1063)] t hp t7 hp6) ∧ (sf_rd hp6 69 25 = some z1.toInt) ∧ (0 ≤ k5.toInt ∧ k5.toInt ≤ 133)) (fun ⟨k5, hp6, t7⟩ => (133 - k5.toInt).toNat) ?_ (z4, hp, t) ⟨H, F0, hz1, (by first | omega | assumption)⟩
      rintro ⟨k5, hp6, t7⟩ ⟨Hhp6, Fhp6, i9, i10⟩ ih8
      refine (show Ev _ 48 ([some (.ref 69), some (.int k5)], [], (0, 0), hp6) _ from ?_)
      refine Ev.step (j := 49) (s' := ([some (.ref 69), some (.int k5)], [.int k5], (0, 0), hp6)) rfl rfl ?_
      refine bs_lit (k := 133) rfl rfl fun z11 hz11 => ?_
      refine bs_ge rfl (fun c12 => ?_) (fun c12 => ?_)
      · skip
        refine Ev.step (j := 86) (s' := ([some (.ref 69), some (.int k5)], [.ref 69], (0, 0), hp6)) rfl rfl ?_
        refine Ev.step (j := 87) (s' := ([some (.ref 69), some (.int k5)], [.ref 69, .ref 69], (0, 0), hp6)) rfl rfl ?_
        refine bs_getI 11 rfl rfl rfl Hhp6 (bs_R.uq Hhp6 (g := 11) rfl) (by decide) rfl fun z13 hz13 lz13 gz13 => ?_
        have e14 : z13.toInt = z1.toInt := Option.some.inj (hz13.symm.trans i9)
        refine bs_lit (k := 1) rfl rfl fun z15 hz15 => ?_
        first | (refine bs_add rfl (by omega) (by omega) fun z16 hz16 => ?_) | (refine bs_any rfl fun z16 => ?_)
        have rz16 := n_range z16
        refine bs_putI (W := [(11, 25, 25)]) (g := 11) rfl rfl Hhp6 (bs_R.uq Hhp6 (g := 11) rfl) (by decide) rfl rfl rfl rfl (Or.inl rfl) (by omega) (by omega) fun hp17 Hhp17 fhp17 rhp17 ehp17 qhp17 nhp17 => ?_
        have Fhp17 := sf_fr_tr Fhp6 (sf_fr_wider (W := [(11, 25, 25), (138, 0, 1063)]) rfl fhp17)
        exact Ev.ret rfl rfl (by rw [hQ]; exact ⟨t7, Hhp17, Fhp17, bs_anU, sf_S_nil⟩)
      · skip
        refine Ev.step (j := 56) (s' := ([some (.ref 69), some (.int k5)], [.ref 69], (0, 0), hp6)) rfl rfl ?_
        refine bs_getU (g := 11) (g1 := 138) rfl rfl Hhp6 (bs_R.uq Hhp6 (g := 11) rfl) (by decide) rfl rfl ?_
        refine bs_lit (k := 133) rfl rfl fun z18 hz18 => ?_
        refine Ev.step (j := 63) (s' := ([some (.ref 69), some (.int k5)], [.ref 69, .int z18, .ref 77], (0, 0), hp6)) rfl rfl ?_
        refine bs_getI 11 rfl rfl rfl Hhp6 (bs_R.uq Hhp6 (g := 11) rfl) (by decide) rfl fun z19 hz19 lz19 gz19 => ?_
        have e20 : z19.toInt = z1.toInt := Option.some.inj (hz19.symm.trans i9)
        refine bs_mul (133) rfl (Or.inl hz18) (by rw [hz18]; omega) (by rw [hz18]; omega) fun z21 hz21 => ?_
        rw [hz18] at hz21
        refine Ev.step (j := 68) (s' := ([some (.ref 69), some (.int k5)], [.int k5, .int z21, .ref 77], (0, 0), hp6)) rfl rfl ?_
        first | (refine bs_add rfl (by omega) (by omega) fun z22 hz22 => ?_) | (refine bs_any rfl fun z22 => ?_)
        have rz22 := n_range z22
        refine Ev.step (j := 70) (s' := ([some (.ref 69), some (.int k5)], [.ref 69, .int z22, .ref 77], (0, 0), hp6)) rfl rfl ?_
        refine bs_getU (g := 11) (g1 := 132) rfl rfl Hhp6 (bs_R.uq Hhp6 (g := 11) rfl) (by decide) rfl rfl ?_
        refine bs_lit (k := 120) rfl rfl fun z23 hz23 => ?_
        refine Ev.step (j := 76) (s' := ([some (.ref 69), some (.int k5)], [.int k5, .int z23, .ref 71, .int z22, .ref 77], (0, 0), hp6)) rfl rfl ?_
        first | (refine bs_add rfl (by omega) (by omega) fun z24 hz24 => ?_) | (refine bs_any rfl fun z24 => ?_)
        have rz24 := n_range z24
        refine bs_ldK (g := 132) rfl Hhp6 (bs_R.uq Hhp6 (g := 132) rfl) (by decide) rfl (by omega) (by show _ < ((434 : Nat) : Int); omega) fun z25 hz25 kz25 => ?_
        have rz25 := n_range z25
        have kv : ∀ n, sf_v t7 n (sf_e (sf_A 138).2.2 z22.toInt.toNat) (.int z25) := fun n => by
          have h1 := sg_132 (z24.toInt.toNat - 120) (by omega)
          have h2 := sg_138 z22.toInt.toNat (by omega)
          rw [show 120 + (z24.toInt.toNat - 120) = z24.toInt.toNat by omega] at h1
          have h3 := kz25 n
          rw [h1] at h3
          rw [h2]
          have e9 : 120 + z22.toInt.toNat % 133 = 120 + (z24.toInt.toNat - 120) % 133 := by omega
          rw [e9]
          exact h3
        refine bs_stK (W := [(138, 0, 1063)]) (g := 138) 0 1063 rfl Hhp6 (bs_R.uq Hhp6 (g := 138) rfl) (by decide) rfl (by decide) rfl rfl (by omega) (by omega) (kv _) fun hp26 Hhp26 fhp26 rhp26 ehp26 qhp26 nhp26 => ?_
        clear kv
        have Fhp26 := sf_fr_tr Fhp6 (sf_fr_wider (W := [(11, 25, 25), (138, 0, 1063)]) rfl fhp26)
        have h27 : sf_rd hp26 69 25 = some z1.toInt := (ehp26 _ _ (Or.inl (by decide))).trans i9
        refine bs_iinc (1) rfl rfl rfl rfl (by omega) (by omega) fun z28 hz28 => ?_
        refine (show Ev _ 82 ([some (.ref 69), some (.int z28)], [], (0, 0), hp26) _ from ?_)
        refine Ev.step (j := 48) (s' := ([some (.ref 69), some (.int z28)], [], (0, 0), hp26)) rfl rfl ?_
        refine ih8 (z28, hp26, t7) ⟨Hhp26, Fhp26, h27, (by first | omega | assumption)⟩ ?_
        show (133 - z28.toInt).toNat < (133 - k5.toInt).toNat
        omega
    · skip
      have c29 : z1.toInt = 8 := by omega
      refine bs_lit (k := 0) rfl rfl fun z30 hz30 => ?_
      refine Ev.step (j := 11) (s' := ([some (.ref 69), some (.int z30)], [], (0, 0), hp)) rfl rfl ?_
      refine bs_loop (ι := Int32 × ab_H × (Nat → Nat)) (fun ⟨k31, hp32, t33⟩ => ([some (.ref 69), some (.int k31)], [], (0, 0), hp32)) (fun ⟨k31, hp32, t33⟩ => (sf_h t33 hp32) ∧ (sf_fr [(11, 25, 25), (138, 0, 1063)] t hp t33 hp32) ∧ (0 ≤ k31.toInt ∧ k31.toInt ≤ 931)) (fun ⟨k31, hp32, t33⟩ => (931 - k31.toInt).toNat) ?_ (z30, hp, t) ⟨H, F0, (by first | omega | assumption)⟩
      rintro ⟨k31, hp32, t33⟩ ⟨Hhp32, Fhp32, i35⟩ ih34
      refine (show Ev _ 11 ([some (.ref 69), some (.int k31)], [], (0, 0), hp32) _ from ?_)
      refine Ev.step (j := 12) (s' := ([some (.ref 69), some (.int k31)], [.int k31], (0, 0), hp32)) rfl rfl ?_
      refine bs_lit (k := 931) rfl rfl fun z36 hz36 => ?_
      refine bs_ge rfl (fun c37 => ?_) (fun c37 => ?_)
      · skip
        refine Ev.step (j := 41) (s' := ([some (.ref 69), some (.int k31)], [.ref 69], (0, 0), hp32)) rfl rfl ?_
        refine bs_lit (k := 7) rfl rfl fun z38 hz38 => ?_
        refine bs_putI (W := [(11, 25, 25)]) (g := 11) rfl rfl Hhp32 (bs_R.uq Hhp32 (g := 11) rfl) (by decide) rfl rfl rfl rfl (Or.inl rfl) (by omega) (by omega) fun hp39 Hhp39 fhp39 rhp39 ehp39 qhp39 nhp39 => ?_
        have Fhp39 := sf_fr_tr Fhp32 (sf_fr_wider (W := [(11, 25, 25), (138, 0, 1063)]) rfl fhp39)
        refine bs_lit (k := 0) rfl rfl fun z40 hz40 => ?_
        refine Ev.step (j := 48) (s' := ([some (.ref 69), some (.int z40)], [], (0, 0), hp39)) rfl rfl ?_
        refine bs_loop (ι := Int32 × ab_H × (Nat → Nat)) (fun ⟨k41, hp42, t43⟩ => ([some (.ref 69), some (.int k41)], [], (0, 0), hp42)) (fun ⟨k41, hp42, t43⟩ => (sf_h t43 hp42) ∧ (sf_fr [(11, 25, 25), (138, 0, 1063)] t hp t43 hp42) ∧ (sf_rd hp42 69 25 = some z38.toInt) ∧ (0 ≤ k41.toInt ∧ k41.toInt ≤ 133)) (fun ⟨k41, hp42, t43⟩ => (133 - k41.toInt).toNat) ?_ (z40, hp39, t33) ⟨Hhp39, Fhp39, rhp39, (by first | omega | assumption)⟩
        rintro ⟨k41, hp42, t43⟩ ⟨Hhp42, Fhp42, i45, i46⟩ ih44
        refine (show Ev _ 48 ([some (.ref 69), some (.int k41)], [], (0, 0), hp42) _ from ?_)
        refine Ev.step (j := 49) (s' := ([some (.ref 69), some (.int k41)], [.int k41], (0, 0), hp42)) rfl rfl ?_
        refine bs_lit (k := 133) rfl rfl fun z47 hz47 => ?_
        refine bs_ge rfl (fun c48 => ?_) (fun c48 => ?_)
        · skip
          refine Ev.step (j := 86) (s' := ([some (.ref 69), some (.int k41)], [.ref 69], (0, 0), hp42)) rfl rfl ?_
          refine Ev.step (j := 87) (s' := ([some (.ref 69), some (.int k41)], [.ref 69, .ref 69], (0, 0), hp42)) rfl rfl ?_
          refine bs_getI 11 rfl rfl rfl Hhp42 (bs_R.uq Hhp42 (g := 11) rfl) (by decide) rfl fun z49 hz49 lz49 gz49 => ?_
          have e50 : z49.toInt = z38.toInt := Option.some.inj (hz49.symm.trans i45)
          refine bs_lit (k := 1) rfl rfl fun z51 hz51 => ?_
          first | (refine bs_add rfl (by omega) (by omega) fun z52 hz52 => ?_) | (refine bs_any rfl fun z52 => ?_)
          have rz52 := n_range z52
          refine bs_putI (W := [(11, 25, 25)]) (g := 11) rfl rfl Hhp42 (bs_R.uq Hhp42 (g := 11) rfl) (by decide) rfl rfl rfl rfl (Or.inl rfl) (by omega) (by omega) fun hp53 Hhp53 fhp53 rhp53 ehp53 qhp53 nhp53 => ?_
          have Fhp53 := sf_fr_tr Fhp42 (sf_fr_wider (W := [(11, 25, 25), (138, 0, 1063)]) rfl fhp53)
          exact Ev.ret rfl rfl (by rw [hQ]; exact ⟨t43, Hhp53, Fhp53, bs_anU, sf_S_nil⟩)
        · skip
          refine Ev.step (j := 56) (s' := ([some (.ref 69), some (.int k41)], [.ref 69], (0, 0), hp42)) rfl rfl ?_
          refine bs_getU (g := 11) (g1 := 138) rfl rfl Hhp42 (bs_R.uq Hhp42 (g := 11) rfl) (by decide) rfl rfl ?_
          refine bs_lit (k := 133) rfl rfl fun z54 hz54 => ?_
          refine Ev.step (j := 63) (s' := ([some (.ref 69), some (.int k41)], [.ref 69, .int z54, .ref 77], (0, 0), hp42)) rfl rfl ?_
          refine bs_getI 11 rfl rfl rfl Hhp42 (bs_R.uq Hhp42 (g := 11) rfl) (by decide) rfl fun z55 hz55 lz55 gz55 => ?_
          have e56 : z55.toInt = z38.toInt := Option.some.inj (hz55.symm.trans i45)
          refine bs_mul (133) rfl (Or.inl hz54) (by rw [hz54]; omega) (by rw [hz54]; omega) fun z57 hz57 => ?_
          rw [hz54] at hz57
          refine Ev.step (j := 68) (s' := ([some (.ref 69), some (.int k41)], [.int k41, .int z57, .ref 77], (0, 0), hp42)) rfl rfl ?_
          first | (refine bs_add rfl (by omega) (by omega) fun z58 hz58 => ?_) | (refine bs_any rfl fun z58 => ?_)
          have rz58 := n_range z58
          refine Ev.step (j := 70) (s' := ([some (.ref 69), some (.int k41)], [.ref 69, .int z58, .ref 77], (0, 0), hp42)) rfl rfl ?_
          refine bs_getU (g := 11) (g1 := 132) rfl rfl Hhp42 (bs_R.uq Hhp42 (g := 11) rfl) (by decide) rfl rfl ?_
          refine bs_lit (k := 120) rfl rfl fun z59 hz59 => ?_
          refine Ev.step (j := 76) (s' := ([some (.ref 69), some (.int k41)], [.int k41, .int z59, .ref 71, .int z58, .ref 77], (0, 0), hp42)) rfl rfl ?_
          first | (refine bs_add rfl (by omega) (by omega) fun z60 hz60 => ?_) | (refine bs_any rfl fun z60 => ?_)
          have rz60 := n_range z60
          refine bs_ldK (g := 132) rfl Hhp42 (bs_R.uq Hhp42 (g := 132) rfl) (by decide) rfl (by omega) (by show _ < ((434 : Nat) : Int); omega) fun z61 hz61 kz61 => ?_
          have rz61 := n_range z61
          have kv : ∀ n, sf_v t43 n (sf_e (sf_A 138).2.2 z58.toInt.toNat) (.int z61) := fun n => by
            have h1 := sg_132 (z60.toInt.toNat - 120) (by omega)
            have h2 := sg_138 z58.toInt.toNat (by omega)
            rw [show 120 + (z60.toInt.toNat - 120) = z60.toInt.toNat by omega] at h1
            have h3 := kz61 n
            rw [h1] at h3
            rw [h2]
            have e9 : 120 + z58.toInt.toNat % 133 = 120 + (z60.toInt.toNat - 120) % 133 := by omega
            rw [e9]
            exact h3
          refine bs_stK (W := [(138, 0, 1063)]) (g := 138) 0 1063 rfl Hhp42 (bs_R.uq Hhp42 (g := 138) rfl) (by decide) rfl (by decide) rfl rfl (by omega) (by omega) (kv _) fun hp62 Hhp62 fhp62 rhp62 ehp62 qhp62 nhp62 => ?_
          clear kv
          have Fhp62 := sf_fr_tr Fhp42 (sf_fr_wider (W := [(11, 25, 25), (138, 0, 1063)]) rfl fhp62)
          have h63 : sf_rd hp62 69 25 = some z38.toInt := (ehp62 _ _ (Or.inl (by decide))).trans i45
          refine bs_iinc (1) rfl rfl rfl rfl (by omega) (by omega) fun z64 hz64 => ?_
          refine (show Ev _ 82 ([some (.ref 69), some (.int z64)], [], (0, 0), hp62) _ from ?_)
          refine Ev.step (j := 48) (s' := ([some (.ref 69), some (.int z64)], [], (0, 0), hp62)) rfl rfl ?_
          refine ih44 (z64, hp62, t43) ⟨Hhp62, Fhp62, h63, (by first | omega | assumption)⟩ ?_
          show (133 - z64.toInt).toNat < (133 - k41.toInt).toNat
          omega
      · skip
        refine Ev.step (j := 19) (s' := ([some (.ref 69), some (.int k31)], [.ref 69], (0, 0), hp32)) rfl rfl ?_
        refine bs_getU (g := 11) (g1 := 138) rfl rfl Hhp32 (bs_R.uq Hhp32 (g := 11) rfl) (by decide) rfl rfl ?_
        refine Ev.step (j := 23) (s' := ([some (.ref 69), some (.int k31)], [.int k31, .ref 77], (0, 0), hp32)) rfl rfl ?_
        refine Ev.step (j := 24) (s' := ([some (.ref 69), some (.int k31)], [.ref 69, .int k31, .ref 77], (0, 0), hp32)) rfl rfl ?_
        refine bs_getU (g := 11) (g1 := 138) rfl rfl Hhp32 (bs_R.uq Hhp32 (g := 11) rfl) (by decide) rfl rfl ?_
        refine Ev.step (j := 28) (s' := ([some (.ref 69), some (.int k31)], [.int k31, .ref 77, .int k31, .ref 77], (0, 0), hp32)) rfl rfl ?_
        refine bs_lit (k := 133) rfl rfl fun z65 hz65 => ?_
        first | (refine bs_add rfl (by omega) (by omega) fun z66 hz66 => ?_) | (refine bs_any rfl fun z66 => ?_)
        have rz66 := n_range z66
        refine bs_ldK (g := 138) rfl Hhp32 (bs_R.uq Hhp32 (g := 138) rfl) (by decide) rfl (by omega) (by show _ < ((1064 : Nat) : Int); omega) fun z67 hz67 kz67 => ?_
        have rz67 := n_range z67
        have kv : ∀ n, sf_v t33 n (sf_e (sf_A 138).2.2 k31.toInt.toNat) (.int z67) := fun n => by
          have h1 := sg_138 z66.toInt.toNat (by omega)
          have h2 := sg_138 k31.toInt.toNat (by omega)
          have h3 := kz67 n
          rw [h1] at h3
          rw [h2]
          have e9 : 120 + k31.toInt.toNat % 133 = 120 + z66.toInt.toNat % 133 := by omega
          rw [e9]
          exact h3
        refine bs_stK (W := [(138, 0, 1063)]) (g := 138) 0 1063 rfl Hhp32 (bs_R.uq Hhp32 (g := 138) rfl) (by decide) rfl (by decide) rfl rfl (by omega) (by omega) (kv _) fun hp68 Hhp68 fhp68 rhp68 ehp68 qhp68 nhp68 => ?_
        clear kv
        have Fhp68 := sf_fr_tr Fhp32 (sf_fr_wider (W := [(11, 25, 25), (138, 0, 1063)]) rfl fhp68)
        refine bs_iinc (1) rfl rfl rfl rfl (by omega) (by omega) fun z69 hz69 => ?_
        refine (show Ev _ 37 ([some (.ref 69), some (.int z69)], [], (0, 0), hp68) _ from ?_)
        refine Ev.step (j := 11) (s' := ([some (.ref 69), some (.int z69)], [], (0, 0), hp68)) rfl rfl ?_
        refine ih34 (z69, hp68, t33) ⟨Hhp68, Fhp68, (by first | omega | assumption)⟩ ?_
        show (931 - z69.toInt).toNat < (931 - k31.toInt).toNat
        omega
def kq_X11_undo_h : sf_Q := ([(1, 11, 0)], [], some (0, 0, 0), [], [(11, 0, 0), (11, 25, 25), (132, 120, 252)])
set_option maxRecDepth 100000 in
set_option maxHeartbeats 4000000 in
theorem ct_X11_undo_h : sf_ct kq_X11_undo_h Z_X11_undo := by
  intro t hp as H hl hj hpre
  match as, hl with
  | [v0], _ =>
    obtain ⟨a0, rfl, ra0⟩ := bs_aR (hj 0 _ rfl)
    obtain rfl := ra0.eq H (p := 69) rfl
    clear hpre hj
    have F0 : sf_fr [(11, 0, 0), (11, 25, 25), (132, 120, 252)] t hp t hp := sf_fr_rf
    refine bs_fin (K := kq_X11_undo_h) (L := L_X11_undo) (nL := 2) (Nat.le_of_ble_eq_true rfl) ?_
    obtain ⟨Q, hQ⟩ : ∃ Q : ab_O → Prop, Q = (fun o => ∃ t', sf_h t' o.2 ∧ sf_fr (kq_X11_undo_h).2.2.2.2 t hp t' o.2 ∧ sf_an t' o.2.1 (kq_X11_undo_h).2.2.1 o.1 ∧ sf_S (sf_v1 o.1 [.ref 69] o.2) (kq_X11_undo_h).2.2.2.1) := ⟨_, rfl⟩
    rw [← hQ]
    refine (show Ev (ab_T L_X11_undo) 0 ([some (.ref 69), none], [], (0, 0), hp) Q from ?_)
    refine Ev.step (j := 1) (s' := ([some (.ref 69), none], [.ref 69], (0, 0), hp)) rfl rfl ?_
    refine bs_lit (k := 0) rfl rfl fun z1 hz1 => ?_
    refine bs_putI (W := [(11, 0, 0)]) (g := 11) rfl rfl H (bs_R.uq H (g := 11) rfl) (by decide) rfl rfl rfl rfl (Or.inl rfl) (by omega) (by omega) fun hp2 Hhp2 fhp2 rhp2 ehp2 qhp2 nhp2 => ?_
    have Fhp2 := sf_fr_tr F0 (sf_fr_wider (W := [(11, 0, 0), (11, 25, 25), (132, 120, 252)]) rfl fhp2)
    refine Ev.step (j := 6) (s' := ([some (.ref 69), none], [.ref 69], (0, 0), hp2)) rfl rfl ?_
    refine bs_getI 11 rfl rfl rfl Hhp2 (bs_R.uq Hhp2 (g := 11) rfl) (by decide) rfl fun z3 hz3 lz3 gz3 => ?_
    refine bs_ifne rfl (fun c4 => ?_) (fun c4 => ?_)
    · skip
      refine Ev.step (j := 15) (s' := ([some (.ref 69), none], [.ref 69], (0, 0), hp2)) rfl rfl ?_
      refine Ev.step (j := 16) (s' := ([some (.ref 69), none], [.ref 69, .ref 69], (0, 0), hp2)) rfl rfl ?_
      refine bs_getI 11 rfl rfl rfl Hhp2 (bs_R.uq Hhp2 (g := 11) rfl) (by decide) rfl fun z5 hz5 lz5 gz5 => ?_
      have e6 : z5.toInt = z3.toInt := Option.some.inj (hz5.symm.trans hz3)
      refine bs_lit (k := 1) rfl rfl fun z7 hz7 => ?_
      first | (refine bs_sub rfl (by omega) (by omega) fun z8 hz8 => ?_) | (refine bs_any rfl fun z8 => ?_)
      have rz8 := n_range z8
      refine bs_putI (W := [(11, 25, 25)]) (g := 11) rfl rfl Hhp2 (bs_R.uq Hhp2 (g := 11) rfl) (by decide) rfl rfl rfl rfl (Or.inl rfl) (by omega) (by omega) fun hp9 Hhp9 fhp9 rhp9 ehp9 qhp9 nhp9 => ?_
      have Fhp9 := sf_fr_tr Fhp2 (sf_fr_wider (W := [(11, 0, 0), (11, 25, 25), (132, 120, 252)]) rfl fhp9)
      have h10 : sf_rd hp9 69 0 = some z1.toInt := (ehp9 _ _ (Or.inr (by omega))).trans rhp2
      refine bs_lit (k := 0) rfl rfl fun z11 hz11 => ?_
      refine Ev.step (j := 26) (s' := ([some (.ref 69), some (.int z11)], [], (0, 0), hp9)) rfl rfl ?_
      refine bs_loop (ι := Int32 × ab_H × (Nat → Nat)) (fun ⟨k12, hp13, t14⟩ => ([some (.ref 69), some (.int k12)], [], (0, 0), hp13)) (fun ⟨k12, hp13, t14⟩ => (sf_h t14 hp13) ∧ (sf_fr [(11, 0, 0), (11, 25, 25), (132, 120, 252)] t hp t14 hp13) ∧ (sf_rd hp13 69 25 = some z8.toInt) ∧ (0 ≤ k12.toInt ∧ k12.toInt ≤ 133)) (fun ⟨k12, hp13, t14⟩ => (133 - k12.toInt).toNat) ?_ (z11, hp9, t) ⟨Hhp9, Fhp9, rhp9, (by first | omega | assumption)⟩
      rintro ⟨k12, hp13, t14⟩ ⟨Hhp13, Fhp13, i16, i17⟩ ih15
      refine (show Ev _ 26 ([some (.ref 69), some (.int k12)], [], (0, 0), hp13) _ from ?_)
      refine Ev.step (j := 27) (s' := ([some (.ref 69), some (.int k12)], [.int k12], (0, 0), hp13)) rfl rfl ?_
      refine bs_lit (k := 133) rfl rfl fun z18 hz18 => ?_
      refine bs_ge rfl (fun c19 => ?_) (fun c19 => ?_)
      · skip
        refine Ev.step (j := 64) (s' := ([some (.ref 69), some (.int k12)], [.ref 69], (0, 0), hp13)) rfl rfl ?_
        refine bs_getI 11 rfl rfl rfl Hhp13 (bs_R.uq Hhp13 (g := 11) rfl) (by decide) rfl fun z20 hz20 lz20 gz20 => ?_
        have e21 : z20.toInt = z8.toInt := Option.some.inj (hz20.symm.trans i16)
        exact Ev.ret rfl rfl (by rw [hQ]; exact ⟨t14, Hhp13, Fhp13, bs_an0, sf_S_nil⟩)
      · skip
        refine Ev.step (j := 34) (s' := ([some (.ref 69), some (.int k12)], [.ref 69], (0, 0), hp13)) rfl rfl ?_
        refine bs_getU (g := 11) (g1 := 132) rfl rfl Hhp13 (bs_R.uq Hhp13 (g := 11) rfl) (by decide) rfl rfl ?_
        refine bs_lit (k := 120) rfl rfl fun z22 hz22 => ?_
        refine Ev.step (j := 40) (s' := ([some (.ref 69), some (.int k12)], [.int k12, .int z22, .ref 71], (0, 0), hp13)) rfl rfl ?_
        first | (refine bs_add rfl (by omega) (by omega) fun z23 hz23 => ?_) | (refine bs_any rfl fun z23 => ?_)
        have rz23 := n_range z23
        refine Ev.step (j := 42) (s' := ([some (.ref 69), some (.int k12)], [.ref 69, .int z23, .ref 71], (0, 0), hp13)) rfl rfl ?_
        refine bs_getU (g := 11) (g1 := 138) rfl rfl Hhp13 (bs_R.uq Hhp13 (g := 11) rfl) (by decide) rfl rfl ?_
        refine bs_lit (k := 133) rfl rfl fun z24 hz24 => ?_
        refine Ev.step (j := 49) (s' := ([some (.ref 69), some (.int k12)], [.ref 69, .int z24, .ref 77, .int z23, .ref 71], (0, 0), hp13)) rfl rfl ?_
        refine bs_getI 11 rfl rfl rfl Hhp13 (bs_R.uq Hhp13 (g := 11) rfl) (by decide) rfl fun z25 hz25 lz25 gz25 => ?_
        have e26 : z25.toInt = z8.toInt := Option.some.inj (hz25.symm.trans i16)
        refine bs_mul (133) rfl (Or.inl hz24) (by rw [hz24]; omega) (by rw [hz24]; omega) fun z27 hz27 => ?_
        rw [hz24] at hz27
        refine Ev.step (j := 54) (s' := ([some (.ref 69), some (.int k12)], [.int k12, .int z27, .ref 77, .int z23, .ref 71], (0, 0), hp13)) rfl rfl ?_
        first | (refine bs_add rfl (by omega) (by omega) fun z28 hz28 => ?_) | (refine bs_any rfl fun z28 => ?_)
        have rz28 := n_range z28
        refine bs_ldK (g := 138) rfl Hhp13 (bs_R.uq Hhp13 (g := 138) rfl) (by decide) rfl (by omega) (by show _ < ((1064 : Nat) : Int); omega) fun z29 hz29 kz29 => ?_
        have rz29 := n_range z29
        have kv : ∀ n, sf_v t14 n (sf_e (sf_A 132).2.2 z23.toInt.toNat) (.int z29) := fun n => by
          have h1 := sg_138 z28.toInt.toNat (by omega)
          have h2 := sg_132 (z23.toInt.toNat - 120) (by omega)
          rw [show 120 + (z23.toInt.toNat - 120) = z23.toInt.toNat by omega] at h2
          have h3 := kz29 n
          rw [h1] at h3
          rw [h2]
          have e9 : 120 + (z23.toInt.toNat - 120) % 133 = 120 + z28.toInt.toNat % 133 := by omega
          rw [e9]
          exact h3
        refine bs_stK (W := [(132, 120, 252)]) (g := 132) 120 252 rfl Hhp13 (bs_R.uq Hhp13 (g := 132) rfl) (by decide) rfl (by decide) rfl rfl (by omega) (by omega) (kv _) fun hp30 Hhp30 fhp30 rhp30 ehp30 qhp30 nhp30 => ?_
        clear kv
        have Fhp30 := sf_fr_tr Fhp13 (sf_fr_wider (W := [(11, 0, 0), (11, 25, 25), (132, 120, 252)]) rfl fhp30)
        have h31 : sf_rd hp30 69 25 = some z8.toInt := (ehp30 _ _ (Or.inl (by decide))).trans i16
        refine bs_iinc (1) rfl rfl rfl rfl (by omega) (by omega) fun z32 hz32 => ?_
        refine (show Ev _ 60 ([some (.ref 69), some (.int z32)], [], (0, 0), hp30) _ from ?_)
        refine Ev.step (j := 26) (s' := ([some (.ref 69), some (.int z32)], [], (0, 0), hp30)) rfl rfl ?_
        refine ih15 (z32, hp30, t14) ⟨Hhp30, Fhp30, h31, (by first | omega | assumption)⟩ ?_
        show (133 - z32.toInt).toNat < (133 - k12.toInt).toNat
        omega
    · skip
      have c33 : z3.toInt = 0 := by omega
      refine bs_lit (k := -1) rfl rfl fun z34 hz34 => ?_
      exact Ev.ret rfl rfl (by rw [hQ]; exact ⟨t, Hhp2, Fhp2, bs_an0, sf_S_nil⟩)
def kq_X11_hoard_h : sf_Q := ([(1, 11, 0), (0, 0, 0), (0, 0, 0), (0, 0, 0)], [], some (0, 0, 0), [], [(11, 0, 0), (11, 25, 25), (132, 124, 147), (138, 0, 1063)])
set_option maxRecDepth 100000 in
set_option maxHeartbeats 4000000 in
theorem ct_X11_hoard_h : sf_ct kq_X11_hoard_h Z_X11_hoard := by
  intro t hp as H hl hj hpre
  match as, hl with
  | [v0, v1, v2, v3], _ =>
    obtain ⟨a0, rfl, ra0⟩ := bs_aR (hj 0 _ rfl)
    obtain rfl := ra0.eq H (p := 69) rfl
    obtain ⟨x1, rfl⟩ := bs_aI (hj 1 _ rfl)
    have rg1 := n_range x1
    obtain ⟨x2, rfl⟩ := bs_aI (hj 2 _ rfl)
    have rg2 := n_range x2
    obtain ⟨x3, rfl⟩ := bs_aI (hj 3 _ rfl)
    have rg3 := n_range x3
    clear hpre hj
    have F0 : sf_fr [(11, 0, 0), (11, 25, 25), (132, 124, 147), (138, 0, 1063)] t hp t hp := sf_fr_rf
    refine bs_fin (K := kq_X11_hoard_h) (L := (L_X11_hoard Z_X11_isPlace Z_X11_isIn Z_X11_cell Z_X11_whyHoard Z_X11_keep Z_X11_hoards)) (nL := 4) (Nat.le_of_ble_eq_true rfl) ?_
    obtain ⟨Q, hQ⟩ : ∃ Q : ab_O → Prop, Q = (fun o => ∃ t', sf_h t' o.2 ∧ sf_fr (kq_X11_hoard_h).2.2.2.2 t hp t' o.2 ∧ sf_an t' o.2.1 (kq_X11_hoard_h).2.2.1 o.1 ∧ sf_S (sf_v1 o.1 [.ref 69, .int x1, .int x2, .int x3] o.2) (kq_X11_hoard_h).2.2.2.1) := ⟨_, rfl⟩
    rw [← hQ]
    refine (show Ev (ab_T (L_X11_hoard Z_X11_isPlace Z_X11_isIn Z_X11_cell Z_X11_whyHoard Z_X11_keep Z_X11_hoards)) 0 ([some (.ref 69), some (.int x1), some (.int x2), some (.int x3)], [], (0, 0), hp) Q from ?_)
    refine Ev.step (j := 1) (s' := ([some (.ref 69), some (.int x1), some (.int x2), some (.int x3)], [.ref 69], (0, 0), hp)) rfl rfl ?_
    refine bs_lit (k := 0) rfl rfl fun z1 hz1 => ?_
    refine bs_putI (W := [(11, 0, 0)]) (g := 11) rfl rfl H (bs_R.uq H (g := 11) rfl) (by decide) rfl rfl rfl rfl (Or.inl rfl) (by omega) (by omega) fun hp2 Hhp2 fhp2 rhp2 ehp2 qhp2 nhp2 => ?_
    have Fhp2 := sf_fr_tr F0 (sf_fr_wider (W := [(11, 0, 0), (11, 25, 25), (132, 124, 147), (138, 0, 1063)]) rfl fhp2)
    refine Ev.step (j := 6) (s' := ([some (.ref 69), some (.int x1), some (.int x2), some (.int x3)], [.ref 69], (0, 0), hp2)) rfl rfl ?_
    refine Ev.step (j := 7) (s' := ([some (.ref 69), some (.int x1), some (.int x2), some (.int x3)], [.int x1, .ref 69], (0, 0), hp2)) rfl rfl ?_
    refine Ev.step (j := 8) (s' := ([some (.ref 69), some (.int x1), some (.int x2), some (.int x3)], [.int x2, .int x1, .ref 69], (0, 0), hp2)) rfl rfl ?_
    refine Ev.inl (L := (L_X11_isPlace Z_X11_isGood Z_X11_isShore)) (nL := 3) rfl (bs_rcv (g := 11) Hhp2 (bs_R.uq Hhp2 (g := 11) rfl) (by decide) rfl) rfl (Nat.le_of_ble_eq_true rfl) ?_
    generalize hQ3 : (fun (o : ab_O) => Ev _ _ _ _) = Q3
    refine (show Ev (ab_T (L_X11_isPlace Z_X11_isGood Z_X11_isShore)) 0 ([some (.ref 69), some (.int x1), some (.int x2)], [], (0, 0), hp2) Q3 from ?_)
    refine Ev.step (j := 1) (s' := ([some (.ref 69), some (.int x1), some (.int x2)], [.ref 69], (0, 0), hp2)) rfl rfl ?_
    refine Ev.step (j := 2) (s' := ([some (.ref 69), some (.int x1), some (.int x2)], [.int x1, .ref 69], (0, 0), hp2)) rfl rfl ?_
    refine Ev.inl (L := (L_X11_isGood Z_X11_isIn)) (nL := 2) rfl (bs_rcv (g := 11) Hhp2 (bs_R.uq Hhp2 (g := 11) rfl) (by decide) rfl) rfl (Nat.le_of_ble_eq_true rfl) ?_
    generalize hQ4 : (fun (o : ab_O) => Ev _ _ _ _) = Q4
    refine (show Ev (ab_T (L_X11_isGood Z_X11_isIn)) 0 ([some (.ref 69), some (.int x1)], [], (0, 0), hp2) Q4 from ?_)
    refine Ev.step (j := 1) (s' := ([some (.ref 69), some (.int x1)], [.int x1], (0, 0), hp2)) rfl rfl ?_
    refine bs_lit (k := 0) rfl rfl fun z5 hz5 => ?_
    refine Ev.step (j := 3) (s' := ([some (.ref 69), some (.int x1)], [.ref 69, .int z5, .int x1], (0, 0), hp2)) rfl rfl ?_
    refine bs_getU (g := 11) (g1 := 132) rfl rfl Hhp2 (bs_R.uq Hhp2 (g := 11) rfl) (by decide) rfl rfl ?_
    refine bs_lit (k := 0) rfl rfl fun z6 hz6 => ?_
    refine bs_ld (g := 132) 0 0 (0, 6) rfl Hhp2 (bs_R.uq Hhp2 (g := 132) rfl) (by decide) rfl (by decide) (by decide) rfl (by decide) (by omega) (by omega) fun z7 hz7 lz7 gz7 => ?_
    dsimp only at lz7 gz7
    replace hz7 := bs_at hz7 (show z6.toInt.toNat = 0 by omega)
    refine bs_lit (k := 1) rfl rfl fun z8 hz8 => ?_
    first | (refine bs_sub rfl (by omega) (by omega) fun z9 hz9 => ?_) | (refine bs_any rfl fun z9 => ?_)
    have rz9 := n_range z9
    refine Ev.inlS (L := L_X11_isIn) (nL := 3) rfl rfl (Nat.le_of_ble_eq_true rfl) ?_
    generalize hQ10 : (fun (o : ab_O) => Ev _ _ _ _) = Q10
    refine (show Ev (ab_T L_X11_isIn) 0 ([some (.int x1), some (.int z5), some (.int z9)], [], (0, 0), hp2) Q10 from ?_)
    refine Ev.step (j := 1) (s' := ([some (.int x1), some (.int z5), some (.int z9)], [.int x1], (0, 0), hp2)) rfl rfl ?_
    refine Ev.step (j := 2) (s' := ([some (.int x1), some (.int z5), some (.int z9)], [.int z5, .int x1], (0, 0), hp2)) rfl rfl ?_
    refine bs_lt rfl (fun c11 => ?_) (fun c11 => ?_)
    · skip
      refine bs_lit (k := 0) rfl rfl fun z12 hz12 => ?_
      refine bs_zret rfl rfl (by omega) (by omega) ?_
      rw [← hQ10]
      refine (show Ev _ 13 ([some (.ref 69), some (.int x1)], [.int z12], (0, 0), hp2) _ from ?_)
      refine bs_zret rfl rfl (by omega) (by omega) ?_
      rw [← hQ4]
      refine (show Ev _ 5 ([some (.ref 69), some (.int x1), some (.int x2)], [.int z12], (0, 0), hp2) _ from ?_)
      refine bs_ifeq rfl (fun c13 => ?_) (fun c13 => ?_)
      · skip
        refine bs_lit (k := 0) rfl rfl fun z14 hz14 => ?_
        refine bs_zret rfl rfl (by omega) (by omega) ?_
        rw [← hQ3]
        refine (show Ev _ 11 ([some (.ref 69), some (.int x1), some (.int x2), some (.int x3)], [.int z14], (0, 0), hp2) _ from ?_)
        refine bs_ifeq rfl (fun c15 => ?_) (fun c15 => ?_)
        · skip
          refine bs_lit (k := -1) rfl rfl fun z16 hz16 => ?_
          exact Ev.ret rfl rfl (by rw [hQ]; exact ⟨t, Hhp2, Fhp2, bs_an0, sf_S_nil⟩)
        · exfalso; omega
      · exfalso; omega
    · skip
      refine Ev.step (j := 6) (s' := ([some (.int x1), some (.int z5), some (.int z9)], [.int x1], (0, 0), hp2)) rfl rfl ?_
      refine Ev.step (j := 7) (s' := ([some (.int x1), some (.int z5), some (.int z9)], [.int z9, .int x1], (0, 0), hp2)) rfl rfl ?_
      refine bs_gt rfl (fun c17 => ?_) (fun c17 => ?_)
      · skip
        refine bs_lit (k := 0) rfl rfl fun z18 hz18 => ?_
        refine bs_zret rfl rfl (by omega) (by omega) ?_
        rw [← hQ10]
        refine (show Ev _ 13 ([some (.ref 69), some (.int x1)], [.int z18], (0, 0), hp2) _ from ?_)
        refine bs_zret rfl rfl (by omega) (by omega) ?_
        rw [← hQ4]
        refine (show Ev _ 5 ([some (.ref 69), some (.int x1), some (.int x2)], [.int z18], (0, 0), hp2) _ from ?_)
        refine bs_ifeq rfl (fun c19 => ?_) (fun c19 => ?_)
        · skip
          refine bs_lit (k := 0) rfl rfl fun z20 hz20 => ?_
          refine bs_zret rfl rfl (by omega) (by omega) ?_
          rw [← hQ3]
          refine (show Ev _ 11 ([some (.ref 69), some (.int x1), some (.int x2), some (.int x3)], [.int z20], (0, 0), hp2) _ from ?_)
          refine bs_ifeq rfl (fun c21 => ?_) (fun c21 => ?_)
          · skip
            refine bs_lit (k := -1) rfl rfl fun z22 hz22 => ?_
            exact Ev.ret rfl rfl (by rw [hQ]; exact ⟨t, Hhp2, Fhp2, bs_an0, sf_S_nil⟩)
          · exfalso; omega
        · exfalso; omega
      · skip
        refine bs_lit (k := 1) rfl rfl fun z23 hz23 => ?_
        refine Ev.step (j := 15) (s' := ([some (.int x1), some (.int z5), some (.int z9)], [.int z23], (0, 0), hp2)) rfl rfl ?_
        refine bs_zret rfl rfl (by omega) (by omega) ?_
        rw [← hQ10]
        refine (show Ev _ 13 ([some (.ref 69), some (.int x1)], [.int z23], (0, 0), hp2) _ from ?_)
        refine bs_zret rfl rfl (by omega) (by omega) ?_
        rw [← hQ4]
        refine (show Ev _ 5 ([some (.ref 69), some (.int x1), some (.int x2)], [.int z23], (0, 0), hp2) _ from ?_)
        refine bs_ifeq rfl (fun c24 => ?_) (fun c24 => ?_)
        · exfalso; omega
        · skip
          refine Ev.step (j := 9) (s' := ([some (.ref 69), some (.int x1), some (.int x2)], [.ref 69], (0, 0), hp2)) rfl rfl ?_
          refine Ev.step (j := 10) (s' := ([some (.ref 69), some (.int x1), some (.int x2)], [.int x2, .ref 69], (0, 0), hp2)) rfl rfl ?_
          refine Ev.inl (L := (L_X11_isShore Z_X11_isIn)) (nL := 2) rfl (bs_rcv (g := 11) Hhp2 (bs_R.uq Hhp2 (g := 11) rfl) (by decide) rfl) rfl (Nat.le_of_ble_eq_true rfl) ?_
          generalize hQ25 : (fun (o : ab_O) => Ev _ _ _ _) = Q25
          refine (show Ev (ab_T (L_X11_isShore Z_X11_isIn)) 0 ([some (.ref 69), some (.int x2)], [], (0, 0), hp2) Q25 from ?_)
          refine Ev.step (j := 1) (s' := ([some (.ref 69), some (.int x2)], [.int x2], (0, 0), hp2)) rfl rfl ?_
          refine bs_lit (k := 0) rfl rfl fun z26 hz26 => ?_
          refine bs_lit (k := 1) rfl rfl fun z27 hz27 => ?_
          refine Ev.inlS (L := L_X11_isIn) (nL := 3) rfl rfl (Nat.le_of_ble_eq_true rfl) ?_
          generalize hQ28 : (fun (o : ab_O) => Ev _ _ _ _) = Q28
          refine (show Ev (ab_T L_X11_isIn) 0 ([some (.int x2), some (.int z26), some (.int z27)], [], (0, 0), hp2) Q28 from ?_)
          refine Ev.step (j := 1) (s' := ([some (.int x2), some (.int z26), some (.int z27)], [.int x2], (0, 0), hp2)) rfl rfl ?_
          refine Ev.step (j := 2) (s' := ([some (.int x2), some (.int z26), some (.int z27)], [.int z26, .int x2], (0, 0), hp2)) rfl rfl ?_
          refine bs_lt rfl (fun c29 => ?_) (fun c29 => ?_)
          · skip
            refine bs_lit (k := 0) rfl rfl fun z30 hz30 => ?_
            refine bs_zret rfl rfl (by omega) (by omega) ?_
            rw [← hQ28]
            refine (show Ev _ 6 ([some (.ref 69), some (.int x2)], [.int z30], (0, 0), hp2) _ from ?_)
            refine bs_zret rfl rfl (by omega) (by omega) ?_
            rw [← hQ25]
            refine (show Ev _ 13 ([some (.ref 69), some (.int x1), some (.int x2)], [.int z30], (0, 0), hp2) _ from ?_)
            refine bs_ifeq rfl (fun c31 => ?_) (fun c31 => ?_)
            · skip
              refine bs_lit (k := 0) rfl rfl fun z32 hz32 => ?_
              refine bs_zret rfl rfl (by omega) (by omega) ?_
              rw [← hQ3]
              refine (show Ev _ 11 ([some (.ref 69), some (.int x1), some (.int x2), some (.int x3)], [.int z32], (0, 0), hp2) _ from ?_)
              refine bs_ifeq rfl (fun c33 => ?_) (fun c33 => ?_)
              · skip
                refine bs_lit (k := -1) rfl rfl fun z34 hz34 => ?_
                exact Ev.ret rfl rfl (by rw [hQ]; exact ⟨t, Hhp2, Fhp2, bs_an0, sf_S_nil⟩)
              · exfalso; omega
            · exfalso; omega
          · skip
            refine Ev.step (j := 6) (s' := ([some (.int x2), some (.int z26), some (.int z27)], [.int x2], (0, 0), hp2)) rfl rfl ?_
            refine Ev.step (j := 7) (s' := ([some (.int x2), some (.int z26), some (.int z27)], [.int z27, .int x2], (0, 0), hp2)) rfl rfl ?_
            refine bs_gt rfl (fun c35 => ?_) (fun c35 => ?_)
            · skip
              refine bs_lit (k := 0) rfl rfl fun z36 hz36 => ?_
              refine bs_zret rfl rfl (by omega) (by omega) ?_
              rw [← hQ28]
              refine (show Ev _ 6 ([some (.ref 69), some (.int x2)], [.int z36], (0, 0), hp2) _ from ?_)
              refine bs_zret rfl rfl (by omega) (by omega) ?_
              rw [← hQ25]
              refine (show Ev _ 13 ([some (.ref 69), some (.int x1), some (.int x2)], [.int z36], (0, 0), hp2) _ from ?_)
              refine bs_ifeq rfl (fun c37 => ?_) (fun c37 => ?_)
              · skip
                refine bs_lit (k := 0) rfl rfl fun z38 hz38 => ?_
                refine bs_zret rfl rfl (by omega) (by omega) ?_
                rw [← hQ3]
                refine (show Ev _ 11 ([some (.ref 69), some (.int x1), some (.int x2), some (.int x3)], [.int z38], (0, 0), hp2) _ from ?_)
                refine bs_ifeq rfl (fun c39 => ?_) (fun c39 => ?_)
                · skip
                  refine bs_lit (k := -1) rfl rfl fun z40 hz40 => ?_
                  exact Ev.ret rfl rfl (by rw [hQ]; exact ⟨t, Hhp2, Fhp2, bs_an0, sf_S_nil⟩)
                · exfalso; omega
              · exfalso; omega
            · skip
              refine bs_lit (k := 1) rfl rfl fun z41 hz41 => ?_
              refine Ev.step (j := 15) (s' := ([some (.int x2), some (.int z26), some (.int z27)], [.int z41], (0, 0), hp2)) rfl rfl ?_
              refine bs_zret rfl rfl (by omega) (by omega) ?_
              rw [← hQ28]
              refine (show Ev _ 6 ([some (.ref 69), some (.int x2)], [.int z41], (0, 0), hp2) _ from ?_)
              refine bs_zret rfl rfl (by omega) (by omega) ?_
              rw [← hQ25]
              refine (show Ev _ 13 ([some (.ref 69), some (.int x1), some (.int x2)], [.int z41], (0, 0), hp2) _ from ?_)
              refine bs_ifeq rfl (fun c42 => ?_) (fun c42 => ?_)
              · exfalso; omega
              · skip
                refine bs_lit (k := 1) rfl rfl fun z43 hz43 => ?_
                refine Ev.step (j := 21) (s' := ([some (.ref 69), some (.int x1), some (.int x2)], [.int z43], (0, 0), hp2)) rfl rfl ?_
                refine bs_zret rfl rfl (by omega) (by omega) ?_
                rw [← hQ3]
                refine (show Ev _ 11 ([some (.ref 69), some (.int x1), some (.int x2), some (.int x3)], [.int z43], (0, 0), hp2) _ from ?_)
                refine bs_ifeq rfl (fun c44 => ?_) (fun c44 => ?_)
                · exfalso; omega
                · skip
                  refine Ev.step (j := 15) (s' := ([some (.ref 69), some (.int x1), some (.int x2), some (.int x3)], [.int x3], (0, 0), hp2)) rfl rfl ?_
                  refine bs_lit (k := 1) rfl rfl fun z45 hz45 => ?_
                  refine bs_lit (k := 250) rfl rfl fun z46 hz46 => ?_
                  refine Ev.inlS (L := L_X11_isIn) (nL := 3) rfl rfl (Nat.le_of_ble_eq_true rfl) ?_
                  generalize hQ47 : (fun (o : ab_O) => Ev _ _ _ _) = Q47
                  refine (show Ev (ab_T L_X11_isIn) 0 ([some (.int x3), some (.int z45), some (.int z46)], [], (0, 0), hp2) Q47 from ?_)
                  refine Ev.step (j := 1) (s' := ([some (.int x3), some (.int z45), some (.int z46)], [.int x3], (0, 0), hp2)) rfl rfl ?_
                  refine Ev.step (j := 2) (s' := ([some (.int x3), some (.int z45), some (.int z46)], [.int z45, .int x3], (0, 0), hp2)) rfl rfl ?_
                  refine bs_lt rfl (fun c48 => ?_) (fun c48 => ?_)
                  · skip
                    refine bs_lit (k := 0) rfl rfl fun z49 hz49 => ?_
                    refine bs_zret rfl rfl (by omega) (by omega) ?_
                    rw [← hQ47]
                    refine (show Ev _ 22 ([some (.ref 69), some (.int x1), some (.int x2), some (.int x3)], [.int z49], (0, 0), hp2) _ from ?_)
                    refine bs_ifne rfl (fun c50 => ?_) (fun c50 => ?_)
                    · exfalso; omega
                    · skip
                      refine bs_lit (k := -1) rfl rfl fun z51 hz51 => ?_
                      exact Ev.ret rfl rfl (by rw [hQ]; exact ⟨t, Hhp2, Fhp2, bs_an0, sf_S_nil⟩)
                  · skip
                    refine Ev.step (j := 6) (s' := ([some (.int x3), some (.int z45), some (.int z46)], [.int x3], (0, 0), hp2)) rfl rfl ?_
                    refine Ev.step (j := 7) (s' := ([some (.int x3), some (.int z45), some (.int z46)], [.int z46, .int x3], (0, 0), hp2)) rfl rfl ?_
                    refine bs_gt rfl (fun c52 => ?_) (fun c52 => ?_)
                    · skip
                      refine bs_lit (k := 0) rfl rfl fun z53 hz53 => ?_
                      refine bs_zret rfl rfl (by omega) (by omega) ?_
                      rw [← hQ47]
                      refine (show Ev _ 22 ([some (.ref 69), some (.int x1), some (.int x2), some (.int x3)], [.int z53], (0, 0), hp2) _ from ?_)
                      refine bs_ifne rfl (fun c54 => ?_) (fun c54 => ?_)
                      · exfalso; omega
                      · skip
                        refine bs_lit (k := -1) rfl rfl fun z55 hz55 => ?_
                        exact Ev.ret rfl rfl (by rw [hQ]; exact ⟨t, Hhp2, Fhp2, bs_an0, sf_S_nil⟩)
                    · skip
                      refine bs_lit (k := 1) rfl rfl fun z56 hz56 => ?_
                      refine Ev.step (j := 15) (s' := ([some (.int x3), some (.int z45), some (.int z46)], [.int z56], (0, 0), hp2)) rfl rfl ?_
                      refine bs_zret rfl rfl (by omega) (by omega) ?_
                      rw [← hQ47]
                      refine (show Ev _ 22 ([some (.ref 69), some (.int x1), some (.int x2), some (.int x3)], [.int z56], (0, 0), hp2) _ from ?_)
                      refine bs_ifne rfl (fun c57 => ?_) (fun c57 => ?_)
                      · skip
                        refine Ev.step (j := 28) (s' := ([some (.ref 69), some (.int x1), some (.int x2), some (.int x3)], [.ref 69], (0, 0), hp2)) rfl rfl ?_
                        refine Ev.step (j := 29) (s' := ([some (.ref 69), some (.int x1), some (.int x2), some (.int x3)], [.int x1, .ref 69], (0, 0), hp2)) rfl rfl ?_
                        refine Ev.step (j := 30) (s' := ([some (.ref 69), some (.int x1), some (.int x2), some (.int x3)], [.int x2, .int x1, .ref 69], (0, 0), hp2)) rfl rfl ?_
                        refine Ev.inlS (L := L_X11_cell) (nL := 2) rfl rfl (Nat.le_of_ble_eq_true rfl) ?_
                        generalize hQ58 : (fun (o : ab_O) => Ev _ _ _ _) = Q58
                        refine (show Ev (ab_T L_X11_cell) 0 ([some (.int x1), some (.int x2)], [], (0, 0), hp2) Q58 from ?_)
                        refine bs_lit (k := 2) rfl rfl fun z59 hz59 => ?_
                        refine Ev.step (j := 2) (s' := ([some (.int x1), some (.int x2)], [.int x1, .int z59], (0, 0), hp2)) rfl rfl ?_
                        refine bs_mul (2) rfl (Or.inl hz59) (by rw [hz59]; omega) (by rw [hz59]; omega) fun z60 hz60 => ?_
                        rw [hz59] at hz60
                        refine Ev.step (j := 4) (s' := ([some (.int x1), some (.int x2)], [.int x2, .int z60], (0, 0), hp2)) rfl rfl ?_
                        first | (refine bs_add rfl (by omega) (by omega) fun z61 hz61 => ?_) | (refine bs_any rfl fun z61 => ?_)
                        have rz61 := n_range z61
                        refine Ev.ret rfl rfl ?_
                        rw [← hQ58]
                        refine (show Ev _ 33 ([some (.ref 69), some (.int x1), some (.int x2), some (.int x3)], [.int z61, .ref 69], (0, 0), hp2) _ from ?_)
                        refine Ev.step (j := 34) (s' := ([some (.ref 69), some (.int x1), some (.int x2), some (.int x3)], [.int x3, .int z61, .ref 69], (0, 0), hp2)) rfl rfl ?_
                        refine Ev.inl (L := L_X11_whyHoard) (nL := 3) rfl (bs_rcv (g := 11) Hhp2 (bs_R.uq Hhp2 (g := 11) rfl) (by decide) rfl) rfl (Nat.le_of_ble_eq_true rfl) ?_
                        generalize hQ62 : (fun (o : ab_O) => Ev _ _ _ _) = Q62
                        refine (show Ev (ab_T L_X11_whyHoard) 0 ([some (.ref 69), some (.int z61), some (.int x3)], [], (0, 0), hp2) Q62 from ?_)
                        refine Ev.step (j := 1) (s' := ([some (.ref 69), some (.int z61), some (.int x3)], [.ref 69], (0, 0), hp2)) rfl rfl ?_
                        refine bs_getU (g := 11) (g1 := 132) rfl rfl Hhp2 (bs_R.uq Hhp2 (g := 11) rfl) (by decide) rfl rfl ?_
                        refine bs_lit (k := 124) rfl rfl fun z63 hz63 => ?_
                        refine Ev.step (j := 7) (s' := ([some (.ref 69), some (.int z61), some (.int x3)], [.int z61, .int z63, .ref 71], (0, 0), hp2)) rfl rfl ?_
                        first | (refine bs_add rfl (by omega) (by omega) fun z64 hz64 => ?_) | (refine bs_any rfl fun z64 => ?_)
                        have rz64 := n_range z64
                        refine bs_ld (g := 132) 124 135 (0, 999) rfl Hhp2 (bs_R.uq Hhp2 (g := 132) rfl) (by decide) rfl (by decide) (by decide) rfl (by decide) (by omega) (by omega) fun z65 hz65 lz65 gz65 => ?_
                        dsimp only at lz65 gz65
                        refine Ev.step (j := 10) (s' := ([some (.ref 69), some (.int z61), some (.int x3)], [.int x3, .int z65], (0, 0), hp2)) rfl rfl ?_
                        refine bs_ge rfl (fun c66 => ?_) (fun c66 => ?_)
                        · skip
                          refine bs_lit (k := 0) rfl rfl fun z67 hz67 => ?_
                          refine Ev.ret rfl rfl ?_
                          rw [← hQ62]
                          refine (show Ev _ 37 ([some (.ref 69), some (.int x1), some (.int x2), some (.int x3)], [.int z67], (0, 0), hp2) _ from ?_)
                          refine bs_ifle rfl (fun c68 => ?_) (fun c68 => ?_)
                          · skip
                            refine Ev.step (j := 43) (s' := ([some (.ref 69), some (.int x1), some (.int x2), some (.int x3)], [.ref 69], (0, 0), hp2)) rfl rfl ?_
                            refine bs_call (K := kq_X11_keep_h) [.ref 69] [] rfl ct_X11_keep_h Hhp2 rfl rfl rfl (bs_rcv (g := 11) Hhp2 (bs_R.uq Hhp2 (g := 11) rfl) (by decide) rfl) rfl ?_ (sf_S_nil) fun r69 hp70 thp70 Hhp70 fhp70 ahp70 php70 => ?_
                            · intro q k h
                              match q, h with
                              | 0, h => cases h; exact bs_jR (bs_R.uq Hhp2 (g := 11) rfl)
                              | q + 1, h => cases h
                            obtain rfl := ahp70.1 rfl
                            have Fhp70 := sf_fr_tr Fhp2 (sf_fr_wider (W := [(11, 0, 0), (11, 25, 25), (132, 124, 147), (138, 0, 1063)]) rfl fhp70)
                            have h71 : sf_rd hp70 69 0 = some z1.toInt := (fhp70.2.2.1 _ (bs_R.uq Hhp2 (g := 11) (p := 69) rfl).1 _ (by rw [(bs_R.uq Hhp2 (g := 11) (p := 69) rfl).2]; rfl)).trans rhp2
                            have h72 : sf_rd hp70 71 0 = some z7.toInt := (fhp70.2.2.1 _ (bs_R.uq Hhp2 (g := 132) (p := 71) rfl).1 _ (by rw [(bs_R.uq Hhp2 (g := 132) (p := 71) rfl).2]; rfl)).trans hz7
                            have h73 : sf_rd hp70 71 z64.toInt.toNat = some z65.toInt := (fhp70.2.2.1 _ (bs_R.uq Hhp2 (g := 132) (p := 71) rfl).1 _ (by rw [(bs_R.uq Hhp2 (g := 132) (p := 71) rfl).2]; rfl)).trans hz65
                            refine (show Ev _ 46 ([some (.ref 69), some (.int x1), some (.int x2), some (.int x3)], [], (0, 0), hp70) _ from ?_)
                            refine Ev.step (j := 47) (s' := ([some (.ref 69), some (.int x1), some (.int x2), some (.int x3)], [.ref 69], (0, 0), hp70)) rfl rfl ?_
                            refine Ev.step (j := 48) (s' := ([some (.ref 69), some (.int x1), some (.int x2), some (.int x3)], [.int x1, .ref 69], (0, 0), hp70)) rfl rfl ?_
                            refine Ev.step (j := 49) (s' := ([some (.ref 69), some (.int x1), some (.int x2), some (.int x3)], [.int x2, .int x1, .ref 69], (0, 0), hp70)) rfl rfl ?_
                            refine Ev.inlS (L := L_X11_cell) (nL := 2) rfl rfl (Nat.le_of_ble_eq_true rfl) ?_
                            generalize hQ74 : (fun (o : ab_O) => Ev _ _ _ _) = Q74
                            refine (show Ev (ab_T L_X11_cell) 0 ([some (.int x1), some (.int x2)], [], (0, 0), hp70) Q74 from ?_)
                            refine bs_lit (k := 2) rfl rfl fun z75 hz75 => ?_
                            refine Ev.step (j := 2) (s' := ([some (.int x1), some (.int x2)], [.int x1, .int z75], (0, 0), hp70)) rfl rfl ?_
                            refine bs_mul (2) rfl (Or.inl hz75) (by rw [hz75]; omega) (by rw [hz75]; omega) fun z76 hz76 => ?_
                            rw [hz75] at hz76
                            refine Ev.step (j := 4) (s' := ([some (.int x1), some (.int x2)], [.int x2, .int z76], (0, 0), hp70)) rfl rfl ?_
                            first | (refine bs_add rfl (by omega) (by omega) fun z77 hz77 => ?_) | (refine bs_any rfl fun z77 => ?_)
                            have rz77 := n_range z77
                            refine Ev.ret rfl rfl ?_
                            rw [← hQ74]
                            refine (show Ev _ 52 ([some (.ref 69), some (.int x1), some (.int x2), some (.int x3)], [.int z77, .ref 69], (0, 0), hp70) _ from ?_)
                            refine Ev.step (j := 53) (s' := ([some (.ref 69), some (.int x1), some (.int x2), some (.int x3)], [.int x3, .int z77, .ref 69], (0, 0), hp70)) rfl rfl ?_
                            refine Ev.inl (L := L_X11_hoards) (nL := 3) rfl (bs_rcv (g := 11) Hhp70 (bs_R.uq Hhp70 (g := 11) rfl) (by decide) rfl) rfl (Nat.le_of_ble_eq_true rfl) ?_
                            generalize hQ78 : (fun (o : ab_O) => Ev _ _ _ _) = Q78
                            refine (show Ev (ab_T L_X11_hoards) 0 ([some (.ref 69), some (.int z77), some (.int x3)], [], (0, 0), hp70) Q78 from ?_)
                            refine Ev.step (j := 1) (s' := ([some (.ref 69), some (.int z77), some (.int x3)], [.ref 69], (0, 0), hp70)) rfl rfl ?_
                            refine bs_getU (g := 11) (g1 := 132) rfl rfl Hhp70 (bs_R.uq Hhp70 (g := 11) rfl) (by decide) rfl rfl ?_
                            refine bs_lit (k := 124) rfl rfl fun z79 hz79 => ?_
                            refine Ev.step (j := 7) (s' := ([some (.ref 69), some (.int z77), some (.int x3)], [.int z77, .int z79, .ref 71], (0, 0), hp70)) rfl rfl ?_
                            first | (refine bs_add rfl (by omega) (by omega) fun z80 hz80 => ?_) | (refine bs_any rfl fun z80 => ?_)
                            have rz80 := n_range z80
                            refine Ev.step (j := 9) (s' := ([some (.ref 69), some (.int z77), some (.int x3)], [.int z80, .ref 71, .int z80, .ref 71], (0, 0), hp70)) rfl rfl ?_
                            refine bs_ld (g := 132) 124 135 (0, 999) rfl Hhp70 (bs_R.uq Hhp70 (g := 132) rfl) (by decide) rfl (by decide) (by decide) rfl (by decide) (by omega) (by omega) fun z81 hz81 lz81 gz81 => ?_
                            dsimp only at lz81 gz81
                            have e82 : z81.toInt = z65.toInt := Option.some.inj ((bs_at hz81 (by omega)).symm.trans ((fhp70.2.2.1 _ (bs_R.uq Hhp2 (g := 132) (p := 71) rfl).1 _ (by rw [(bs_R.uq Hhp2 (g := 132) (p := 71) rfl).2]; rfl)).trans hz65))
                            refine Ev.step (j := 11) (s' := ([some (.ref 69), some (.int z77), some (.int x3)], [.int x3, .int z81, .int z80, .ref 71], (0, 0), hp70)) rfl rfl ?_
                            first | (refine bs_sub rfl (by omega) (by omega) fun z83 hz83 => ?_) | (refine bs_any rfl fun z83 => ?_)
                            have rz83 := n_range z83
                            refine bs_st (W := [(132, 124, 135)]) (g := 132) 124 135 (0, 999) rfl Hhp70 (bs_R.uq Hhp70 (g := 132) rfl) (by decide) rfl rfl (by decide) rfl rfl (by omega) (by omega) (by dsimp only; omega) (by dsimp only; omega) fun hp84 Hhp84 fhp84 rhp84 ehp84 qhp84 nhp84 => ?_
                            have Fhp84 := sf_fr_tr Fhp70 (sf_fr_wider (W := [(11, 0, 0), (11, 25, 25), (132, 124, 147), (138, 0, 1063)]) rfl fhp84)
                            have h85 : sf_rd hp84 69 0 = some z1.toInt := (ehp84 _ _ (Or.inl (by decide))).trans h71
                            have h86 : sf_rd hp84 71 0 = some z7.toInt := (ehp84 _ _ (Or.inr (by omega))).trans h72
                            refine Ev.step (j := 14) (s' := ([some (.ref 69), some (.int z77), some (.int x3)], [.ref 69], (0, 0), hp84)) rfl rfl ?_
                            refine bs_getU (g := 11) (g1 := 132) rfl rfl Hhp84 (bs_R.uq Hhp84 (g := 11) rfl) (by decide) rfl rfl ?_
                            refine bs_lit (k := 136) rfl rfl fun z87 hz87 => ?_
                            refine Ev.step (j := 21) (s' := ([some (.ref 69), some (.int z77), some (.int x3)], [.int z77, .int z87, .ref 71], (0, 0), hp84)) rfl rfl ?_
                            first | (refine bs_add rfl (by omega) (by omega) fun z88 hz88 => ?_) | (refine bs_any rfl fun z88 => ?_)
                            have rz88 := n_range z88
                            refine Ev.step (j := 23) (s' := ([some (.ref 69), some (.int z77), some (.int x3)], [.int z88, .ref 71, .int z88, .ref 71], (0, 0), hp84)) rfl rfl ?_
                            refine bs_ld (g := 132) 136 147 (-2147483648, 2147483647) rfl Hhp84 (bs_R.uq Hhp84 (g := 132) rfl) (by decide) rfl (by decide) (by decide) rfl (by decide) (by omega) (by omega) fun z89 hz89 lz89 gz89 => ?_
                            dsimp only at lz89 gz89
                            refine Ev.step (j := 25) (s' := ([some (.ref 69), some (.int z77), some (.int x3)], [.int x3, .int z89, .int z88, .ref 71], (0, 0), hp84)) rfl rfl ?_
                            first | (refine bs_add rfl (by omega) (by omega) fun z90 hz90 => ?_) | (refine bs_any rfl fun z90 => ?_)
                            have rz90 := n_range z90
                            refine bs_st (W := [(132, 136, 147)]) (g := 132) 136 147 (-2147483648, 2147483647) rfl Hhp84 (bs_R.uq Hhp84 (g := 132) rfl) (by decide) rfl rfl (by decide) rfl rfl (by omega) (by omega) (by dsimp only; omega) (by dsimp only; omega) fun hp91 Hhp91 fhp91 rhp91 ehp91 qhp91 nhp91 => ?_
                            have Fhp91 := sf_fr_tr Fhp84 (sf_fr_wider (W := [(11, 0, 0), (11, 25, 25), (132, 124, 147), (138, 0, 1063)]) rfl fhp91)
                            have h92 : sf_rd hp91 69 0 = some z1.toInt := (ehp91 _ _ (Or.inl (by decide))).trans h85
                            have h93 : sf_rd hp91 71 0 = some z7.toInt := (ehp91 _ _ (Or.inr (by omega))).trans h86
                            refine Ev.ret rfl rfl ?_
                            rw [← hQ78]
                            refine (show Ev _ 56 ([some (.ref 69), some (.int x1), some (.int x2), some (.int x3)], [], (0, 0), hp91) _ from ?_)
                            refine bs_lit (k := 0) rfl rfl fun z94 hz94 => ?_
                            exact Ev.ret rfl rfl (by rw [hQ]; exact ⟨thp70, Hhp91, Fhp91, bs_an0, sf_S_nil⟩)
                          · exfalso; omega
                        · skip
                          refine bs_lit (k := 1) rfl rfl fun z95 hz95 => ?_
                          refine Ev.step (j := 18) (s' := ([some (.ref 69), some (.int z61), some (.int x3)], [.int z95], (0, 0), hp2)) rfl rfl ?_
                          refine Ev.ret rfl rfl ?_
                          rw [← hQ62]
                          refine (show Ev _ 37 ([some (.ref 69), some (.int x1), some (.int x2), some (.int x3)], [.int z95], (0, 0), hp2) _ from ?_)
                          refine bs_ifle rfl (fun c96 => ?_) (fun c96 => ?_)
                          · exfalso; omega
                          · skip
                            refine bs_lit (k := 1) rfl rfl fun z97 hz97 => ?_
                            exact Ev.ret rfl rfl (by rw [hQ]; exact ⟨t, Hhp2, Fhp2, bs_an0, sf_S_nil⟩)
                      · exfalso; omega
def kq_X11_bare_h : sf_Q := ([(1, 11, 0), (0, 0, 0), (0, 0, 0), (0, 0, 0)], [], some (0, 0, 0), [], [(11, 0, 0), (11, 25, 25), (132, 124, 147), (138, 0, 1063)])
set_option maxRecDepth 100000 in
set_option maxHeartbeats 4000000 in
theorem ct_X11_bare_h : sf_ct kq_X11_bare_h Z_X11_bare := by
  intro t hp as H hl hj hpre
  match as, hl with
  | [v0, v1, v2, v3], _ =>
    obtain ⟨a0, rfl, ra0⟩ := bs_aR (hj 0 _ rfl)
    obtain rfl := ra0.eq H (p := 69) rfl
    obtain ⟨x1, rfl⟩ := bs_aI (hj 1 _ rfl)
    have rg1 := n_range x1
    obtain ⟨x2, rfl⟩ := bs_aI (hj 2 _ rfl)
    have rg2 := n_range x2
    obtain ⟨x3, rfl⟩ := bs_aI (hj 3 _ rfl)
    have rg3 := n_range x3
    clear hpre hj
    have F0 : sf_fr [(11, 0, 0), (11, 25, 25), (132, 124, 147), (138, 0, 1063)] t hp t hp := sf_fr_rf
    refine bs_fin (K := kq_X11_bare_h) (L := (L_X11_bare Z_X11_isPlace Z_X11_isIn Z_X11_cell Z_X11_whyBare Z_X11_keep Z_X11_hoards)) (nL := 5) (Nat.le_of_ble_eq_true rfl) ?_
    obtain ⟨Q, hQ⟩ : ∃ Q : ab_O → Prop, Q = (fun o => ∃ t', sf_h t' o.2 ∧ sf_fr (kq_X11_bare_h).2.2.2.2 t hp t' o.2 ∧ sf_an t' o.2.1 (kq_X11_bare_h).2.2.1 o.1 ∧ sf_S (sf_v1 o.1 [.ref 69, .int x1, .int x2, .int x3] o.2) (kq_X11_bare_h).2.2.2.1) := ⟨_, rfl⟩
    rw [← hQ]
    refine (show Ev (ab_T (L_X11_bare Z_X11_isPlace Z_X11_isIn Z_X11_cell Z_X11_whyBare Z_X11_keep Z_X11_hoards)) 0 ([some (.ref 69), some (.int x1), some (.int x2), some (.int x3), none], [], (0, 0), hp) Q from ?_)
    refine Ev.step (j := 1) (s' := ([some (.ref 69), some (.int x1), some (.int x2), some (.int x3), none], [.ref 69], (0, 0), hp)) rfl rfl ?_
    refine bs_lit (k := 0) rfl rfl fun z1 hz1 => ?_
    refine bs_putI (W := [(11, 0, 0)]) (g := 11) rfl rfl H (bs_R.uq H (g := 11) rfl) (by decide) rfl rfl rfl rfl (Or.inl rfl) (by omega) (by omega) fun hp2 Hhp2 fhp2 rhp2 ehp2 qhp2 nhp2 => ?_
    have Fhp2 := sf_fr_tr F0 (sf_fr_wider (W := [(11, 0, 0), (11, 25, 25), (132, 124, 147), (138, 0, 1063)]) rfl fhp2)
    refine Ev.step (j := 6) (s' := ([some (.ref 69), some (.int x1), some (.int x2), some (.int x3), none], [.ref 69], (0, 0), hp2)) rfl rfl ?_
    refine Ev.step (j := 7) (s' := ([some (.ref 69), some (.int x1), some (.int x2), some (.int x3), none], [.int x1, .ref 69], (0, 0), hp2)) rfl rfl ?_
    refine Ev.step (j := 8) (s' := ([some (.ref 69), some (.int x1), some (.int x2), some (.int x3), none], [.int x2, .int x1, .ref 69], (0, 0), hp2)) rfl rfl ?_
    refine Ev.inl (L := (L_X11_isPlace Z_X11_isGood Z_X11_isShore)) (nL := 3) rfl (bs_rcv (g := 11) Hhp2 (bs_R.uq Hhp2 (g := 11) rfl) (by decide) rfl) rfl (Nat.le_of_ble_eq_true rfl) ?_
    generalize hQ3 : (fun (o : ab_O) => Ev _ _ _ _) = Q3
    refine (show Ev (ab_T (L_X11_isPlace Z_X11_isGood Z_X11_isShore)) 0 ([some (.ref 69), some (.int x1), some (.int x2)], [], (0, 0), hp2) Q3 from ?_)
    refine Ev.step (j := 1) (s' := ([some (.ref 69), some (.int x1), some (.int x2)], [.ref 69], (0, 0), hp2)) rfl rfl ?_
    refine Ev.step (j := 2) (s' := ([some (.ref 69), some (.int x1), some (.int x2)], [.int x1, .ref 69], (0, 0), hp2)) rfl rfl ?_
    refine Ev.inl (L := (L_X11_isGood Z_X11_isIn)) (nL := 2) rfl (bs_rcv (g := 11) Hhp2 (bs_R.uq Hhp2 (g := 11) rfl) (by decide) rfl) rfl (Nat.le_of_ble_eq_true rfl) ?_
    generalize hQ4 : (fun (o : ab_O) => Ev _ _ _ _) = Q4
    refine (show Ev (ab_T (L_X11_isGood Z_X11_isIn)) 0 ([some (.ref 69), some (.int x1)], [], (0, 0), hp2) Q4 from ?_)
    refine Ev.step (j := 1) (s' := ([some (.ref 69), some (.int x1)], [.int x1], (0, 0), hp2)) rfl rfl ?_
    refine bs_lit (k := 0) rfl rfl fun z5 hz5 => ?_
    refine Ev.step (j := 3) (s' := ([some (.ref 69), some (.int x1)], [.ref 69, .int z5, .int x1], (0, 0), hp2)) rfl rfl ?_
    refine bs_getU (g := 11) (g1 := 132) rfl rfl Hhp2 (bs_R.uq Hhp2 (g := 11) rfl) (by decide) rfl rfl ?_
    refine bs_lit (k := 0) rfl rfl fun z6 hz6 => ?_
    refine bs_ld (g := 132) 0 0 (0, 6) rfl Hhp2 (bs_R.uq Hhp2 (g := 132) rfl) (by decide) rfl (by decide) (by decide) rfl (by decide) (by omega) (by omega) fun z7 hz7 lz7 gz7 => ?_
    dsimp only at lz7 gz7
    replace hz7 := bs_at hz7 (show z6.toInt.toNat = 0 by omega)
    refine bs_lit (k := 1) rfl rfl fun z8 hz8 => ?_
    first | (refine bs_sub rfl (by omega) (by omega) fun z9 hz9 => ?_) | (refine bs_any rfl fun z9 => ?_)
    have rz9 := n_range z9
    refine Ev.inlS (L := L_X11_isIn) (nL := 3) rfl rfl (Nat.le_of_ble_eq_true rfl) ?_
    generalize hQ10 : (fun (o : ab_O) => Ev _ _ _ _) = Q10
    refine (show Ev (ab_T L_X11_isIn) 0 ([some (.int x1), some (.int z5), some (.int z9)], [], (0, 0), hp2) Q10 from ?_)
    refine Ev.step (j := 1) (s' := ([some (.int x1), some (.int z5), some (.int z9)], [.int x1], (0, 0), hp2)) rfl rfl ?_
    refine Ev.step (j := 2) (s' := ([some (.int x1), some (.int z5), some (.int z9)], [.int z5, .int x1], (0, 0), hp2)) rfl rfl ?_
    refine bs_lt rfl (fun c11 => ?_) (fun c11 => ?_)
    · skip
      refine bs_lit (k := 0) rfl rfl fun z12 hz12 => ?_
      refine bs_zret rfl rfl (by omega) (by omega) ?_
      rw [← hQ10]
      refine (show Ev _ 13 ([some (.ref 69), some (.int x1)], [.int z12], (0, 0), hp2) _ from ?_)
      refine bs_zret rfl rfl (by omega) (by omega) ?_
      rw [← hQ4]
      refine (show Ev _ 5 ([some (.ref 69), some (.int x1), some (.int x2)], [.int z12], (0, 0), hp2) _ from ?_)
      refine bs_ifeq rfl (fun c13 => ?_) (fun c13 => ?_)
      · skip
        refine bs_lit (k := 0) rfl rfl fun z14 hz14 => ?_
        refine bs_zret rfl rfl (by omega) (by omega) ?_
        rw [← hQ3]
        refine (show Ev _ 11 ([some (.ref 69), some (.int x1), some (.int x2), some (.int x3), none], [.int z14], (0, 0), hp2) _ from ?_)
        refine bs_ifeq rfl (fun c15 => ?_) (fun c15 => ?_)
        · skip
          refine bs_lit (k := -1) rfl rfl fun z16 hz16 => ?_
          exact Ev.ret rfl rfl (by rw [hQ]; exact ⟨t, Hhp2, Fhp2, bs_an0, sf_S_nil⟩)
        · exfalso; omega
      · exfalso; omega
    · skip
      refine Ev.step (j := 6) (s' := ([some (.int x1), some (.int z5), some (.int z9)], [.int x1], (0, 0), hp2)) rfl rfl ?_
      refine Ev.step (j := 7) (s' := ([some (.int x1), some (.int z5), some (.int z9)], [.int z9, .int x1], (0, 0), hp2)) rfl rfl ?_
      refine bs_gt rfl (fun c17 => ?_) (fun c17 => ?_)
      · skip
        refine bs_lit (k := 0) rfl rfl fun z18 hz18 => ?_
        refine bs_zret rfl rfl (by omega) (by omega) ?_
        rw [← hQ10]
        refine (show Ev _ 13 ([some (.ref 69), some (.int x1)], [.int z18], (0, 0), hp2) _ from ?_)
        refine bs_zret rfl rfl (by omega) (by omega) ?_
        rw [← hQ4]
        refine (show Ev _ 5 ([some (.ref 69), some (.int x1), some (.int x2)], [.int z18], (0, 0), hp2) _ from ?_)
        refine bs_ifeq rfl (fun c19 => ?_) (fun c19 => ?_)
        · skip
          refine bs_lit (k := 0) rfl rfl fun z20 hz20 => ?_
          refine bs_zret rfl rfl (by omega) (by omega) ?_
          rw [← hQ3]
          refine (show Ev _ 11 ([some (.ref 69), some (.int x1), some (.int x2), some (.int x3), none], [.int z20], (0, 0), hp2) _ from ?_)
          refine bs_ifeq rfl (fun c21 => ?_) (fun c21 => ?_)
          · skip
            refine bs_lit (k := -1) rfl rfl fun z22 hz22 => ?_
            exact Ev.ret rfl rfl (by rw [hQ]; exact ⟨t, Hhp2, Fhp2, bs_an0, sf_S_nil⟩)
          · exfalso; omega
        · exfalso; omega
      · skip
        refine bs_lit (k := 1) rfl rfl fun z23 hz23 => ?_
        refine Ev.step (j := 15) (s' := ([some (.int x1), some (.int z5), some (.int z9)], [.int z23], (0, 0), hp2)) rfl rfl ?_
        refine bs_zret rfl rfl (by omega) (by omega) ?_
        rw [← hQ10]
        refine (show Ev _ 13 ([some (.ref 69), some (.int x1)], [.int z23], (0, 0), hp2) _ from ?_)
        refine bs_zret rfl rfl (by omega) (by omega) ?_
        rw [← hQ4]
        refine (show Ev _ 5 ([some (.ref 69), some (.int x1), some (.int x2)], [.int z23], (0, 0), hp2) _ from ?_)
        refine bs_ifeq rfl (fun c24 => ?_) (fun c24 => ?_)
        · exfalso; omega
        · skip
          refine Ev.step (j := 9) (s' := ([some (.ref 69), some (.int x1), some (.int x2)], [.ref 69], (0, 0), hp2)) rfl rfl ?_
          refine Ev.step (j := 10) (s' := ([some (.ref 69), some (.int x1), some (.int x2)], [.int x2, .ref 69], (0, 0), hp2)) rfl rfl ?_
          refine Ev.inl (L := (L_X11_isShore Z_X11_isIn)) (nL := 2) rfl (bs_rcv (g := 11) Hhp2 (bs_R.uq Hhp2 (g := 11) rfl) (by decide) rfl) rfl (Nat.le_of_ble_eq_true rfl) ?_
          generalize hQ25 : (fun (o : ab_O) => Ev _ _ _ _) = Q25
          refine (show Ev (ab_T (L_X11_isShore Z_X11_isIn)) 0 ([some (.ref 69), some (.int x2)], [], (0, 0), hp2) Q25 from ?_)
          refine Ev.step (j := 1) (s' := ([some (.ref 69), some (.int x2)], [.int x2], (0, 0), hp2)) rfl rfl ?_
          refine bs_lit (k := 0) rfl rfl fun z26 hz26 => ?_
          refine bs_lit (k := 1) rfl rfl fun z27 hz27 => ?_
          refine Ev.inlS (L := L_X11_isIn) (nL := 3) rfl rfl (Nat.le_of_ble_eq_true rfl) ?_
          generalize hQ28 : (fun (o : ab_O) => Ev _ _ _ _) = Q28
          refine (show Ev (ab_T L_X11_isIn) 0 ([some (.int x2), some (.int z26), some (.int z27)], [], (0, 0), hp2) Q28 from ?_)
          refine Ev.step (j := 1) (s' := ([some (.int x2), some (.int z26), some (.int z27)], [.int x2], (0, 0), hp2)) rfl rfl ?_
          refine Ev.step (j := 2) (s' := ([some (.int x2), some (.int z26), some (.int z27)], [.int z26, .int x2], (0, 0), hp2)) rfl rfl ?_
          refine bs_lt rfl (fun c29 => ?_) (fun c29 => ?_)
          · skip
            refine bs_lit (k := 0) rfl rfl fun z30 hz30 => ?_
            refine bs_zret rfl rfl (by omega) (by omega) ?_
            rw [← hQ28]
            refine (show Ev _ 6 ([some (.ref 69), some (.int x2)], [.int z30], (0, 0), hp2) _ from ?_)
            refine bs_zret rfl rfl (by omega) (by omega) ?_
            rw [← hQ25]
            refine (show Ev _ 13 ([some (.ref 69), some (.int x1), some (.int x2)], [.int z30], (0, 0), hp2) _ from ?_)
            refine bs_ifeq rfl (fun c31 => ?_) (fun c31 => ?_)
            · skip
              refine bs_lit (k := 0) rfl rfl fun z32 hz32 => ?_
              refine bs_zret rfl rfl (by omega) (by omega) ?_
              rw [← hQ3]
              refine (show Ev _ 11 ([some (.ref 69), some (.int x1), some (.int x2), some (.int x3), none], [.int z32], (0, 0), hp2) _ from ?_)
              refine bs_ifeq rfl (fun c33 => ?_) (fun c33 => ?_)
              · skip
                refine bs_lit (k := -1) rfl rfl fun z34 hz34 => ?_
                exact Ev.ret rfl rfl (by rw [hQ]; exact ⟨t, Hhp2, Fhp2, bs_an0, sf_S_nil⟩)
              · exfalso; omega
            · exfalso; omega
          · skip
            refine Ev.step (j := 6) (s' := ([some (.int x2), some (.int z26), some (.int z27)], [.int x2], (0, 0), hp2)) rfl rfl ?_
            refine Ev.step (j := 7) (s' := ([some (.int x2), some (.int z26), some (.int z27)], [.int z27, .int x2], (0, 0), hp2)) rfl rfl ?_
            refine bs_gt rfl (fun c35 => ?_) (fun c35 => ?_)
            · skip
              refine bs_lit (k := 0) rfl rfl fun z36 hz36 => ?_
              refine bs_zret rfl rfl (by omega) (by omega) ?_
              rw [← hQ28]
              refine (show Ev _ 6 ([some (.ref 69), some (.int x2)], [.int z36], (0, 0), hp2) _ from ?_)
              refine bs_zret rfl rfl (by omega) (by omega) ?_
              rw [← hQ25]
              refine (show Ev _ 13 ([some (.ref 69), some (.int x1), some (.int x2)], [.int z36], (0, 0), hp2) _ from ?_)
              refine bs_ifeq rfl (fun c37 => ?_) (fun c37 => ?_)
              · skip
                refine bs_lit (k := 0) rfl rfl fun z38 hz38 => ?_
                refine bs_zret rfl rfl (by omega) (by omega) ?_
                rw [← hQ3]
                refine (show Ev _ 11 ([some (.ref 69), some (.int x1), some (.int x2), some (.int x3), none], [.int z38], (0, 0), hp2) _ from ?_)
                refine bs_ifeq rfl (fun c39 => ?_) (fun c39 => ?_)
                · skip
                  refine bs_lit (k := -1) rfl rfl fun z40 hz40 => ?_
                  exact Ev.ret rfl rfl (by rw [hQ]; exact ⟨t, Hhp2, Fhp2, bs_an0, sf_S_nil⟩)
                · exfalso; omega
              · exfalso; omega
            · skip
              refine bs_lit (k := 1) rfl rfl fun z41 hz41 => ?_
              refine Ev.step (j := 15) (s' := ([some (.int x2), some (.int z26), some (.int z27)], [.int z41], (0, 0), hp2)) rfl rfl ?_
              refine bs_zret rfl rfl (by omega) (by omega) ?_
              rw [← hQ28]
              refine (show Ev _ 6 ([some (.ref 69), some (.int x2)], [.int z41], (0, 0), hp2) _ from ?_)
              refine bs_zret rfl rfl (by omega) (by omega) ?_
              rw [← hQ25]
              refine (show Ev _ 13 ([some (.ref 69), some (.int x1), some (.int x2)], [.int z41], (0, 0), hp2) _ from ?_)
              refine bs_ifeq rfl (fun c42 => ?_) (fun c42 => ?_)
              · exfalso; omega
              · skip
                refine bs_lit (k := 1) rfl rfl fun z43 hz43 => ?_
                refine Ev.step (j := 21) (s' := ([some (.ref 69), some (.int x1), some (.int x2)], [.int z43], (0, 0), hp2)) rfl rfl ?_
                refine bs_zret rfl rfl (by omega) (by omega) ?_
                rw [← hQ3]
                refine (show Ev _ 11 ([some (.ref 69), some (.int x1), some (.int x2), some (.int x3), none], [.int z43], (0, 0), hp2) _ from ?_)
                refine bs_ifeq rfl (fun c44 => ?_) (fun c44 => ?_)
                · exfalso; omega
                · skip
                  refine Ev.step (j := 15) (s' := ([some (.ref 69), some (.int x1), some (.int x2), some (.int x3), none], [.int x3], (0, 0), hp2)) rfl rfl ?_
                  refine bs_lit (k := 1) rfl rfl fun z45 hz45 => ?_
                  refine bs_lit (k := 250) rfl rfl fun z46 hz46 => ?_
                  refine Ev.inlS (L := L_X11_isIn) (nL := 3) rfl rfl (Nat.le_of_ble_eq_true rfl) ?_
                  generalize hQ47 : (fun (o : ab_O) => Ev _ _ _ _) = Q47
                  refine (show Ev (ab_T L_X11_isIn) 0 ([some (.int x3), some (.int z45), some (.int z46)], [], (0, 0), hp2) Q47 from ?_)
                  refine Ev.step (j := 1) (s' := ([some (.int x3), some (.int z45), some (.int z46)], [.int x3], (0, 0), hp2)) rfl rfl ?_
                  refine Ev.step (j := 2) (s' := ([some (.int x3), some (.int z45), some (.int z46)], [.int z45, .int x3], (0, 0), hp2)) rfl rfl ?_
                  refine bs_lt rfl (fun c48 => ?_) (fun c48 => ?_)
                  · skip
                    refine bs_lit (k := 0) rfl rfl fun z49 hz49 => ?_
                    refine bs_zret rfl rfl (by omega) (by omega) ?_
                    rw [← hQ47]
                    refine (show Ev _ 22 ([some (.ref 69), some (.int x1), some (.int x2), some (.int x3), none], [.int z49], (0, 0), hp2) _ from ?_)
                    refine bs_ifne rfl (fun c50 => ?_) (fun c50 => ?_)
                    · exfalso; omega
                    · skip
                      refine bs_lit (k := -1) rfl rfl fun z51 hz51 => ?_
                      exact Ev.ret rfl rfl (by rw [hQ]; exact ⟨t, Hhp2, Fhp2, bs_an0, sf_S_nil⟩)
                  · skip
                    refine Ev.step (j := 6) (s' := ([some (.int x3), some (.int z45), some (.int z46)], [.int x3], (0, 0), hp2)) rfl rfl ?_
                    refine Ev.step (j := 7) (s' := ([some (.int x3), some (.int z45), some (.int z46)], [.int z46, .int x3], (0, 0), hp2)) rfl rfl ?_
                    refine bs_gt rfl (fun c52 => ?_) (fun c52 => ?_)
                    · skip
                      refine bs_lit (k := 0) rfl rfl fun z53 hz53 => ?_
                      refine bs_zret rfl rfl (by omega) (by omega) ?_
                      rw [← hQ47]
                      refine (show Ev _ 22 ([some (.ref 69), some (.int x1), some (.int x2), some (.int x3), none], [.int z53], (0, 0), hp2) _ from ?_)
                      refine bs_ifne rfl (fun c54 => ?_) (fun c54 => ?_)
                      · exfalso; omega
                      · skip
                        refine bs_lit (k := -1) rfl rfl fun z55 hz55 => ?_
                        exact Ev.ret rfl rfl (by rw [hQ]; exact ⟨t, Hhp2, Fhp2, bs_an0, sf_S_nil⟩)
                    · skip
                      refine bs_lit (k := 1) rfl rfl fun z56 hz56 => ?_
                      refine Ev.step (j := 15) (s' := ([some (.int x3), some (.int z45), some (.int z46)], [.int z56], (0, 0), hp2)) rfl rfl ?_
                      refine bs_zret rfl rfl (by omega) (by omega) ?_
                      rw [← hQ47]
                      refine (show Ev _ 22 ([some (.ref 69), some (.int x1), some (.int x2), some (.int x3), none], [.int z56], (0, 0), hp2) _ from ?_)
                      refine bs_ifne rfl (fun c57 => ?_) (fun c57 => ?_)
                      · skip
                        refine Ev.step (j := 28) (s' := ([some (.ref 69), some (.int x1), some (.int x2), some (.int x3), none], [.ref 69], (0, 0), hp2)) rfl rfl ?_
                        refine Ev.step (j := 29) (s' := ([some (.ref 69), some (.int x1), some (.int x2), some (.int x3), none], [.int x1, .ref 69], (0, 0), hp2)) rfl rfl ?_
                        refine Ev.step (j := 30) (s' := ([some (.ref 69), some (.int x1), some (.int x2), some (.int x3), none], [.int x2, .int x1, .ref 69], (0, 0), hp2)) rfl rfl ?_
                        refine Ev.inlS (L := L_X11_cell) (nL := 2) rfl rfl (Nat.le_of_ble_eq_true rfl) ?_
                        generalize hQ58 : (fun (o : ab_O) => Ev _ _ _ _) = Q58
                        refine (show Ev (ab_T L_X11_cell) 0 ([some (.int x1), some (.int x2)], [], (0, 0), hp2) Q58 from ?_)
                        refine bs_lit (k := 2) rfl rfl fun z59 hz59 => ?_
                        refine Ev.step (j := 2) (s' := ([some (.int x1), some (.int x2)], [.int x1, .int z59], (0, 0), hp2)) rfl rfl ?_
                        refine bs_mul (2) rfl (Or.inl hz59) (by rw [hz59]; omega) (by rw [hz59]; omega) fun z60 hz60 => ?_
                        rw [hz59] at hz60
                        refine Ev.step (j := 4) (s' := ([some (.int x1), some (.int x2)], [.int x2, .int z60], (0, 0), hp2)) rfl rfl ?_
                        first | (refine bs_add rfl (by omega) (by omega) fun z61 hz61 => ?_) | (refine bs_any rfl fun z61 => ?_)
                        have rz61 := n_range z61
                        refine Ev.ret rfl rfl ?_
                        rw [← hQ58]
                        refine (show Ev _ 33 ([some (.ref 69), some (.int x1), some (.int x2), some (.int x3), none], [.int z61, .ref 69], (0, 0), hp2) _ from ?_)
                        refine Ev.step (j := 34) (s' := ([some (.ref 69), some (.int x1), some (.int x2), some (.int x3), none], [.int x3, .int z61, .ref 69], (0, 0), hp2)) rfl rfl ?_
                        refine Ev.inl (L := L_X11_whyBare) (nL := 3) rfl (bs_rcv (g := 11) Hhp2 (bs_R.uq Hhp2 (g := 11) rfl) (by decide) rfl) rfl (Nat.le_of_ble_eq_true rfl) ?_
                        generalize hQ62 : (fun (o : ab_O) => Ev _ _ _ _) = Q62
                        refine (show Ev (ab_T L_X11_whyBare) 0 ([some (.ref 69), some (.int z61), some (.int x3)], [], (0, 0), hp2) Q62 from ?_)
                        refine Ev.step (j := 1) (s' := ([some (.ref 69), some (.int z61), some (.int x3)], [.ref 69], (0, 0), hp2)) rfl rfl ?_
                        refine bs_getU (g := 11) (g1 := 132) rfl rfl Hhp2 (bs_R.uq Hhp2 (g := 11) rfl) (by decide) rfl rfl ?_
                        refine bs_lit (k := 136) rfl rfl fun z63 hz63 => ?_
                        refine Ev.step (j := 8) (s' := ([some (.ref 69), some (.int z61), some (.int x3)], [.int z61, .int z63, .ref 71], (0, 0), hp2)) rfl rfl ?_
                        first | (refine bs_add rfl (by omega) (by omega) fun z64 hz64 => ?_) | (refine bs_any rfl fun z64 => ?_)
                        have rz64 := n_range z64
                        refine bs_ld (g := 132) 136 147 (-2147483648, 2147483647) rfl Hhp2 (bs_R.uq Hhp2 (g := 132) rfl) (by decide) rfl (by decide) (by decide) rfl (by decide) (by omega) (by omega) fun z65 hz65 lz65 gz65 => ?_
                        dsimp only at lz65 gz65
                        refine Ev.step (j := 11) (s' := ([some (.ref 69), some (.int z61), some (.int x3)], [.int x3, .int z65], (0, 0), hp2)) rfl rfl ?_
                        refine bs_ge rfl (fun c66 => ?_) (fun c66 => ?_)
                        · skip
                          refine Ev.step (j := 19) (s' := ([some (.ref 69), some (.int z61), some (.int x3)], [.ref 69], (0, 0), hp2)) rfl rfl ?_
                          refine bs_getU (g := 11) (g1 := 132) rfl rfl Hhp2 (bs_R.uq Hhp2 (g := 11) rfl) (by decide) rfl rfl ?_
                          refine bs_lit (k := 124) rfl rfl fun z67 hz67 => ?_
                          refine Ev.step (j := 25) (s' := ([some (.ref 69), some (.int z61), some (.int x3)], [.int z61, .int z67, .ref 71], (0, 0), hp2)) rfl rfl ?_
                          first | (refine bs_add rfl (by omega) (by omega) fun z68 hz68 => ?_) | (refine bs_any rfl fun z68 => ?_)
                          have rz68 := n_range z68
                          refine bs_ld (g := 132) 124 135 (0, 999) rfl Hhp2 (bs_R.uq Hhp2 (g := 132) rfl) (by decide) rfl (by decide) (by decide) rfl (by decide) (by omega) (by omega) fun z69 hz69 lz69 gz69 => ?_
                          dsimp only at lz69 gz69
                          refine Ev.step (j := 28) (s' := ([some (.ref 69), some (.int z61), some (.int x3)], [.int x3, .int z69], (0, 0), hp2)) rfl rfl ?_
                          first | (refine bs_add rfl (by omega) (by omega) fun z70 hz70 => ?_) | (refine bs_any rfl fun z70 => ?_)
                          have rz70 := n_range z70
                          refine bs_lit (k := 999) rfl rfl fun z71 hz71 => ?_
                          refine bs_le rfl (fun c72 => ?_) (fun c72 => ?_)
                          · skip
                            refine bs_lit (k := 0) rfl rfl fun z73 hz73 => ?_
                            refine Ev.ret rfl rfl ?_
                            rw [← hQ62]
                            refine (show Ev _ 37 ([some (.ref 69), some (.int x1), some (.int x2), some (.int x3), none], [.int z73], (0, 0), hp2) _ from ?_)
                            refine Ev.step (j := 39) (s' := ([some (.ref 69), some (.int x1), some (.int x2), some (.int x3), some (.int z73)], [], (0, 0), hp2)) rfl rfl ?_
                            refine Ev.step (j := 41) (s' := ([some (.ref 69), some (.int x1), some (.int x2), some (.int x3), some (.int z73)], [.int z73], (0, 0), hp2)) rfl rfl ?_
                            refine bs_ifle rfl (fun c74 => ?_) (fun c74 => ?_)
                            · skip
                              refine Ev.step (j := 48) (s' := ([some (.ref 69), some (.int x1), some (.int x2), some (.int x3), some (.int z73)], [.ref 69], (0, 0), hp2)) rfl rfl ?_
                              refine bs_call (K := kq_X11_keep_h) [.ref 69] [] rfl ct_X11_keep_h Hhp2 rfl rfl rfl (bs_rcv (g := 11) Hhp2 (bs_R.uq Hhp2 (g := 11) rfl) (by decide) rfl) rfl ?_ (sf_S_nil) fun r75 hp76 thp76 Hhp76 fhp76 ahp76 php76 => ?_
                              · intro q k h
                                match q, h with
                                | 0, h => cases h; exact bs_jR (bs_R.uq Hhp2 (g := 11) rfl)
                                | q + 1, h => cases h
                              obtain rfl := ahp76.1 rfl
                              have Fhp76 := sf_fr_tr Fhp2 (sf_fr_wider (W := [(11, 0, 0), (11, 25, 25), (132, 124, 147), (138, 0, 1063)]) rfl fhp76)
                              have h77 : sf_rd hp76 69 0 = some z1.toInt := (fhp76.2.2.1 _ (bs_R.uq Hhp2 (g := 11) (p := 69) rfl).1 _ (by rw [(bs_R.uq Hhp2 (g := 11) (p := 69) rfl).2]; rfl)).trans rhp2
                              have h78 : sf_rd hp76 71 0 = some z7.toInt := (fhp76.2.2.1 _ (bs_R.uq Hhp2 (g := 132) (p := 71) rfl).1 _ (by rw [(bs_R.uq Hhp2 (g := 132) (p := 71) rfl).2]; rfl)).trans hz7
                              have h79 : sf_rd hp76 71 z64.toInt.toNat = some z65.toInt := (fhp76.2.2.1 _ (bs_R.uq Hhp2 (g := 132) (p := 71) rfl).1 _ (by rw [(bs_R.uq Hhp2 (g := 132) (p := 71) rfl).2]; rfl)).trans hz65
                              have h80 : sf_rd hp76 71 z68.toInt.toNat = some z69.toInt := (fhp76.2.2.1 _ (bs_R.uq Hhp2 (g := 132) (p := 71) rfl).1 _ (by rw [(bs_R.uq Hhp2 (g := 132) (p := 71) rfl).2]; rfl)).trans hz69
                              refine (show Ev _ 51 ([some (.ref 69), some (.int x1), some (.int x2), some (.int x3), some (.int z73)], [], (0, 0), hp76) _ from ?_)
                              refine Ev.step (j := 52) (s' := ([some (.ref 69), some (.int x1), some (.int x2), some (.int x3), some (.int z73)], [.ref 69], (0, 0), hp76)) rfl rfl ?_
                              refine Ev.step (j := 53) (s' := ([some (.ref 69), some (.int x1), some (.int x2), some (.int x3), some (.int z73)], [.int x1, .ref 69], (0, 0), hp76)) rfl rfl ?_
                              refine Ev.step (j := 54) (s' := ([some (.ref 69), some (.int x1), some (.int x2), some (.int x3), some (.int z73)], [.int x2, .int x1, .ref 69], (0, 0), hp76)) rfl rfl ?_
                              refine Ev.inlS (L := L_X11_cell) (nL := 2) rfl rfl (Nat.le_of_ble_eq_true rfl) ?_
                              generalize hQ81 : (fun (o : ab_O) => Ev _ _ _ _) = Q81
                              refine (show Ev (ab_T L_X11_cell) 0 ([some (.int x1), some (.int x2)], [], (0, 0), hp76) Q81 from ?_)
                              refine bs_lit (k := 2) rfl rfl fun z82 hz82 => ?_
                              refine Ev.step (j := 2) (s' := ([some (.int x1), some (.int x2)], [.int x1, .int z82], (0, 0), hp76)) rfl rfl ?_
                              refine bs_mul (2) rfl (Or.inl hz82) (by rw [hz82]; omega) (by rw [hz82]; omega) fun z83 hz83 => ?_
                              rw [hz82] at hz83
                              refine Ev.step (j := 4) (s' := ([some (.int x1), some (.int x2)], [.int x2, .int z83], (0, 0), hp76)) rfl rfl ?_
                              first | (refine bs_add rfl (by omega) (by omega) fun z84 hz84 => ?_) | (refine bs_any rfl fun z84 => ?_)
                              have rz84 := n_range z84
                              refine Ev.ret rfl rfl ?_
                              rw [← hQ81]
                              refine (show Ev _ 57 ([some (.ref 69), some (.int x1), some (.int x2), some (.int x3), some (.int z73)], [.int z84, .ref 69], (0, 0), hp76) _ from ?_)
                              refine Ev.step (j := 58) (s' := ([some (.ref 69), some (.int x1), some (.int x2), some (.int x3), some (.int z73)], [.int x3, .int z84, .ref 69], (0, 0), hp76)) rfl rfl ?_
                              refine bs_neg rfl (by omega) fun z85 hz85 => ?_
                              refine Ev.inl (L := L_X11_hoards) (nL := 3) rfl (bs_rcv (g := 11) Hhp76 (bs_R.uq Hhp76 (g := 11) rfl) (by decide) rfl) rfl (Nat.le_of_ble_eq_true rfl) ?_
                              generalize hQ86 : (fun (o : ab_O) => Ev _ _ _ _) = Q86
                              refine (show Ev (ab_T L_X11_hoards) 0 ([some (.ref 69), some (.int z84), some (.int z85)], [], (0, 0), hp76) Q86 from ?_)
                              refine Ev.step (j := 1) (s' := ([some (.ref 69), some (.int z84), some (.int z85)], [.ref 69], (0, 0), hp76)) rfl rfl ?_
                              refine bs_getU (g := 11) (g1 := 132) rfl rfl Hhp76 (bs_R.uq Hhp76 (g := 11) rfl) (by decide) rfl rfl ?_
                              refine bs_lit (k := 124) rfl rfl fun z87 hz87 => ?_
                              refine Ev.step (j := 7) (s' := ([some (.ref 69), some (.int z84), some (.int z85)], [.int z84, .int z87, .ref 71], (0, 0), hp76)) rfl rfl ?_
                              first | (refine bs_add rfl (by omega) (by omega) fun z88 hz88 => ?_) | (refine bs_any rfl fun z88 => ?_)
                              have rz88 := n_range z88
                              refine Ev.step (j := 9) (s' := ([some (.ref 69), some (.int z84), some (.int z85)], [.int z88, .ref 71, .int z88, .ref 71], (0, 0), hp76)) rfl rfl ?_
                              refine bs_ld (g := 132) 124 135 (0, 999) rfl Hhp76 (bs_R.uq Hhp76 (g := 132) rfl) (by decide) rfl (by decide) (by decide) rfl (by decide) (by omega) (by omega) fun z89 hz89 lz89 gz89 => ?_
                              dsimp only at lz89 gz89
                              have e90 : z89.toInt = z69.toInt := Option.some.inj ((bs_at hz89 (by omega)).symm.trans ((fhp76.2.2.1 _ (bs_R.uq Hhp2 (g := 132) (p := 71) rfl).1 _ (by rw [(bs_R.uq Hhp2 (g := 132) (p := 71) rfl).2]; rfl)).trans hz69))
                              refine Ev.step (j := 11) (s' := ([some (.ref 69), some (.int z84), some (.int z85)], [.int z85, .int z89, .int z88, .ref 71], (0, 0), hp76)) rfl rfl ?_
                              first | (refine bs_sub rfl (by omega) (by omega) fun z91 hz91 => ?_) | (refine bs_any rfl fun z91 => ?_)
                              have rz91 := n_range z91
                              refine bs_st (W := [(132, 124, 135)]) (g := 132) 124 135 (0, 999) rfl Hhp76 (bs_R.uq Hhp76 (g := 132) rfl) (by decide) rfl rfl (by decide) rfl rfl (by omega) (by omega) (by dsimp only; omega) (by dsimp only; omega) fun hp92 Hhp92 fhp92 rhp92 ehp92 qhp92 nhp92 => ?_
                              have Fhp92 := sf_fr_tr Fhp76 (sf_fr_wider (W := [(11, 0, 0), (11, 25, 25), (132, 124, 147), (138, 0, 1063)]) rfl fhp92)
                              have h93 : sf_rd hp92 69 0 = some z1.toInt := (ehp92 _ _ (Or.inl (by decide))).trans h77
                              have h94 : sf_rd hp92 71 0 = some z7.toInt := (ehp92 _ _ (Or.inr (by omega))).trans h78
                              refine Ev.step (j := 14) (s' := ([some (.ref 69), some (.int z84), some (.int z85)], [.ref 69], (0, 0), hp92)) rfl rfl ?_
                              refine bs_getU (g := 11) (g1 := 132) rfl rfl Hhp92 (bs_R.uq Hhp92 (g := 11) rfl) (by decide) rfl rfl ?_
                              refine bs_lit (k := 136) rfl rfl fun z95 hz95 => ?_
                              refine Ev.step (j := 21) (s' := ([some (.ref 69), some (.int z84), some (.int z85)], [.int z84, .int z95, .ref 71], (0, 0), hp92)) rfl rfl ?_
                              first | (refine bs_add rfl (by omega) (by omega) fun z96 hz96 => ?_) | (refine bs_any rfl fun z96 => ?_)
                              have rz96 := n_range z96
                              refine Ev.step (j := 23) (s' := ([some (.ref 69), some (.int z84), some (.int z85)], [.int z96, .ref 71, .int z96, .ref 71], (0, 0), hp92)) rfl rfl ?_
                              refine bs_ld (g := 132) 136 147 (-2147483648, 2147483647) rfl Hhp92 (bs_R.uq Hhp92 (g := 132) rfl) (by decide) rfl (by decide) (by decide) rfl (by decide) (by omega) (by omega) fun z97 hz97 lz97 gz97 => ?_
                              dsimp only at lz97 gz97
                              refine Ev.step (j := 25) (s' := ([some (.ref 69), some (.int z84), some (.int z85)], [.int z85, .int z97, .int z96, .ref 71], (0, 0), hp92)) rfl rfl ?_
                              first | (refine bs_add rfl (by omega) (by omega) fun z98 hz98 => ?_) | (refine bs_any rfl fun z98 => ?_)
                              have rz98 := n_range z98
                              refine bs_st (W := [(132, 136, 147)]) (g := 132) 136 147 (-2147483648, 2147483647) rfl Hhp92 (bs_R.uq Hhp92 (g := 132) rfl) (by decide) rfl rfl (by decide) rfl rfl (by omega) (by omega) (by dsimp only; omega) (by dsimp only; omega) fun hp99 Hhp99 fhp99 rhp99 ehp99 qhp99 nhp99 => ?_
                              have Fhp99 := sf_fr_tr Fhp92 (sf_fr_wider (W := [(11, 0, 0), (11, 25, 25), (132, 124, 147), (138, 0, 1063)]) rfl fhp99)
                              have h100 : sf_rd hp99 69 0 = some z1.toInt := (ehp99 _ _ (Or.inl (by decide))).trans h93
                              have h101 : sf_rd hp99 71 0 = some z7.toInt := (ehp99 _ _ (Or.inr (by omega))).trans h94
                              refine Ev.ret rfl rfl ?_
                              rw [← hQ86]
                              refine (show Ev _ 62 ([some (.ref 69), some (.int x1), some (.int x2), some (.int x3), some (.int z73)], [], (0, 0), hp99) _ from ?_)
                              refine bs_lit (k := 0) rfl rfl fun z102 hz102 => ?_
                              exact Ev.ret rfl rfl (by rw [hQ]; exact ⟨thp76, Hhp99, Fhp99, bs_an0, sf_S_nil⟩)
                            · exfalso; omega
                          · skip
                            refine bs_lit (k := 2) rfl rfl fun z103 hz103 => ?_
                            refine Ev.step (j := 40) (s' := ([some (.ref 69), some (.int z61), some (.int x3)], [.int z103], (0, 0), hp2)) rfl rfl ?_
                            refine Ev.ret rfl rfl ?_
                            rw [← hQ62]
                            refine (show Ev _ 37 ([some (.ref 69), some (.int x1), some (.int x2), some (.int x3), none], [.int z103], (0, 0), hp2) _ from ?_)
                            refine Ev.step (j := 39) (s' := ([some (.ref 69), some (.int x1), some (.int x2), some (.int x3), some (.int z103)], [], (0, 0), hp2)) rfl rfl ?_
                            refine Ev.step (j := 41) (s' := ([some (.ref 69), some (.int x1), some (.int x2), some (.int x3), some (.int z103)], [.int z103], (0, 0), hp2)) rfl rfl ?_
                            refine bs_ifle rfl (fun c104 => ?_) (fun c104 => ?_)
                            · exfalso; omega
                            · skip
                              refine Ev.step (j := 46) (s' := ([some (.ref 69), some (.int x1), some (.int x2), some (.int x3), some (.int z103)], [.int z103], (0, 0), hp2)) rfl rfl ?_
                              exact Ev.ret rfl rfl (by rw [hQ]; exact ⟨t, Hhp2, Fhp2, bs_an0, sf_S_nil⟩)
                        · skip
                          refine bs_lit (k := 1) rfl rfl fun z105 hz105 => ?_
                          refine Ev.step (j := 40) (s' := ([some (.ref 69), some (.int z61), some (.int x3)], [.int z105], (0, 0), hp2)) rfl rfl ?_
                          refine Ev.ret rfl rfl ?_
                          rw [← hQ62]
                          refine (show Ev _ 37 ([some (.ref 69), some (.int x1), some (.int x2), some (.int x3), none], [.int z105], (0, 0), hp2) _ from ?_)
                          refine Ev.step (j := 39) (s' := ([some (.ref 69), some (.int x1), some (.int x2), some (.int x3), some (.int z105)], [], (0, 0), hp2)) rfl rfl ?_
                          refine Ev.step (j := 41) (s' := ([some (.ref 69), some (.int x1), some (.int x2), some (.int x3), some (.int z105)], [.int z105], (0, 0), hp2)) rfl rfl ?_
                          refine bs_ifle rfl (fun c106 => ?_) (fun c106 => ?_)
                          · exfalso; omega
                          · skip
                            refine Ev.step (j := 46) (s' := ([some (.ref 69), some (.int x1), some (.int x2), some (.int x3), some (.int z105)], [.int z105], (0, 0), hp2)) rfl rfl ?_
                            exact Ev.ret rfl rfl (by rw [hQ]; exact ⟨t, Hhp2, Fhp2, bs_an0, sf_S_nil⟩)
                      · exfalso; omega
def kq_X11_waste_h : sf_Q := ([(1, 11, 0), (0, 0, 0), (0, 0, 0), (0, 0, 0)], [], some (0, 0, 0), [], [(11, 0, 0), (11, 25, 25), (132, 124, 135), (138, 0, 1063)])
set_option maxRecDepth 100000 in
set_option maxHeartbeats 4000000 in
theorem ct_X11_waste_h : sf_ct kq_X11_waste_h Z_X11_waste := by
  intro t hp as H hl hj hpre
  match as, hl with
  | [v0, v1, v2, v3], _ =>
    obtain ⟨a0, rfl, ra0⟩ := bs_aR (hj 0 _ rfl)
    obtain rfl := ra0.eq H (p := 69) rfl
    obtain ⟨x1, rfl⟩ := bs_aI (hj 1 _ rfl)
    have rg1 := n_range x1
    obtain ⟨x2, rfl⟩ := bs_aI (hj 2 _ rfl)
    have rg2 := n_range x2
    obtain ⟨x3, rfl⟩ := bs_aI (hj 3 _ rfl)
    have rg3 := n_range x3
    clear hpre hj
    have F0 : sf_fr [(11, 0, 0), (11, 25, 25), (132, 124, 135), (138, 0, 1063)] t hp t hp := sf_fr_rf
    refine bs_fin (K := kq_X11_waste_h) (L := (L_X11_waste Z_X11_isPlace Z_X11_isIn Z_X11_cell Z_X11_whyHoard Z_X11_keep)) (nL := 4) (Nat.le_of_ble_eq_true rfl) ?_
    obtain ⟨Q, hQ⟩ : ∃ Q : ab_O → Prop, Q = (fun o => ∃ t', sf_h t' o.2 ∧ sf_fr (kq_X11_waste_h).2.2.2.2 t hp t' o.2 ∧ sf_an t' o.2.1 (kq_X11_waste_h).2.2.1 o.1 ∧ sf_S (sf_v1 o.1 [.ref 69, .int x1, .int x2, .int x3] o.2) (kq_X11_waste_h).2.2.2.1) := ⟨_, rfl⟩
    rw [← hQ]
    refine (show Ev (ab_T (L_X11_waste Z_X11_isPlace Z_X11_isIn Z_X11_cell Z_X11_whyHoard Z_X11_keep)) 0 ([some (.ref 69), some (.int x1), some (.int x2), some (.int x3)], [], (0, 0), hp) Q from ?_)
    refine Ev.step (j := 1) (s' := ([some (.ref 69), some (.int x1), some (.int x2), some (.int x3)], [.ref 69], (0, 0), hp)) rfl rfl ?_
    refine bs_lit (k := 0) rfl rfl fun z1 hz1 => ?_
    refine bs_putI (W := [(11, 0, 0)]) (g := 11) rfl rfl H (bs_R.uq H (g := 11) rfl) (by decide) rfl rfl rfl rfl (Or.inl rfl) (by omega) (by omega) fun hp2 Hhp2 fhp2 rhp2 ehp2 qhp2 nhp2 => ?_
    have Fhp2 := sf_fr_tr F0 (sf_fr_wider (W := [(11, 0, 0), (11, 25, 25), (132, 124, 135), (138, 0, 1063)]) rfl fhp2)
    refine Ev.step (j := 6) (s' := ([some (.ref 69), some (.int x1), some (.int x2), some (.int x3)], [.ref 69], (0, 0), hp2)) rfl rfl ?_
    refine Ev.step (j := 7) (s' := ([some (.ref 69), some (.int x1), some (.int x2), some (.int x3)], [.int x1, .ref 69], (0, 0), hp2)) rfl rfl ?_
    refine Ev.step (j := 8) (s' := ([some (.ref 69), some (.int x1), some (.int x2), some (.int x3)], [.int x2, .int x1, .ref 69], (0, 0), hp2)) rfl rfl ?_
    refine Ev.inl (L := (L_X11_isPlace Z_X11_isGood Z_X11_isShore)) (nL := 3) rfl (bs_rcv (g := 11) Hhp2 (bs_R.uq Hhp2 (g := 11) rfl) (by decide) rfl) rfl (Nat.le_of_ble_eq_true rfl) ?_
    generalize hQ3 : (fun (o : ab_O) => Ev _ _ _ _) = Q3
    refine (show Ev (ab_T (L_X11_isPlace Z_X11_isGood Z_X11_isShore)) 0 ([some (.ref 69), some (.int x1), some (.int x2)], [], (0, 0), hp2) Q3 from ?_)
    refine Ev.step (j := 1) (s' := ([some (.ref 69), some (.int x1), some (.int x2)], [.ref 69], (0, 0), hp2)) rfl rfl ?_
    refine Ev.step (j := 2) (s' := ([some (.ref 69), some (.int x1), some (.int x2)], [.int x1, .ref 69], (0, 0), hp2)) rfl rfl ?_
    refine Ev.inl (L := (L_X11_isGood Z_X11_isIn)) (nL := 2) rfl (bs_rcv (g := 11) Hhp2 (bs_R.uq Hhp2 (g := 11) rfl) (by decide) rfl) rfl (Nat.le_of_ble_eq_true rfl) ?_
    generalize hQ4 : (fun (o : ab_O) => Ev _ _ _ _) = Q4
    refine (show Ev (ab_T (L_X11_isGood Z_X11_isIn)) 0 ([some (.ref 69), some (.int x1)], [], (0, 0), hp2) Q4 from ?_)
    refine Ev.step (j := 1) (s' := ([some (.ref 69), some (.int x1)], [.int x1], (0, 0), hp2)) rfl rfl ?_
    refine bs_lit (k := 0) rfl rfl fun z5 hz5 => ?_
    refine Ev.step (j := 3) (s' := ([some (.ref 69), some (.int x1)], [.ref 69, .int z5, .int x1], (0, 0), hp2)) rfl rfl ?_
    refine bs_getU (g := 11) (g1 := 132) rfl rfl Hhp2 (bs_R.uq Hhp2 (g := 11) rfl) (by decide) rfl rfl ?_
    refine bs_lit (k := 0) rfl rfl fun z6 hz6 => ?_
    refine bs_ld (g := 132) 0 0 (0, 6) rfl Hhp2 (bs_R.uq Hhp2 (g := 132) rfl) (by decide) rfl (by decide) (by decide) rfl (by decide) (by omega) (by omega) fun z7 hz7 lz7 gz7 => ?_
    dsimp only at lz7 gz7
    replace hz7 := bs_at hz7 (show z6.toInt.toNat = 0 by omega)
    refine bs_lit (k := 1) rfl rfl fun z8 hz8 => ?_
    first | (refine bs_sub rfl (by omega) (by omega) fun z9 hz9 => ?_) | (refine bs_any rfl fun z9 => ?_)
    have rz9 := n_range z9
    refine Ev.inlS (L := L_X11_isIn) (nL := 3) rfl rfl (Nat.le_of_ble_eq_true rfl) ?_
    generalize hQ10 : (fun (o : ab_O) => Ev _ _ _ _) = Q10
    refine (show Ev (ab_T L_X11_isIn) 0 ([some (.int x1), some (.int z5), some (.int z9)], [], (0, 0), hp2) Q10 from ?_)
    refine Ev.step (j := 1) (s' := ([some (.int x1), some (.int z5), some (.int z9)], [.int x1], (0, 0), hp2)) rfl rfl ?_
    refine Ev.step (j := 2) (s' := ([some (.int x1), some (.int z5), some (.int z9)], [.int z5, .int x1], (0, 0), hp2)) rfl rfl ?_
    refine bs_lt rfl (fun c11 => ?_) (fun c11 => ?_)
    · skip
      refine bs_lit (k := 0) rfl rfl fun z12 hz12 => ?_
      refine bs_zret rfl rfl (by omega) (by omega) ?_
      rw [← hQ10]
      refine (show Ev _ 13 ([some (.ref 69), some (.int x1)], [.int z12], (0, 0), hp2) _ from ?_)
      refine bs_zret rfl rfl (by omega) (by omega) ?_
      rw [← hQ4]
      refine (show Ev _ 5 ([some (.ref 69), some (.int x1), some (.int x2)], [.int z12], (0, 0), hp2) _ from ?_)
      refine bs_ifeq rfl (fun c13 => ?_) (fun c13 => ?_)
      · skip
        refine bs_lit (k := 0) rfl rfl fun z14 hz14 => ?_
        refine bs_zret rfl rfl (by omega) (by omega) ?_
        rw [← hQ3]
        refine (show Ev _ 11 ([some (.ref 69), some (.int x1), some (.int x2), some (.int x3)], [.int z14], (0, 0), hp2) _ from ?_)
        refine bs_ifeq rfl (fun c15 => ?_) (fun c15 => ?_)
        · skip
          refine bs_lit (k := -1) rfl rfl fun z16 hz16 => ?_
          exact Ev.ret rfl rfl (by rw [hQ]; exact ⟨t, Hhp2, Fhp2, bs_an0, sf_S_nil⟩)
        · exfalso; omega
      · exfalso; omega
    · skip
      refine Ev.step (j := 6) (s' := ([some (.int x1), some (.int z5), some (.int z9)], [.int x1], (0, 0), hp2)) rfl rfl ?_
      refine Ev.step (j := 7) (s' := ([some (.int x1), some (.int z5), some (.int z9)], [.int z9, .int x1], (0, 0), hp2)) rfl rfl ?_
      refine bs_gt rfl (fun c17 => ?_) (fun c17 => ?_)
      · skip
        refine bs_lit (k := 0) rfl rfl fun z18 hz18 => ?_
        refine bs_zret rfl rfl (by omega) (by omega) ?_
        rw [← hQ10]
        refine (show Ev _ 13 ([some (.ref 69), some (.int x1)], [.int z18], (0, 0), hp2) _ from ?_)
        refine bs_zret rfl rfl (by omega) (by omega) ?_
        rw [← hQ4]
        refine (show Ev _ 5 ([some (.ref 69), some (.int x1), some (.int x2)], [.int z18], (0, 0), hp2) _ from ?_)
        refine bs_ifeq rfl (fun c19 => ?_) (fun c19 => ?_)
        · skip
          refine bs_lit (k := 0) rfl rfl fun z20 hz20 => ?_
          refine bs_zret rfl rfl (by omega) (by omega) ?_
          rw [← hQ3]
          refine (show Ev _ 11 ([some (.ref 69), some (.int x1), some (.int x2), some (.int x3)], [.int z20], (0, 0), hp2) _ from ?_)
          refine bs_ifeq rfl (fun c21 => ?_) (fun c21 => ?_)
          · skip
            refine bs_lit (k := -1) rfl rfl fun z22 hz22 => ?_
            exact Ev.ret rfl rfl (by rw [hQ]; exact ⟨t, Hhp2, Fhp2, bs_an0, sf_S_nil⟩)
          · exfalso; omega
        · exfalso; omega
      · skip
        refine bs_lit (k := 1) rfl rfl fun z23 hz23 => ?_
        refine Ev.step (j := 15) (s' := ([some (.int x1), some (.int z5), some (.int z9)], [.int z23], (0, 0), hp2)) rfl rfl ?_
        refine bs_zret rfl rfl (by omega) (by omega) ?_
        rw [← hQ10]
        refine (show Ev _ 13 ([some (.ref 69), some (.int x1)], [.int z23], (0, 0), hp2) _ from ?_)
        refine bs_zret rfl rfl (by omega) (by omega) ?_
        rw [← hQ4]
        refine (show Ev _ 5 ([some (.ref 69), some (.int x1), some (.int x2)], [.int z23], (0, 0), hp2) _ from ?_)
        refine bs_ifeq rfl (fun c24 => ?_) (fun c24 => ?_)
        · exfalso; omega
        · skip
          refine Ev.step (j := 9) (s' := ([some (.ref 69), some (.int x1), some (.int x2)], [.ref 69], (0, 0), hp2)) rfl rfl ?_
          refine Ev.step (j := 10) (s' := ([some (.ref 69), some (.int x1), some (.int x2)], [.int x2, .ref 69], (0, 0), hp2)) rfl rfl ?_
          refine Ev.inl (L := (L_X11_isShore Z_X11_isIn)) (nL := 2) rfl (bs_rcv (g := 11) Hhp2 (bs_R.uq Hhp2 (g := 11) rfl) (by decide) rfl) rfl (Nat.le_of_ble_eq_true rfl) ?_
          generalize hQ25 : (fun (o : ab_O) => Ev _ _ _ _) = Q25
          refine (show Ev (ab_T (L_X11_isShore Z_X11_isIn)) 0 ([some (.ref 69), some (.int x2)], [], (0, 0), hp2) Q25 from ?_)
          refine Ev.step (j := 1) (s' := ([some (.ref 69), some (.int x2)], [.int x2], (0, 0), hp2)) rfl rfl ?_
          refine bs_lit (k := 0) rfl rfl fun z26 hz26 => ?_
          refine bs_lit (k := 1) rfl rfl fun z27 hz27 => ?_
          refine Ev.inlS (L := L_X11_isIn) (nL := 3) rfl rfl (Nat.le_of_ble_eq_true rfl) ?_
          generalize hQ28 : (fun (o : ab_O) => Ev _ _ _ _) = Q28
          refine (show Ev (ab_T L_X11_isIn) 0 ([some (.int x2), some (.int z26), some (.int z27)], [], (0, 0), hp2) Q28 from ?_)
          refine Ev.step (j := 1) (s' := ([some (.int x2), some (.int z26), some (.int z27)], [.int x2], (0, 0), hp2)) rfl rfl ?_
          refine Ev.step (j := 2) (s' := ([some (.int x2), some (.int z26), some (.int z27)], [.int z26, .int x2], (0, 0), hp2)) rfl rfl ?_
          refine bs_lt rfl (fun c29 => ?_) (fun c29 => ?_)
          · skip
            refine bs_lit (k := 0) rfl rfl fun z30 hz30 => ?_
            refine bs_zret rfl rfl (by omega) (by omega) ?_
            rw [← hQ28]
            refine (show Ev _ 6 ([some (.ref 69), some (.int x2)], [.int z30], (0, 0), hp2) _ from ?_)
            refine bs_zret rfl rfl (by omega) (by omega) ?_
            rw [← hQ25]
            refine (show Ev _ 13 ([some (.ref 69), some (.int x1), some (.int x2)], [.int z30], (0, 0), hp2) _ from ?_)
            refine bs_ifeq rfl (fun c31 => ?_) (fun c31 => ?_)
            · skip
              refine bs_lit (k := 0) rfl rfl fun z32 hz32 => ?_
              refine bs_zret rfl rfl (by omega) (by omega) ?_
              rw [← hQ3]
              refine (show Ev _ 11 ([some (.ref 69), some (.int x1), some (.int x2), some (.int x3)], [.int z32], (0, 0), hp2) _ from ?_)
              refine bs_ifeq rfl (fun c33 => ?_) (fun c33 => ?_)
              · skip
                refine bs_lit (k := -1) rfl rfl fun z34 hz34 => ?_
                exact Ev.ret rfl rfl (by rw [hQ]; exact ⟨t, Hhp2, Fhp2, bs_an0, sf_S_nil⟩)
              · exfalso; omega
            · exfalso; omega
          · skip
            refine Ev.step (j := 6) (s' := ([some (.int x2), some (.int z26), some (.int z27)], [.int x2], (0, 0), hp2)) rfl rfl ?_
            refine Ev.step (j := 7) (s' := ([some (.int x2), some (.int z26), some (.int z27)], [.int z27, .int x2], (0, 0), hp2)) rfl rfl ?_
            refine bs_gt rfl (fun c35 => ?_) (fun c35 => ?_)
            · skip
              refine bs_lit (k := 0) rfl rfl fun z36 hz36 => ?_
              refine bs_zret rfl rfl (by omega) (by omega) ?_
              rw [← hQ28]
              refine (show Ev _ 6 ([some (.ref 69), some (.int x2)], [.int z36], (0, 0), hp2) _ from ?_)
              refine bs_zret rfl rfl (by omega) (by omega) ?_
              rw [← hQ25]
              refine (show Ev _ 13 ([some (.ref 69), some (.int x1), some (.int x2)], [.int z36], (0, 0), hp2) _ from ?_)
              refine bs_ifeq rfl (fun c37 => ?_) (fun c37 => ?_)
              · skip
                refine bs_lit (k := 0) rfl rfl fun z38 hz38 => ?_
                refine bs_zret rfl rfl (by omega) (by omega) ?_
                rw [← hQ3]
                refine (show Ev _ 11 ([some (.ref 69), some (.int x1), some (.int x2), some (.int x3)], [.int z38], (0, 0), hp2) _ from ?_)
                refine bs_ifeq rfl (fun c39 => ?_) (fun c39 => ?_)
                · skip
                  refine bs_lit (k := -1) rfl rfl fun z40 hz40 => ?_
                  exact Ev.ret rfl rfl (by rw [hQ]; exact ⟨t, Hhp2, Fhp2, bs_an0, sf_S_nil⟩)
                · exfalso; omega
              · exfalso; omega
            · skip
              refine bs_lit (k := 1) rfl rfl fun z41 hz41 => ?_
              refine Ev.step (j := 15) (s' := ([some (.int x2), some (.int z26), some (.int z27)], [.int z41], (0, 0), hp2)) rfl rfl ?_
              refine bs_zret rfl rfl (by omega) (by omega) ?_
              rw [← hQ28]
              refine (show Ev _ 6 ([some (.ref 69), some (.int x2)], [.int z41], (0, 0), hp2) _ from ?_)
              refine bs_zret rfl rfl (by omega) (by omega) ?_
              rw [← hQ25]
              refine (show Ev _ 13 ([some (.ref 69), some (.int x1), some (.int x2)], [.int z41], (0, 0), hp2) _ from ?_)
              refine bs_ifeq rfl (fun c42 => ?_) (fun c42 => ?_)
              · exfalso; omega
              · skip
                refine bs_lit (k := 1) rfl rfl fun z43 hz43 => ?_
                refine Ev.step (j := 21) (s' := ([some (.ref 69), some (.int x1), some (.int x2)], [.int z43], (0, 0), hp2)) rfl rfl ?_
                refine bs_zret rfl rfl (by omega) (by omega) ?_
                rw [← hQ3]
                refine (show Ev _ 11 ([some (.ref 69), some (.int x1), some (.int x2), some (.int x3)], [.int z43], (0, 0), hp2) _ from ?_)
                refine bs_ifeq rfl (fun c44 => ?_) (fun c44 => ?_)
                · exfalso; omega
                · skip
                  refine Ev.step (j := 15) (s' := ([some (.ref 69), some (.int x1), some (.int x2), some (.int x3)], [.int x3], (0, 0), hp2)) rfl rfl ?_
                  refine bs_lit (k := 1) rfl rfl fun z45 hz45 => ?_
                  refine bs_lit (k := 250) rfl rfl fun z46 hz46 => ?_
                  refine Ev.inlS (L := L_X11_isIn) (nL := 3) rfl rfl (Nat.le_of_ble_eq_true rfl) ?_
                  generalize hQ47 : (fun (o : ab_O) => Ev _ _ _ _) = Q47
                  refine (show Ev (ab_T L_X11_isIn) 0 ([some (.int x3), some (.int z45), some (.int z46)], [], (0, 0), hp2) Q47 from ?_)
                  refine Ev.step (j := 1) (s' := ([some (.int x3), some (.int z45), some (.int z46)], [.int x3], (0, 0), hp2)) rfl rfl ?_
                  refine Ev.step (j := 2) (s' := ([some (.int x3), some (.int z45), some (.int z46)], [.int z45, .int x3], (0, 0), hp2)) rfl rfl ?_
                  refine bs_lt rfl (fun c48 => ?_) (fun c48 => ?_)
                  · skip
                    refine bs_lit (k := 0) rfl rfl fun z49 hz49 => ?_
                    refine bs_zret rfl rfl (by omega) (by omega) ?_
                    rw [← hQ47]
                    refine (show Ev _ 22 ([some (.ref 69), some (.int x1), some (.int x2), some (.int x3)], [.int z49], (0, 0), hp2) _ from ?_)
                    refine bs_ifne rfl (fun c50 => ?_) (fun c50 => ?_)
                    · exfalso; omega
                    · skip
                      refine bs_lit (k := -1) rfl rfl fun z51 hz51 => ?_
                      exact Ev.ret rfl rfl (by rw [hQ]; exact ⟨t, Hhp2, Fhp2, bs_an0, sf_S_nil⟩)
                  · skip
                    refine Ev.step (j := 6) (s' := ([some (.int x3), some (.int z45), some (.int z46)], [.int x3], (0, 0), hp2)) rfl rfl ?_
                    refine Ev.step (j := 7) (s' := ([some (.int x3), some (.int z45), some (.int z46)], [.int z46, .int x3], (0, 0), hp2)) rfl rfl ?_
                    refine bs_gt rfl (fun c52 => ?_) (fun c52 => ?_)
                    · skip
                      refine bs_lit (k := 0) rfl rfl fun z53 hz53 => ?_
                      refine bs_zret rfl rfl (by omega) (by omega) ?_
                      rw [← hQ47]
                      refine (show Ev _ 22 ([some (.ref 69), some (.int x1), some (.int x2), some (.int x3)], [.int z53], (0, 0), hp2) _ from ?_)
                      refine bs_ifne rfl (fun c54 => ?_) (fun c54 => ?_)
                      · exfalso; omega
                      · skip
                        refine bs_lit (k := -1) rfl rfl fun z55 hz55 => ?_
                        exact Ev.ret rfl rfl (by rw [hQ]; exact ⟨t, Hhp2, Fhp2, bs_an0, sf_S_nil⟩)
                    · skip
                      refine bs_lit (k := 1) rfl rfl fun z56 hz56 => ?_
                      refine Ev.step (j := 15) (s' := ([some (.int x3), some (.int z45), some (.int z46)], [.int z56], (0, 0), hp2)) rfl rfl ?_
                      refine bs_zret rfl rfl (by omega) (by omega) ?_
                      rw [← hQ47]
                      refine (show Ev _ 22 ([some (.ref 69), some (.int x1), some (.int x2), some (.int x3)], [.int z56], (0, 0), hp2) _ from ?_)
                      refine bs_ifne rfl (fun c57 => ?_) (fun c57 => ?_)
                      · skip
                        refine Ev.step (j := 28) (s' := ([some (.ref 69), some (.int x1), some (.int x2), some (.int x3)], [.ref 69], (0, 0), hp2)) rfl rfl ?_
                        refine Ev.step (j := 29) (s' := ([some (.ref 69), some (.int x1), some (.int x2), some (.int x3)], [.int x1, .ref 69], (0, 0), hp2)) rfl rfl ?_
                        refine Ev.step (j := 30) (s' := ([some (.ref 69), some (.int x1), some (.int x2), some (.int x3)], [.int x2, .int x1, .ref 69], (0, 0), hp2)) rfl rfl ?_
                        refine Ev.inlS (L := L_X11_cell) (nL := 2) rfl rfl (Nat.le_of_ble_eq_true rfl) ?_
                        generalize hQ58 : (fun (o : ab_O) => Ev _ _ _ _) = Q58
                        refine (show Ev (ab_T L_X11_cell) 0 ([some (.int x1), some (.int x2)], [], (0, 0), hp2) Q58 from ?_)
                        refine bs_lit (k := 2) rfl rfl fun z59 hz59 => ?_
                        refine Ev.step (j := 2) (s' := ([some (.int x1), some (.int x2)], [.int x1, .int z59], (0, 0), hp2)) rfl rfl ?_
                        refine bs_mul (2) rfl (Or.inl hz59) (by rw [hz59]; omega) (by rw [hz59]; omega) fun z60 hz60 => ?_
                        rw [hz59] at hz60
                        refine Ev.step (j := 4) (s' := ([some (.int x1), some (.int x2)], [.int x2, .int z60], (0, 0), hp2)) rfl rfl ?_
                        first | (refine bs_add rfl (by omega) (by omega) fun z61 hz61 => ?_) | (refine bs_any rfl fun z61 => ?_)
                        have rz61 := n_range z61
                        refine Ev.ret rfl rfl ?_
                        rw [← hQ58]
                        refine (show Ev _ 33 ([some (.ref 69), some (.int x1), some (.int x2), some (.int x3)], [.int z61, .ref 69], (0, 0), hp2) _ from ?_)
                        refine Ev.step (j := 34) (s' := ([some (.ref 69), some (.int x1), some (.int x2), some (.int x3)], [.int x3, .int z61, .ref 69], (0, 0), hp2)) rfl rfl ?_
                        refine Ev.inl (L := L_X11_whyHoard) (nL := 3) rfl (bs_rcv (g := 11) Hhp2 (bs_R.uq Hhp2 (g := 11) rfl) (by decide) rfl) rfl (Nat.le_of_ble_eq_true rfl) ?_
                        generalize hQ62 : (fun (o : ab_O) => Ev _ _ _ _) = Q62
                        refine (show Ev (ab_T L_X11_whyHoard) 0 ([some (.ref 69), some (.int z61), some (.int x3)], [], (0, 0), hp2) Q62 from ?_)
                        refine Ev.step (j := 1) (s' := ([some (.ref 69), some (.int z61), some (.int x3)], [.ref 69], (0, 0), hp2)) rfl rfl ?_
                        refine bs_getU (g := 11) (g1 := 132) rfl rfl Hhp2 (bs_R.uq Hhp2 (g := 11) rfl) (by decide) rfl rfl ?_
                        refine bs_lit (k := 124) rfl rfl fun z63 hz63 => ?_
                        refine Ev.step (j := 7) (s' := ([some (.ref 69), some (.int z61), some (.int x3)], [.int z61, .int z63, .ref 71], (0, 0), hp2)) rfl rfl ?_
                        first | (refine bs_add rfl (by omega) (by omega) fun z64 hz64 => ?_) | (refine bs_any rfl fun z64 => ?_)
                        have rz64 := n_range z64
                        refine bs_ld (g := 132) 124 135 (0, 999) rfl Hhp2 (bs_R.uq Hhp2 (g := 132) rfl) (by decide) rfl (by decide) (by decide) rfl (by decide) (by omega) (by omega) fun z65 hz65 lz65 gz65 => ?_
                        dsimp only at lz65 gz65
                        refine Ev.step (j := 10) (s' := ([some (.ref 69), some (.int z61), some (.int x3)], [.int x3, .int z65], (0, 0), hp2)) rfl rfl ?_
                        refine bs_ge rfl (fun c66 => ?_) (fun c66 => ?_)
                        · skip
                          refine bs_lit (k := 0) rfl rfl fun z67 hz67 => ?_
                          refine Ev.ret rfl rfl ?_
                          rw [← hQ62]
                          refine (show Ev _ 37 ([some (.ref 69), some (.int x1), some (.int x2), some (.int x3)], [.int z67], (0, 0), hp2) _ from ?_)
                          refine bs_ifle rfl (fun c68 => ?_) (fun c68 => ?_)
                          · skip
                            refine Ev.step (j := 43) (s' := ([some (.ref 69), some (.int x1), some (.int x2), some (.int x3)], [.ref 69], (0, 0), hp2)) rfl rfl ?_
                            refine bs_call (K := kq_X11_keep_h) [.ref 69] [] rfl ct_X11_keep_h Hhp2 rfl rfl rfl (bs_rcv (g := 11) Hhp2 (bs_R.uq Hhp2 (g := 11) rfl) (by decide) rfl) rfl ?_ (sf_S_nil) fun r69 hp70 thp70 Hhp70 fhp70 ahp70 php70 => ?_
                            · intro q k h
                              match q, h with
                              | 0, h => cases h; exact bs_jR (bs_R.uq Hhp2 (g := 11) rfl)
                              | q + 1, h => cases h
                            obtain rfl := ahp70.1 rfl
                            have Fhp70 := sf_fr_tr Fhp2 (sf_fr_wider (W := [(11, 0, 0), (11, 25, 25), (132, 124, 135), (138, 0, 1063)]) rfl fhp70)
                            have h71 : sf_rd hp70 69 0 = some z1.toInt := (fhp70.2.2.1 _ (bs_R.uq Hhp2 (g := 11) (p := 69) rfl).1 _ (by rw [(bs_R.uq Hhp2 (g := 11) (p := 69) rfl).2]; rfl)).trans rhp2
                            have h72 : sf_rd hp70 71 0 = some z7.toInt := (fhp70.2.2.1 _ (bs_R.uq Hhp2 (g := 132) (p := 71) rfl).1 _ (by rw [(bs_R.uq Hhp2 (g := 132) (p := 71) rfl).2]; rfl)).trans hz7
                            have h73 : sf_rd hp70 71 z64.toInt.toNat = some z65.toInt := (fhp70.2.2.1 _ (bs_R.uq Hhp2 (g := 132) (p := 71) rfl).1 _ (by rw [(bs_R.uq Hhp2 (g := 132) (p := 71) rfl).2]; rfl)).trans hz65
                            refine (show Ev _ 46 ([some (.ref 69), some (.int x1), some (.int x2), some (.int x3)], [], (0, 0), hp70) _ from ?_)
                            refine Ev.step (j := 47) (s' := ([some (.ref 69), some (.int x1), some (.int x2), some (.int x3)], [.ref 69], (0, 0), hp70)) rfl rfl ?_
                            refine bs_getU (g := 11) (g1 := 132) rfl rfl Hhp70 (bs_R.uq Hhp70 (g := 11) rfl) (by decide) rfl rfl ?_
                            refine bs_lit (k := 124) rfl rfl fun z74 hz74 => ?_
                            refine Ev.step (j := 53) (s' := ([some (.ref 69), some (.int x1), some (.int x2), some (.int x3)], [.int x1, .int z74, .ref 71], (0, 0), hp70)) rfl rfl ?_
                            refine Ev.step (j := 54) (s' := ([some (.ref 69), some (.int x1), some (.int x2), some (.int x3)], [.int x2, .int x1, .int z74, .ref 71], (0, 0), hp70)) rfl rfl ?_
                            refine Ev.inlS (L := L_X11_cell) (nL := 2) rfl rfl (Nat.le_of_ble_eq_true rfl) ?_
                            generalize hQ75 : (fun (o : ab_O) => Ev _ _ _ _) = Q75
                            refine (show Ev (ab_T L_X11_cell) 0 ([some (.int x1), some (.int x2)], [], (0, 0), hp70) Q75 from ?_)
                            refine bs_lit (k := 2) rfl rfl fun z76 hz76 => ?_
                            refine Ev.step (j := 2) (s' := ([some (.int x1), some (.int x2)], [.int x1, .int z76], (0, 0), hp70)) rfl rfl ?_
                            refine bs_mul (2) rfl (Or.inl hz76) (by rw [hz76]; omega) (by rw [hz76]; omega) fun z77 hz77 => ?_
                            rw [hz76] at hz77
                            refine Ev.step (j := 4) (s' := ([some (.int x1), some (.int x2)], [.int x2, .int z77], (0, 0), hp70)) rfl rfl ?_
                            first | (refine bs_add rfl (by omega) (by omega) fun z78 hz78 => ?_) | (refine bs_any rfl fun z78 => ?_)
                            have rz78 := n_range z78
                            refine Ev.ret rfl rfl ?_
                            rw [← hQ75]
                            refine (show Ev _ 57 ([some (.ref 69), some (.int x1), some (.int x2), some (.int x3)], [.int z78, .int z74, .ref 71], (0, 0), hp70) _ from ?_)
                            first | (refine bs_add rfl (by omega) (by omega) fun z79 hz79 => ?_) | (refine bs_any rfl fun z79 => ?_)
                            have rz79 := n_range z79
                            refine Ev.step (j := 59) (s' := ([some (.ref 69), some (.int x1), some (.int x2), some (.int x3)], [.int z79, .ref 71, .int z79, .ref 71], (0, 0), hp70)) rfl rfl ?_
                            refine bs_ld (g := 132) 124 135 (0, 999) rfl Hhp70 (bs_R.uq Hhp70 (g := 132) rfl) (by decide) rfl (by decide) (by decide) rfl (by decide) (by omega) (by omega) fun z80 hz80 lz80 gz80 => ?_
                            dsimp only at lz80 gz80
                            have e81 : z80.toInt = z65.toInt := Option.some.inj ((bs_at hz80 (by omega)).symm.trans ((fhp70.2.2.1 _ (bs_R.uq Hhp2 (g := 132) (p := 71) rfl).1 _ (by rw [(bs_R.uq Hhp2 (g := 132) (p := 71) rfl).2]; rfl)).trans hz65))
                            refine Ev.step (j := 61) (s' := ([some (.ref 69), some (.int x1), some (.int x2), some (.int x3)], [.int x3, .int z80, .int z79, .ref 71], (0, 0), hp70)) rfl rfl ?_
                            first | (refine bs_sub rfl (by omega) (by omega) fun z82 hz82 => ?_) | (refine bs_any rfl fun z82 => ?_)
                            have rz82 := n_range z82
                            refine bs_st (W := [(132, 124, 135)]) (g := 132) 124 135 (0, 999) rfl Hhp70 (bs_R.uq Hhp70 (g := 132) rfl) (by decide) rfl rfl (by decide) rfl rfl (by omega) (by omega) (by dsimp only; omega) (by dsimp only; omega) fun hp83 Hhp83 fhp83 rhp83 ehp83 qhp83 nhp83 => ?_
                            have Fhp83 := sf_fr_tr Fhp70 (sf_fr_wider (W := [(11, 0, 0), (11, 25, 25), (132, 124, 135), (138, 0, 1063)]) rfl fhp83)
                            have h84 : sf_rd hp83 69 0 = some z1.toInt := (ehp83 _ _ (Or.inl (by decide))).trans h71
                            have h85 : sf_rd hp83 71 0 = some z7.toInt := (ehp83 _ _ (Or.inr (by omega))).trans h72
                            refine bs_lit (k := 0) rfl rfl fun z86 hz86 => ?_
                            exact Ev.ret rfl rfl (by rw [hQ]; exact ⟨thp70, Hhp83, Fhp83, bs_an0, sf_S_nil⟩)
                          · exfalso; omega
                        · skip
                          refine bs_lit (k := 1) rfl rfl fun z87 hz87 => ?_
                          refine Ev.step (j := 18) (s' := ([some (.ref 69), some (.int z61), some (.int x3)], [.int z87], (0, 0), hp2)) rfl rfl ?_
                          refine Ev.ret rfl rfl ?_
                          rw [← hQ62]
                          refine (show Ev _ 37 ([some (.ref 69), some (.int x1), some (.int x2), some (.int x3)], [.int z87], (0, 0), hp2) _ from ?_)
                          refine bs_ifle rfl (fun c88 => ?_) (fun c88 => ?_)
                          · exfalso; omega
                          · skip
                            refine bs_lit (k := 1) rfl rfl fun z89 hz89 => ?_
                            exact Ev.ret rfl rfl (by rw [hQ]; exact ⟨t, Hhp2, Fhp2, bs_an0, sf_S_nil⟩)
                      · exfalso; omega
def kq_X11_goes_h : sf_Q := ([(1, 11, 0), (0, 0, 0)], [], some (0, 0, 0), [], [(11, 0, 0), (11, 22, 22)])
set_option maxRecDepth 100000 in
set_option maxHeartbeats 4000000 in
theorem ct_X11_goes_h : sf_ct kq_X11_goes_h Z_X11_goes := by
  intro t hp as H hl hj hpre
  match as, hl with
  | [v0, v1], _ =>
    obtain ⟨a0, rfl, ra0⟩ := bs_aR (hj 0 _ rfl)
    obtain rfl := ra0.eq H (p := 69) rfl
    obtain ⟨x1, rfl⟩ := bs_aI (hj 1 _ rfl)
    have rg1 := n_range x1
    clear hpre hj
    have F0 : sf_fr [(11, 0, 0), (11, 22, 22)] t hp t hp := sf_fr_rf
    refine bs_fin (K := kq_X11_goes_h) (L := (L_X11_goes Z_X11_isGood Z_X11_goingSet Z_X11_goesOf)) (nL := 3) (Nat.le_of_ble_eq_true rfl) ?_
    obtain ⟨Q, hQ⟩ : ∃ Q : ab_O → Prop, Q = (fun o => ∃ t', sf_h t' o.2 ∧ sf_fr (kq_X11_goes_h).2.2.2.2 t hp t' o.2 ∧ sf_an t' o.2.1 (kq_X11_goes_h).2.2.1 o.1 ∧ sf_S (sf_v1 o.1 [.ref 69, .int x1] o.2) (kq_X11_goes_h).2.2.2.1) := ⟨_, rfl⟩
    rw [← hQ]
    refine (show Ev (ab_T (L_X11_goes Z_X11_isGood Z_X11_goingSet Z_X11_goesOf)) 0 ([some (.ref 69), some (.int x1), none], [], (0, 0), hp) Q from ?_)
    refine Ev.step (j := 1) (s' := ([some (.ref 69), some (.int x1), none], [.ref 69], (0, 0), hp)) rfl rfl ?_
    refine bs_lit (k := 0) rfl rfl fun z1 hz1 => ?_
    refine bs_putI (W := [(11, 0, 0)]) (g := 11) rfl rfl H (bs_R.uq H (g := 11) rfl) (by decide) rfl rfl rfl rfl (Or.inl rfl) (by omega) (by omega) fun hp2 Hhp2 fhp2 rhp2 ehp2 qhp2 nhp2 => ?_
    have Fhp2 := sf_fr_tr F0 (sf_fr_wider (W := [(11, 0, 0), (11, 22, 22)]) rfl fhp2)
    refine Ev.step (j := 6) (s' := ([some (.ref 69), some (.int x1), none], [.ref 69], (0, 0), hp2)) rfl rfl ?_
    refine Ev.step (j := 7) (s' := ([some (.ref 69), some (.int x1), none], [.int x1, .ref 69], (0, 0), hp2)) rfl rfl ?_
    refine Ev.inl (L := (L_X11_isGood Z_X11_isIn)) (nL := 2) rfl (bs_rcv (g := 11) Hhp2 (bs_R.uq Hhp2 (g := 11) rfl) (by decide) rfl) rfl (Nat.le_of_ble_eq_true rfl) ?_
    generalize hQ3 : (fun (o : ab_O) => Ev _ _ _ _) = Q3
    refine (show Ev (ab_T (L_X11_isGood Z_X11_isIn)) 0 ([some (.ref 69), some (.int x1)], [], (0, 0), hp2) Q3 from ?_)
    refine Ev.step (j := 1) (s' := ([some (.ref 69), some (.int x1)], [.int x1], (0, 0), hp2)) rfl rfl ?_
    refine bs_lit (k := 0) rfl rfl fun z4 hz4 => ?_
    refine Ev.step (j := 3) (s' := ([some (.ref 69), some (.int x1)], [.ref 69, .int z4, .int x1], (0, 0), hp2)) rfl rfl ?_
    refine bs_getU (g := 11) (g1 := 132) rfl rfl Hhp2 (bs_R.uq Hhp2 (g := 11) rfl) (by decide) rfl rfl ?_
    refine bs_lit (k := 0) rfl rfl fun z5 hz5 => ?_
    refine bs_ld (g := 132) 0 0 (0, 6) rfl Hhp2 (bs_R.uq Hhp2 (g := 132) rfl) (by decide) rfl (by decide) (by decide) rfl (by decide) (by omega) (by omega) fun z6 hz6 lz6 gz6 => ?_
    dsimp only at lz6 gz6
    replace hz6 := bs_at hz6 (show z5.toInt.toNat = 0 by omega)
    refine bs_lit (k := 1) rfl rfl fun z7 hz7 => ?_
    first | (refine bs_sub rfl (by omega) (by omega) fun z8 hz8 => ?_) | (refine bs_any rfl fun z8 => ?_)
    have rz8 := n_range z8
    refine Ev.inlS (L := L_X11_isIn) (nL := 3) rfl rfl (Nat.le_of_ble_eq_true rfl) ?_
    generalize hQ9 : (fun (o : ab_O) => Ev _ _ _ _) = Q9
    refine (show Ev (ab_T L_X11_isIn) 0 ([some (.int x1), some (.int z4), some (.int z8)], [], (0, 0), hp2) Q9 from ?_)
    refine Ev.step (j := 1) (s' := ([some (.int x1), some (.int z4), some (.int z8)], [.int x1], (0, 0), hp2)) rfl rfl ?_
    refine Ev.step (j := 2) (s' := ([some (.int x1), some (.int z4), some (.int z8)], [.int z4, .int x1], (0, 0), hp2)) rfl rfl ?_
    refine bs_lt rfl (fun c10 => ?_) (fun c10 => ?_)
    · skip
      refine bs_lit (k := 0) rfl rfl fun z11 hz11 => ?_
      refine bs_zret rfl rfl (by omega) (by omega) ?_
      rw [← hQ9]
      refine (show Ev _ 13 ([some (.ref 69), some (.int x1)], [.int z11], (0, 0), hp2) _ from ?_)
      refine bs_zret rfl rfl (by omega) (by omega) ?_
      rw [← hQ3]
      refine (show Ev _ 10 ([some (.ref 69), some (.int x1), none], [.int z11], (0, 0), hp2) _ from ?_)
      refine bs_ifne rfl (fun c12 => ?_) (fun c12 => ?_)
      · exfalso; omega
      · skip
        refine bs_lit (k := -1) rfl rfl fun z13 hz13 => ?_
        exact Ev.ret rfl rfl (by rw [hQ]; exact ⟨t, Hhp2, Fhp2, bs_an0, sf_S_nil⟩)
    · skip
      refine Ev.step (j := 6) (s' := ([some (.int x1), some (.int z4), some (.int z8)], [.int x1], (0, 0), hp2)) rfl rfl ?_
      refine Ev.step (j := 7) (s' := ([some (.int x1), some (.int z4), some (.int z8)], [.int z8, .int x1], (0, 0), hp2)) rfl rfl ?_
      refine bs_gt rfl (fun c14 => ?_) (fun c14 => ?_)
      · skip
        refine bs_lit (k := 0) rfl rfl fun z15 hz15 => ?_
        refine bs_zret rfl rfl (by omega) (by omega) ?_
        rw [← hQ9]
        refine (show Ev _ 13 ([some (.ref 69), some (.int x1)], [.int z15], (0, 0), hp2) _ from ?_)
        refine bs_zret rfl rfl (by omega) (by omega) ?_
        rw [← hQ3]
        refine (show Ev _ 10 ([some (.ref 69), some (.int x1), none], [.int z15], (0, 0), hp2) _ from ?_)
        refine bs_ifne rfl (fun c16 => ?_) (fun c16 => ?_)
        · exfalso; omega
        · skip
          refine bs_lit (k := -1) rfl rfl fun z17 hz17 => ?_
          exact Ev.ret rfl rfl (by rw [hQ]; exact ⟨t, Hhp2, Fhp2, bs_an0, sf_S_nil⟩)
      · skip
        refine bs_lit (k := 1) rfl rfl fun z18 hz18 => ?_
        refine Ev.step (j := 15) (s' := ([some (.int x1), some (.int z4), some (.int z8)], [.int z18], (0, 0), hp2)) rfl rfl ?_
        refine bs_zret rfl rfl (by omega) (by omega) ?_
        rw [← hQ9]
        refine (show Ev _ 13 ([some (.ref 69), some (.int x1)], [.int z18], (0, 0), hp2) _ from ?_)
        refine bs_zret rfl rfl (by omega) (by omega) ?_
        rw [← hQ3]
        refine (show Ev _ 10 ([some (.ref 69), some (.int x1), none], [.int z18], (0, 0), hp2) _ from ?_)
        refine bs_ifne rfl (fun c19 => ?_) (fun c19 => ?_)
        · skip
          refine Ev.step (j := 16) (s' := ([some (.ref 69), some (.int x1), none], [.ref 69], (0, 0), hp2)) rfl rfl ?_
          refine bs_getU (g := 11) (g1 := 132) rfl rfl Hhp2 (bs_R.uq Hhp2 (g := 11) rfl) (by decide) rfl rfl ?_
          refine bs_lit (k := 120) rfl rfl fun z20 hz20 => ?_
          refine bs_ld (g := 132) 120 120 (0, 400) rfl Hhp2 (bs_R.uq Hhp2 (g := 132) rfl) (by decide) rfl (by decide) (by decide) rfl (by decide) (by omega) (by omega) fun z21 hz21 lz21 gz21 => ?_
          dsimp only at lz21 gz21
          replace hz21 := bs_at hz21 (show z20.toInt.toNat = 120 by omega)
          refine bs_lit (k := 400) rfl rfl fun z22 hz22 => ?_
          refine bs_ne rfl (fun c23 => ?_) (fun c23 => ?_)
          · skip
            refine Ev.step (j := 31) (s' := ([some (.ref 69), some (.int x1), none], [.ref 69], (0, 0), hp2)) rfl rfl ?_
            refine bs_call (K := kq_X11_goingSet_6afe8b) [.ref 69] [] rfl ct_X11_goingSet_6afe8b Hhp2 rfl rfl rfl (bs_rcv (g := 11) Hhp2 (bs_R.uq Hhp2 (g := 11) rfl) (by decide) rfl) rfl ?_ (sf_S_nil) fun r24 hp25 thp25 Hhp25 fhp25 ahp25 php25 => ?_
            · intro q k h
              match q, h with
              | 0, h => cases h; exact bs_jR (bs_R.uq Hhp2 (g := 11) rfl)
              | q + 1, h => cases h
            obtain ⟨z26, rfl⟩ := bs_anI ahp25
            have rgz26 := n_range z26
            have Fhp25 := sf_fr_tr Fhp2 (sf_fr_wider (W := [(11, 0, 0), (11, 22, 22)]) rfl fhp25)
            have h27 : sf_rd hp25 69 0 = some z1.toInt := (fhp25.2.2.1 _ (bs_R.uq Hhp2 (g := 11) (p := 69) rfl).1 _ (by rw [(bs_R.uq Hhp2 (g := 11) (p := 69) rfl).2]; rfl)).trans rhp2
            have h28 : sf_rd hp25 71 0 = some z6.toInt := (fhp25.2.2.1 _ (bs_R.uq Hhp2 (g := 132) (p := 71) rfl).1 _ (by rw [(bs_R.uq Hhp2 (g := 132) (p := 71) rfl).2]; rfl)).trans hz6
            have h29 : sf_rd hp25 71 120 = some z21.toInt := (fhp25.2.2.1 _ (bs_R.uq Hhp2 (g := 132) (p := 71) rfl).1 _ (by rw [(bs_R.uq Hhp2 (g := 132) (p := 71) rfl).2]; rfl)).trans hz21
            refine (show Ev _ 34 ([some (.ref 69), some (.int x1), none], [.int z26], (0, 0), hp25) _ from ?_)
            refine Ev.step (j := 35) (s' := ([some (.ref 69), some (.int x1), none], [], (0, 0), hp25)) rfl rfl ?_
            refine bs_lit (k := 0) rfl rfl fun z30 hz30 => ?_
            refine Ev.step (j := 37) (s' := ([some (.ref 69), some (.int x1), some (.int z30)], [], (0, 0), hp25)) rfl rfl ?_
            refine bs_loop (ι := Int32 × ab_H × (Nat → Nat)) (fun ⟨k31, hp32, t33⟩ => ([some (.ref 69), some (.int x1), some (.int k31)], [], (0, 0), hp32)) (fun ⟨k31, hp32, t33⟩ => (sf_h t33 hp32) ∧ (sf_fr [(11, 0, 0), (11, 22, 22)] t hp t33 hp32) ∧ (0 ≤ k31.toInt ∧ k31.toInt ≤ x1.toInt)) (fun ⟨k31, hp32, t33⟩ => (x1.toInt - k31.toInt).toNat) ?_ (z30, hp25, thp25) ⟨Hhp25, Fhp25, (by first | omega | assumption)⟩
            rintro ⟨k31, hp32, t33⟩ ⟨Hhp32, Fhp32, i35⟩ ih34
            refine (show Ev _ 37 ([some (.ref 69), some (.int x1), some (.int k31)], [], (0, 0), hp32) _ from ?_)
            refine Ev.step (j := 38) (s' := ([some (.ref 69), some (.int x1), some (.int k31)], [.int k31], (0, 0), hp32)) rfl rfl ?_
            refine Ev.step (j := 39) (s' := ([some (.ref 69), some (.int x1), some (.int k31)], [.int x1, .int k31], (0, 0), hp32)) rfl rfl ?_
            refine bs_ge rfl (fun c36 => ?_) (fun c36 => ?_)
            · skip
              refine Ev.step (j := 63) (s' := ([some (.ref 69), some (.int x1), some (.int k31)], [.ref 69], (0, 0), hp32)) rfl rfl ?_
              refine Ev.step (j := 64) (s' := ([some (.ref 69), some (.int x1), some (.int k31)], [.int x1, .ref 69], (0, 0), hp32)) rfl rfl ?_
              refine Ev.inl (L := (L_X11_goesOf Z_X11_cell Z_X11_lackOf Z_X11_lesser)) (nL := 3) rfl (bs_rcv (g := 11) Hhp32 (bs_R.uq Hhp32 (g := 11) rfl) (by decide) rfl) rfl (Nat.le_of_ble_eq_true rfl) ?_
              generalize hQ37 : (fun (o : ab_O) => Ev _ _ _ _) = Q37
              refine (show Ev (ab_T (L_X11_goesOf Z_X11_cell Z_X11_lackOf Z_X11_lesser)) 0 ([some (.ref 69), some (.int x1), none], [], (0, 0), hp32) Q37 from ?_)
              refine Ev.step (j := 1) (s' := ([some (.ref 69), some (.int x1), none], [.ref 69], (0, 0), hp32)) rfl rfl ?_
              refine bs_getU (g := 11) (g1 := 132) rfl rfl Hhp32 (bs_R.uq Hhp32 (g := 11) rfl) (by decide) rfl rfl ?_
              refine bs_lit (k := 120) rfl rfl fun z38 hz38 => ?_
              refine bs_ld (g := 132) 120 120 (0, 400) rfl Hhp32 (bs_R.uq Hhp32 (g := 132) rfl) (by decide) rfl (by decide) (by decide) rfl (by decide) (by omega) (by omega) fun z39 hz39 lz39 gz39 => ?_
              dsimp only at lz39 gz39
              replace hz39 := bs_at hz39 (show z38.toInt.toNat = 120 by omega)
              refine bs_lit (k := 2) rfl rfl fun z40 hz40 => ?_
              refine bs_rem 2 rfl hz40 (by decide) (by omega) fun z41 hz41 => ?_
              refine Ev.step (j := 10) (s' := ([some (.ref 69), some (.int x1), some (.int z41)], [], (0, 0), hp32)) rfl rfl ?_
              refine Ev.step (j := 11) (s' := ([some (.ref 69), some (.int x1), some (.int z41)], [.ref 69], (0, 0), hp32)) rfl rfl ?_
              refine bs_getI 11 rfl rfl rfl Hhp32 (bs_R.uq Hhp32 (g := 11) rfl) (by decide) rfl fun z42 hz42 lz42 gz42 => ?_
              refine Ev.step (j := 15) (s' := ([some (.ref 69), some (.int x1), some (.int z41)], [.ref 69, .int z42], (0, 0), hp32)) rfl rfl ?_
              refine bs_getU (g := 11) (g1 := 132) rfl rfl Hhp32 (bs_R.uq Hhp32 (g := 11) rfl) (by decide) rfl rfl ?_
              refine bs_lit (k := 124) rfl rfl fun z43 hz43 => ?_
              refine Ev.step (j := 21) (s' := ([some (.ref 69), some (.int x1), some (.int z41)], [.int x1, .int z43, .ref 71, .int z42], (0, 0), hp32)) rfl rfl ?_
              refine Ev.step (j := 22) (s' := ([some (.ref 69), some (.int x1), some (.int z41)], [.int z41, .int x1, .int z43, .ref 71, .int z42], (0, 0), hp32)) rfl rfl ?_
              refine Ev.inlS (L := L_X11_cell) (nL := 2) rfl rfl (Nat.le_of_ble_eq_true rfl) ?_
              generalize hQ44 : (fun (o : ab_O) => Ev _ _ _ _) = Q44
              refine (show Ev (ab_T L_X11_cell) 0 ([some (.int x1), some (.int z41)], [], (0, 0), hp32) Q44 from ?_)
              refine bs_lit (k := 2) rfl rfl fun z45 hz45 => ?_
              refine Ev.step (j := 2) (s' := ([some (.int x1), some (.int z41)], [.int x1, .int z45], (0, 0), hp32)) rfl rfl ?_
              refine bs_mul (2) rfl (Or.inl hz45) (by rw [hz45]; omega) (by rw [hz45]; omega) fun z46 hz46 => ?_
              rw [hz45] at hz46
              refine Ev.step (j := 4) (s' := ([some (.int x1), some (.int z41)], [.int z41, .int z46], (0, 0), hp32)) rfl rfl ?_
              first | (refine bs_add rfl (by omega) (by omega) fun z47 hz47 => ?_) | (refine bs_any rfl fun z47 => ?_)
              have rz47 := n_range z47
              refine Ev.ret rfl rfl ?_
              rw [← hQ44]
              refine (show Ev _ 25 ([some (.ref 69), some (.int x1), some (.int z41)], [.int z47, .int z43, .ref 71, .int z42], (0, 0), hp32) _ from ?_)
              first | (refine bs_add rfl (by omega) (by omega) fun z48 hz48 => ?_) | (refine bs_any rfl fun z48 => ?_)
              have rz48 := n_range z48
              refine bs_ld (g := 132) 124 135 (0, 999) rfl Hhp32 (bs_R.uq Hhp32 (g := 132) rfl) (by decide) rfl (by decide) (by decide) rfl (by decide) (by omega) (by omega) fun z49 hz49 lz49 gz49 => ?_
              dsimp only at lz49 gz49
              refine Ev.step (j := 28) (s' := ([some (.ref 69), some (.int x1), some (.int z41)], [.ref 69, .int z49, .int z42], (0, 0), hp32)) rfl rfl ?_
              refine Ev.step (j := 29) (s' := ([some (.ref 69), some (.int x1), some (.int z41)], [.int x1, .ref 69, .int z49, .int z42], (0, 0), hp32)) rfl rfl ?_
              refine bs_lit (k := 1) rfl rfl fun z50 hz50 => ?_
              refine Ev.step (j := 31) (s' := ([some (.ref 69), some (.int x1), some (.int z41)], [.int z41, .int z50, .int x1, .ref 69, .int z49, .int z42], (0, 0), hp32)) rfl rfl ?_
              first | (refine bs_sub rfl (by omega) (by omega) fun z51 hz51 => ?_) | (refine bs_any rfl fun z51 => ?_)
              have rz51 := n_range z51
              refine Ev.inl (L := (L_X11_lackOf Z_X11_cell)) (nL := 4) rfl (bs_rcv (g := 11) Hhp32 (bs_R.uq Hhp32 (g := 11) rfl) (by decide) rfl) rfl (Nat.le_of_ble_eq_true rfl) ?_
              generalize hQ52 : (fun (o : ab_O) => Ev _ _ _ _) = Q52
              refine (show Ev (ab_T (L_X11_lackOf Z_X11_cell)) 0 ([some (.ref 69), some (.int x1), some (.int z51), none], [], (0, 0), hp32) Q52 from ?_)
              refine Ev.step (j := 1) (s' := ([some (.ref 69), some (.int x1), some (.int z51), none], [.ref 69], (0, 0), hp32)) rfl rfl ?_
              refine bs_getU (g := 11) (g1 := 132) rfl rfl Hhp32 (bs_R.uq Hhp32 (g := 11) rfl) (by decide) rfl rfl ?_
              refine bs_lit (k := 16) rfl rfl fun z53 hz53 => ?_
              refine Ev.step (j := 7) (s' := ([some (.ref 69), some (.int x1), some (.int z51), none], [.int x1, .int z53, .ref 71], (0, 0), hp32)) rfl rfl ?_
              refine Ev.step (j := 8) (s' := ([some (.ref 69), some (.int x1), some (.int z51), none], [.int z51, .int x1, .int z53, .ref 71], (0, 0), hp32)) rfl rfl ?_
              refine Ev.inlS (L := L_X11_cell) (nL := 2) rfl rfl (Nat.le_of_ble_eq_true rfl) ?_
              generalize hQ54 : (fun (o : ab_O) => Ev _ _ _ _) = Q54
              refine (show Ev (ab_T L_X11_cell) 0 ([some (.int x1), some (.int z51)], [], (0, 0), hp32) Q54 from ?_)
              refine bs_lit (k := 2) rfl rfl fun z55 hz55 => ?_
              refine Ev.step (j := 2) (s' := ([some (.int x1), some (.int z51)], [.int x1, .int z55], (0, 0), hp32)) rfl rfl ?_
              refine bs_mul (2) rfl (Or.inl hz55) (by rw [hz55]; omega) (by rw [hz55]; omega) fun z56 hz56 => ?_
              rw [hz55] at hz56
              refine Ev.step (j := 4) (s' := ([some (.int x1), some (.int z51)], [.int z51, .int z56], (0, 0), hp32)) rfl rfl ?_
              first | (refine bs_add rfl (by omega) (by omega) fun z57 hz57 => ?_) | (refine bs_any rfl fun z57 => ?_)
              have rz57 := n_range z57
              refine Ev.ret rfl rfl ?_
              rw [← hQ54]
              refine (show Ev _ 11 ([some (.ref 69), some (.int x1), some (.int z51), none], [.int z57, .int z53, .ref 71], (0, 0), hp32) _ from ?_)
              first | (refine bs_add rfl (by omega) (by omega) fun z58 hz58 => ?_) | (refine bs_any rfl fun z58 => ?_)
              have rz58 := n_range z58
              refine bs_ld (g := 132) 16 27 (0, 250) rfl Hhp32 (bs_R.uq Hhp32 (g := 132) rfl) (by decide) rfl (by decide) (by decide) rfl (by decide) (by omega) (by omega) fun z59 hz59 lz59 gz59 => ?_
              dsimp only at lz59 gz59
              refine Ev.step (j := 14) (s' := ([some (.ref 69), some (.int x1), some (.int z51), none], [.ref 69, .int z59], (0, 0), hp32)) rfl rfl ?_
              refine bs_getU (g := 11) (g1 := 132) rfl rfl Hhp32 (bs_R.uq Hhp32 (g := 11) rfl) (by decide) rfl rfl ?_
              refine bs_lit (k := 124) rfl rfl fun z60 hz60 => ?_
              refine Ev.step (j := 20) (s' := ([some (.ref 69), some (.int x1), some (.int z51), none], [.int x1, .int z60, .ref 71, .int z59], (0, 0), hp32)) rfl rfl ?_
              refine Ev.step (j := 21) (s' := ([some (.ref 69), some (.int x1), some (.int z51), none], [.int z51, .int x1, .int z60, .ref 71, .int z59], (0, 0), hp32)) rfl rfl ?_
              refine Ev.inlS (L := L_X11_cell) (nL := 2) rfl rfl (Nat.le_of_ble_eq_true rfl) ?_
              generalize hQ61 : (fun (o : ab_O) => Ev _ _ _ _) = Q61
              refine (show Ev (ab_T L_X11_cell) 0 ([some (.int x1), some (.int z51)], [], (0, 0), hp32) Q61 from ?_)
              refine bs_lit (k := 2) rfl rfl fun z62 hz62 => ?_
              refine Ev.step (j := 2) (s' := ([some (.int x1), some (.int z51)], [.int x1, .int z62], (0, 0), hp32)) rfl rfl ?_
              refine bs_mul (2) rfl (Or.inl hz62) (by rw [hz62]; omega) (by rw [hz62]; omega) fun z63 hz63 => ?_
              rw [hz62] at hz63
              refine Ev.step (j := 4) (s' := ([some (.int x1), some (.int z51)], [.int z51, .int z63], (0, 0), hp32)) rfl rfl ?_
              first | (refine bs_add rfl (by omega) (by omega) fun z64 hz64 => ?_) | (refine bs_any rfl fun z64 => ?_)
              have rz64 := n_range z64
              refine Ev.ret rfl rfl ?_
              rw [← hQ61]
              refine (show Ev _ 24 ([some (.ref 69), some (.int x1), some (.int z51), none], [.int z64, .int z60, .ref 71, .int z59], (0, 0), hp32) _ from ?_)
              first | (refine bs_add rfl (by omega) (by omega) fun z65 hz65 => ?_) | (refine bs_any rfl fun z65 => ?_)
              have rz65 := n_range z65
              refine bs_ld (g := 132) 124 135 (0, 999) rfl Hhp32 (bs_R.uq Hhp32 (g := 132) rfl) (by decide) rfl (by decide) (by decide) rfl (by decide) (by omega) (by omega) fun z66 hz66 lz66 gz66 => ?_
              dsimp only at lz66 gz66
              first | (refine bs_sub rfl (by omega) (by omega) fun z67 hz67 => ?_) | (refine bs_any rfl fun z67 => ?_)
              have rz67 := n_range z67
              refine Ev.step (j := 28) (s' := ([some (.ref 69), some (.int x1), some (.int z51), some (.int z67)], [], (0, 0), hp32)) rfl rfl ?_
              refine Ev.step (j := 29) (s' := ([some (.ref 69), some (.int x1), some (.int z51), some (.int z67)], [.int z67], (0, 0), hp32)) rfl rfl ?_
              refine bs_ifle rfl (fun c68 => ?_) (fun c68 => ?_)
              · skip
                refine bs_lit (k := 0) rfl rfl fun z69 hz69 => ?_
                refine Ev.ret rfl rfl ?_
                rw [← hQ52]
                refine (show Ev _ 35 ([some (.ref 69), some (.int x1), some (.int z41)], [.int z69, .int z49, .int z42], (0, 0), hp32) _ from ?_)
                refine bs_pure [.int z49, .int z69] [.int z42] rfl rfl rfl rfl px_lesser fun z70 hz70 => ?_
                refine (show Ev _ 38 ([some (.ref 69), some (.int x1), some (.int z41)], [.int z70, .int z42], (0, 0), hp32) _ from ?_)
                refine bs_pure [.int z42, .int z70] [] rfl rfl rfl rfl px_lesser fun z71 hz71 => ?_
                refine (show Ev _ 41 ([some (.ref 69), some (.int x1), some (.int z41)], [.int z71], (0, 0), hp32) _ from ?_)
                refine Ev.ret rfl rfl ?_
                rw [← hQ37]
                refine (show Ev _ 67 ([some (.ref 69), some (.int x1), some (.int k31)], [.int z71], (0, 0), hp32) _ from ?_)
                exact Ev.ret rfl rfl (by rw [hQ]; exact ⟨t33, Hhp32, Fhp32, bs_an0, sf_S_nil⟩)
              · skip
                refine Ev.step (j := 33) (s' := ([some (.ref 69), some (.int x1), some (.int z51), some (.int z67)], [.int z67], (0, 0), hp32)) rfl rfl ?_
                refine Ev.step (j := 37) (s' := ([some (.ref 69), some (.int x1), some (.int z51), some (.int z67)], [.int z67], (0, 0), hp32)) rfl rfl ?_
                refine Ev.ret rfl rfl ?_
                rw [← hQ52]
                refine (show Ev _ 35 ([some (.ref 69), some (.int x1), some (.int z41)], [.int z67, .int z49, .int z42], (0, 0), hp32) _ from ?_)
                refine bs_pure [.int z49, .int z67] [.int z42] rfl rfl rfl rfl px_lesser fun z72 hz72 => ?_
                refine (show Ev _ 38 ([some (.ref 69), some (.int x1), some (.int z41)], [.int z72, .int z42], (0, 0), hp32) _ from ?_)
                refine bs_pure [.int z42, .int z72] [] rfl rfl rfl rfl px_lesser fun z73 hz73 => ?_
                refine (show Ev _ 41 ([some (.ref 69), some (.int x1), some (.int z41)], [.int z73], (0, 0), hp32) _ from ?_)
                refine Ev.ret rfl rfl ?_
                rw [← hQ37]
                refine (show Ev _ 67 ([some (.ref 69), some (.int x1), some (.int k31)], [.int z73], (0, 0), hp32) _ from ?_)
                exact Ev.ret rfl rfl (by rw [hQ]; exact ⟨t33, Hhp32, Fhp32, bs_an0, sf_S_nil⟩)
            · skip
              refine Ev.step (j := 43) (s' := ([some (.ref 69), some (.int x1), some (.int k31)], [.ref 69], (0, 0), hp32)) rfl rfl ?_
              refine Ev.step (j := 44) (s' := ([some (.ref 69), some (.int x1), some (.int k31)], [.ref 69, .ref 69], (0, 0), hp32)) rfl rfl ?_
              refine bs_getI 11 rfl rfl rfl Hhp32 (bs_R.uq Hhp32 (g := 11) rfl) (by decide) rfl fun z74 hz74 lz74 gz74 => ?_
              refine Ev.step (j := 48) (s' := ([some (.ref 69), some (.int x1), some (.int k31)], [.ref 69, .int z74, .ref 69], (0, 0), hp32)) rfl rfl ?_
              refine Ev.step (j := 49) (s' := ([some (.ref 69), some (.int x1), some (.int k31)], [.int k31, .ref 69, .int z74, .ref 69], (0, 0), hp32)) rfl rfl ?_
              refine Ev.inl (L := (L_X11_goesOf Z_X11_cell Z_X11_lackOf Z_X11_lesser)) (nL := 3) rfl (bs_rcv (g := 11) Hhp32 (bs_R.uq Hhp32 (g := 11) rfl) (by decide) rfl) rfl (Nat.le_of_ble_eq_true rfl) ?_
              generalize hQ75 : (fun (o : ab_O) => Ev _ _ _ _) = Q75
              refine (show Ev (ab_T (L_X11_goesOf Z_X11_cell Z_X11_lackOf Z_X11_lesser)) 0 ([some (.ref 69), some (.int k31), none], [], (0, 0), hp32) Q75 from ?_)
              refine Ev.step (j := 1) (s' := ([some (.ref 69), some (.int k31), none], [.ref 69], (0, 0), hp32)) rfl rfl ?_
              refine bs_getU (g := 11) (g1 := 132) rfl rfl Hhp32 (bs_R.uq Hhp32 (g := 11) rfl) (by decide) rfl rfl ?_
              refine bs_lit (k := 120) rfl rfl fun z76 hz76 => ?_
              refine bs_ld (g := 132) 120 120 (0, 400) rfl Hhp32 (bs_R.uq Hhp32 (g := 132) rfl) (by decide) rfl (by decide) (by decide) rfl (by decide) (by omega) (by omega) fun z77 hz77 lz77 gz77 => ?_
              dsimp only at lz77 gz77
              replace hz77 := bs_at hz77 (show z76.toInt.toNat = 120 by omega)
              refine bs_lit (k := 2) rfl rfl fun z78 hz78 => ?_
              refine bs_rem 2 rfl hz78 (by decide) (by omega) fun z79 hz79 => ?_
              refine Ev.step (j := 10) (s' := ([some (.ref 69), some (.int k31), some (.int z79)], [], (0, 0), hp32)) rfl rfl ?_
              refine Ev.step (j := 11) (s' := ([some (.ref 69), some (.int k31), some (.int z79)], [.ref 69], (0, 0), hp32)) rfl rfl ?_
              refine bs_getI 11 rfl rfl rfl Hhp32 (bs_R.uq Hhp32 (g := 11) rfl) (by decide) rfl fun z80 hz80 lz80 gz80 => ?_
              have e81 : z80.toInt = z74.toInt := Option.some.inj (hz80.symm.trans hz74)
              refine Ev.step (j := 15) (s' := ([some (.ref 69), some (.int k31), some (.int z79)], [.ref 69, .int z80], (0, 0), hp32)) rfl rfl ?_
              refine bs_getU (g := 11) (g1 := 132) rfl rfl Hhp32 (bs_R.uq Hhp32 (g := 11) rfl) (by decide) rfl rfl ?_
              refine bs_lit (k := 124) rfl rfl fun z82 hz82 => ?_
              refine Ev.step (j := 21) (s' := ([some (.ref 69), some (.int k31), some (.int z79)], [.int k31, .int z82, .ref 71, .int z80], (0, 0), hp32)) rfl rfl ?_
              refine Ev.step (j := 22) (s' := ([some (.ref 69), some (.int k31), some (.int z79)], [.int z79, .int k31, .int z82, .ref 71, .int z80], (0, 0), hp32)) rfl rfl ?_
              refine Ev.inlS (L := L_X11_cell) (nL := 2) rfl rfl (Nat.le_of_ble_eq_true rfl) ?_
              generalize hQ83 : (fun (o : ab_O) => Ev _ _ _ _) = Q83
              refine (show Ev (ab_T L_X11_cell) 0 ([some (.int k31), some (.int z79)], [], (0, 0), hp32) Q83 from ?_)
              refine bs_lit (k := 2) rfl rfl fun z84 hz84 => ?_
              refine Ev.step (j := 2) (s' := ([some (.int k31), some (.int z79)], [.int k31, .int z84], (0, 0), hp32)) rfl rfl ?_
              refine bs_mul (2) rfl (Or.inl hz84) (by rw [hz84]; omega) (by rw [hz84]; omega) fun z85 hz85 => ?_
              rw [hz84] at hz85
              refine Ev.step (j := 4) (s' := ([some (.int k31), some (.int z79)], [.int z79, .int z85], (0, 0), hp32)) rfl rfl ?_
              first | (refine bs_add rfl (by omega) (by omega) fun z86 hz86 => ?_) | (refine bs_any rfl fun z86 => ?_)
              have rz86 := n_range z86
              refine Ev.ret rfl rfl ?_
              rw [← hQ83]
              refine (show Ev _ 25 ([some (.ref 69), some (.int k31), some (.int z79)], [.int z86, .int z82, .ref 71, .int z80], (0, 0), hp32) _ from ?_)
              first | (refine bs_add rfl (by omega) (by omega) fun z87 hz87 => ?_) | (refine bs_any rfl fun z87 => ?_)
              have rz87 := n_range z87
              refine bs_ld (g := 132) 124 135 (0, 999) rfl Hhp32 (bs_R.uq Hhp32 (g := 132) rfl) (by decide) rfl (by decide) (by decide) rfl (by decide) (by omega) (by omega) fun z88 hz88 lz88 gz88 => ?_
              dsimp only at lz88 gz88
              refine Ev.step (j := 28) (s' := ([some (.ref 69), some (.int k31), some (.int z79)], [.ref 69, .int z88, .int z80], (0, 0), hp32)) rfl rfl ?_
              refine Ev.step (j := 29) (s' := ([some (.ref 69), some (.int k31), some (.int z79)], [.int k31, .ref 69, .int z88, .int z80], (0, 0), hp32)) rfl rfl ?_
              refine bs_lit (k := 1) rfl rfl fun z89 hz89 => ?_
              refine Ev.step (j := 31) (s' := ([some (.ref 69), some (.int k31), some (.int z79)], [.int z79, .int z89, .int k31, .ref 69, .int z88, .int z80], (0, 0), hp32)) rfl rfl ?_
              first | (refine bs_sub rfl (by omega) (by omega) fun z90 hz90 => ?_) | (refine bs_any rfl fun z90 => ?_)
              have rz90 := n_range z90
              refine Ev.inl (L := (L_X11_lackOf Z_X11_cell)) (nL := 4) rfl (bs_rcv (g := 11) Hhp32 (bs_R.uq Hhp32 (g := 11) rfl) (by decide) rfl) rfl (Nat.le_of_ble_eq_true rfl) ?_
              generalize hQ91 : (fun (o : ab_O) => Ev _ _ _ _) = Q91
              refine (show Ev (ab_T (L_X11_lackOf Z_X11_cell)) 0 ([some (.ref 69), some (.int k31), some (.int z90), none], [], (0, 0), hp32) Q91 from ?_)
              refine Ev.step (j := 1) (s' := ([some (.ref 69), some (.int k31), some (.int z90), none], [.ref 69], (0, 0), hp32)) rfl rfl ?_
              refine bs_getU (g := 11) (g1 := 132) rfl rfl Hhp32 (bs_R.uq Hhp32 (g := 11) rfl) (by decide) rfl rfl ?_
              refine bs_lit (k := 16) rfl rfl fun z92 hz92 => ?_
              refine Ev.step (j := 7) (s' := ([some (.ref 69), some (.int k31), some (.int z90), none], [.int k31, .int z92, .ref 71], (0, 0), hp32)) rfl rfl ?_
              refine Ev.step (j := 8) (s' := ([some (.ref 69), some (.int k31), some (.int z90), none], [.int z90, .int k31, .int z92, .ref 71], (0, 0), hp32)) rfl rfl ?_
              refine Ev.inlS (L := L_X11_cell) (nL := 2) rfl rfl (Nat.le_of_ble_eq_true rfl) ?_
              generalize hQ93 : (fun (o : ab_O) => Ev _ _ _ _) = Q93
              refine (show Ev (ab_T L_X11_cell) 0 ([some (.int k31), some (.int z90)], [], (0, 0), hp32) Q93 from ?_)
              refine bs_lit (k := 2) rfl rfl fun z94 hz94 => ?_
              refine Ev.step (j := 2) (s' := ([some (.int k31), some (.int z90)], [.int k31, .int z94], (0, 0), hp32)) rfl rfl ?_
              refine bs_mul (2) rfl (Or.inl hz94) (by rw [hz94]; omega) (by rw [hz94]; omega) fun z95 hz95 => ?_
              rw [hz94] at hz95
              refine Ev.step (j := 4) (s' := ([some (.int k31), some (.int z90)], [.int z90, .int z95], (0, 0), hp32)) rfl rfl ?_
              first | (refine bs_add rfl (by omega) (by omega) fun z96 hz96 => ?_) | (refine bs_any rfl fun z96 => ?_)
              have rz96 := n_range z96
              refine Ev.ret rfl rfl ?_
              rw [← hQ93]
              refine (show Ev _ 11 ([some (.ref 69), some (.int k31), some (.int z90), none], [.int z96, .int z92, .ref 71], (0, 0), hp32) _ from ?_)
              first | (refine bs_add rfl (by omega) (by omega) fun z97 hz97 => ?_) | (refine bs_any rfl fun z97 => ?_)
              have rz97 := n_range z97
              refine bs_ld (g := 132) 16 27 (0, 250) rfl Hhp32 (bs_R.uq Hhp32 (g := 132) rfl) (by decide) rfl (by decide) (by decide) rfl (by decide) (by omega) (by omega) fun z98 hz98 lz98 gz98 => ?_
              dsimp only at lz98 gz98
              refine Ev.step (j := 14) (s' := ([some (.ref 69), some (.int k31), some (.int z90), none], [.ref 69, .int z98], (0, 0), hp32)) rfl rfl ?_
              refine bs_getU (g := 11) (g1 := 132) rfl rfl Hhp32 (bs_R.uq Hhp32 (g := 11) rfl) (by decide) rfl rfl ?_
              refine bs_lit (k := 124) rfl rfl fun z99 hz99 => ?_
              refine Ev.step (j := 20) (s' := ([some (.ref 69), some (.int k31), some (.int z90), none], [.int k31, .int z99, .ref 71, .int z98], (0, 0), hp32)) rfl rfl ?_
              refine Ev.step (j := 21) (s' := ([some (.ref 69), some (.int k31), some (.int z90), none], [.int z90, .int k31, .int z99, .ref 71, .int z98], (0, 0), hp32)) rfl rfl ?_
              refine Ev.inlS (L := L_X11_cell) (nL := 2) rfl rfl (Nat.le_of_ble_eq_true rfl) ?_
              generalize hQ100 : (fun (o : ab_O) => Ev _ _ _ _) = Q100
              refine (show Ev (ab_T L_X11_cell) 0 ([some (.int k31), some (.int z90)], [], (0, 0), hp32) Q100 from ?_)
              refine bs_lit (k := 2) rfl rfl fun z101 hz101 => ?_
              refine Ev.step (j := 2) (s' := ([some (.int k31), some (.int z90)], [.int k31, .int z101], (0, 0), hp32)) rfl rfl ?_
              refine bs_mul (2) rfl (Or.inl hz101) (by rw [hz101]; omega) (by rw [hz101]; omega) fun z102 hz102 => ?_
              rw [hz101] at hz102
              refine Ev.step (j := 4) (s' := ([some (.int k31), some (.int z90)], [.int z90, .int z102], (0, 0), hp32)) rfl rfl ?_
              first | (refine bs_add rfl (by omega) (by omega) fun z103 hz103 => ?_) | (refine bs_any rfl fun z103 => ?_)
              have rz103 := n_range z103
              refine Ev.ret rfl rfl ?_
              rw [← hQ100]
              refine (show Ev _ 24 ([some (.ref 69), some (.int k31), some (.int z90), none], [.int z103, .int z99, .ref 71, .int z98], (0, 0), hp32) _ from ?_)
              first | (refine bs_add rfl (by omega) (by omega) fun z104 hz104 => ?_) | (refine bs_any rfl fun z104 => ?_)
              have rz104 := n_range z104
              refine bs_ld (g := 132) 124 135 (0, 999) rfl Hhp32 (bs_R.uq Hhp32 (g := 132) rfl) (by decide) rfl (by decide) (by decide) rfl (by decide) (by omega) (by omega) fun z105 hz105 lz105 gz105 => ?_
              dsimp only at lz105 gz105
              first | (refine bs_sub rfl (by omega) (by omega) fun z106 hz106 => ?_) | (refine bs_any rfl fun z106 => ?_)
              have rz106 := n_range z106
              refine Ev.step (j := 28) (s' := ([some (.ref 69), some (.int k31), some (.int z90), some (.int z106)], [], (0, 0), hp32)) rfl rfl ?_
              refine Ev.step (j := 29) (s' := ([some (.ref 69), some (.int k31), some (.int z90), some (.int z106)], [.int z106], (0, 0), hp32)) rfl rfl ?_
              refine bs_ifle rfl (fun c107 => ?_) (fun c107 => ?_)
              · skip
                refine bs_lit (k := 0) rfl rfl fun z108 hz108 => ?_
                refine Ev.ret rfl rfl ?_
                rw [← hQ91]
                refine (show Ev _ 35 ([some (.ref 69), some (.int k31), some (.int z79)], [.int z108, .int z88, .int z80], (0, 0), hp32) _ from ?_)
                refine bs_pure [.int z88, .int z108] [.int z80] rfl rfl rfl rfl px_lesser fun z109 hz109 => ?_
                refine (show Ev _ 38 ([some (.ref 69), some (.int k31), some (.int z79)], [.int z109, .int z80], (0, 0), hp32) _ from ?_)
                refine bs_pure [.int z80, .int z109] [] rfl rfl rfl rfl px_lesser fun z110 hz110 => ?_
                refine (show Ev _ 41 ([some (.ref 69), some (.int k31), some (.int z79)], [.int z110], (0, 0), hp32) _ from ?_)
                refine Ev.ret rfl rfl ?_
                rw [← hQ75]
                refine (show Ev _ 52 ([some (.ref 69), some (.int x1), some (.int k31)], [.int z110, .int z74, .ref 69], (0, 0), hp32) _ from ?_)
                first | (refine bs_sub rfl (by omega) (by omega) fun z111 hz111 => ?_) | (refine bs_any rfl fun z111 => ?_)
                have rz111 := n_range z111
                refine bs_putI (W := [(11, 22, 22)]) (g := 11) rfl rfl Hhp32 (bs_R.uq Hhp32 (g := 11) rfl) (by decide) rfl rfl rfl rfl (Or.inl rfl) (by omega) (by omega) fun hp112 Hhp112 fhp112 rhp112 ehp112 qhp112 nhp112 => ?_
                have Fhp112 := sf_fr_tr Fhp32 (sf_fr_wider (W := [(11, 0, 0), (11, 22, 22)]) rfl fhp112)
                have h113 : sf_rd hp112 71 120 = some z77.toInt := (ehp112 _ _ (Or.inl (by decide))).trans hz77
                have h114 : sf_rd hp112 71 z87.toInt.toNat = some z88.toInt := (ehp112 _ _ (Or.inl (by decide))).trans hz88
                have h115 : sf_rd hp112 71 z97.toInt.toNat = some z98.toInt := (ehp112 _ _ (Or.inl (by decide))).trans hz98
                have h116 : sf_rd hp112 71 z104.toInt.toNat = some z105.toInt := (ehp112 _ _ (Or.inl (by decide))).trans hz105
                refine bs_iinc (1) rfl rfl rfl rfl (by omega) (by omega) fun z117 hz117 => ?_
                refine (show Ev _ 59 ([some (.ref 69), some (.int x1), some (.int z117)], [], (0, 0), hp112) _ from ?_)
                refine Ev.step (j := 37) (s' := ([some (.ref 69), some (.int x1), some (.int z117)], [], (0, 0), hp112)) rfl rfl ?_
                refine ih34 (z117, hp112, t33) ⟨Hhp112, Fhp112, (by first | omega | assumption)⟩ ?_
                show (x1.toInt - z117.toInt).toNat < (x1.toInt - k31.toInt).toNat
                omega
              · skip
                refine Ev.step (j := 33) (s' := ([some (.ref 69), some (.int k31), some (.int z90), some (.int z106)], [.int z106], (0, 0), hp32)) rfl rfl ?_
                refine Ev.step (j := 37) (s' := ([some (.ref 69), some (.int k31), some (.int z90), some (.int z106)], [.int z106], (0, 0), hp32)) rfl rfl ?_
                refine Ev.ret rfl rfl ?_
                rw [← hQ91]
                refine (show Ev _ 35 ([some (.ref 69), some (.int k31), some (.int z79)], [.int z106, .int z88, .int z80], (0, 0), hp32) _ from ?_)
                refine bs_pure [.int z88, .int z106] [.int z80] rfl rfl rfl rfl px_lesser fun z118 hz118 => ?_
                refine (show Ev _ 38 ([some (.ref 69), some (.int k31), some (.int z79)], [.int z118, .int z80], (0, 0), hp32) _ from ?_)
                refine bs_pure [.int z80, .int z118] [] rfl rfl rfl rfl px_lesser fun z119 hz119 => ?_
                refine (show Ev _ 41 ([some (.ref 69), some (.int k31), some (.int z79)], [.int z119], (0, 0), hp32) _ from ?_)
                refine Ev.ret rfl rfl ?_
                rw [← hQ75]
                refine (show Ev _ 52 ([some (.ref 69), some (.int x1), some (.int k31)], [.int z119, .int z74, .ref 69], (0, 0), hp32) _ from ?_)
                first | (refine bs_sub rfl (by omega) (by omega) fun z120 hz120 => ?_) | (refine bs_any rfl fun z120 => ?_)
                have rz120 := n_range z120
                refine bs_putI (W := [(11, 22, 22)]) (g := 11) rfl rfl Hhp32 (bs_R.uq Hhp32 (g := 11) rfl) (by decide) rfl rfl rfl rfl (Or.inl rfl) (by omega) (by omega) fun hp121 Hhp121 fhp121 rhp121 ehp121 qhp121 nhp121 => ?_
                have Fhp121 := sf_fr_tr Fhp32 (sf_fr_wider (W := [(11, 0, 0), (11, 22, 22)]) rfl fhp121)
                have h122 : sf_rd hp121 71 120 = some z77.toInt := (ehp121 _ _ (Or.inl (by decide))).trans hz77
                have h123 : sf_rd hp121 71 z87.toInt.toNat = some z88.toInt := (ehp121 _ _ (Or.inl (by decide))).trans hz88
                have h124 : sf_rd hp121 71 z97.toInt.toNat = some z98.toInt := (ehp121 _ _ (Or.inl (by decide))).trans hz98
                have h125 : sf_rd hp121 71 z104.toInt.toNat = some z105.toInt := (ehp121 _ _ (Or.inl (by decide))).trans hz105
                refine bs_iinc (1) rfl rfl rfl rfl (by omega) (by omega) fun z126 hz126 => ?_
                refine (show Ev _ 59 ([some (.ref 69), some (.int x1), some (.int z126)], [], (0, 0), hp121) _ from ?_)
                refine Ev.step (j := 37) (s' := ([some (.ref 69), some (.int x1), some (.int z126)], [], (0, 0), hp121)) rfl rfl ?_
                refine ih34 (z126, hp121, t33) ⟨Hhp121, Fhp121, (by first | omega | assumption)⟩ ?_
                show (x1.toInt - z126.toInt).toNat < (x1.toInt - k31.toInt).toNat
                omega
          · skip
            have c127 : z21.toInt = 400 := by omega
            refine bs_lit (k := 0) rfl rfl fun z128 hz128 => ?_
            exact Ev.ret rfl rfl (by rw [hQ]; exact ⟨t, Hhp2, Fhp2, bs_an0, sf_S_nil⟩)
        · exfalso; omega
def kq_X11_goesOn_3d45d6 : sf_Q := ([(1, 11, 0), (0, 0, 0)], [], some (0, 0, 0), [(1, 0, 0, 0, 2147483647, 0)], [(11, 22, 22), (132, 120, 252)])
def kc_X11_goesOn_3d45d6 : List (Nat × sf_I) := [(0, 0, [1, 0]),
  (1, 5, [2, 2]),
  (2, 2, [3, 2]),
  (3, 2, [4, 1]),
  (4, 21, [7, 30, 5]),
  (7, 4, [8, 0]),
  (8, 23, [11, 11, 6]),
  (11, 0, [13, 120]),
  (13, 25, [14, 1]),
  (14, 0, [17, 400]),
  (17, 21, [20, 30, 5]),
  (20, 4, [21, 0]),
  (21, 32, [24, 0, 1, 11, 0, 0, 0, 0]),
  (24, 8, [27, 2, 1]),
  (27, 22, [2]),
  (30, 2, [31, 2]),
  (31, 35, [0, 0])]
def kd_X11_goesOn_3d45d6_0 : List (Nat × sf_D × sf_M) := [(0, ([(1, 11, 0), (0, 0, 0), (8, 0, 0)], [], [], 0, 0), (32212254718, [])),
  (1, ([(1, 11, 0), (0, 0, 0), (8, 0, 0)], [(0, 0, 0)], [(1, 0, 0, 0, 0, 0)], 0, 0), (32212254717, [])),
  (2, ([(1, 11, 0), (0, 0, 0), (0, 0, 0)], [], [(1, 7, 0, 0, 2147483647, 0), (3, 7, 4, 1, 2147483647, 0)], 0, 0), (11, [(15, 7, 2147483647, 0)])),
  (3, ([(1, 11, 0), (0, 0, 0), (0, 0, 0)], [(0, 0, 0)], [(1, 7, 0, 0, 2147483647, 0), (1, 0, 0, 0, 2147483647, 0), (3, 7, 4, 1, 2147483647, 0), (2, 0, 7, 1, 0, 0)], 0, 0), (10, [(15, 7, 2147483647, 0)])),
  (4, ([(1, 11, 0), (0, 0, 0), (0, 0, 0)], [(0, 0, 0), (0, 0, 0)], [(1, 7, 0, 0, 2147483647, 0), (1, 0, 0, 0, 2147483647, 0), (1, 3, 0, -2147483648, 2147483647, 0), (1, 4, 0, -2147483648, 2147483647, 0), (3, 7, 4, 1, 2147483647, 0), (2, 0, 7, 1, 0, 0), (2, 3, 4, 1, 0, 0)], 0, 0), (9, [(15, 7, 2147483647, 0)])),
  (7, ([(1, 11, 0), (0, 0, 0), (0, 0, 0)], [], [(1, 7, 0, 0, 2147483646, 0), (1, 4, 0, 1, 2147483647, 0)], 0, 0), (8, [(15, 7, 2147483647, 0)])),
  (8, ([(1, 11, 0), (0, 0, 0), (0, 0, 0)], [(1, 11, 0)], [(1, 7, 0, 0, 2147483646, 0), (1, 4, 0, 1, 2147483647, 0)], 0, 0), (7, [(15, 7, 2147483647, 0)])),
  (11, ([(1, 11, 0), (0, 0, 0), (0, 0, 0)], [(1, 132, 0)], [(1, 7, 0, 0, 2147483646, 0), (1, 4, 0, 1, 2147483647, 0)], 0, 0), (6, [(15, 7, 2147483647, 0)])),
  (13, ([(1, 11, 0), (0, 0, 0), (0, 0, 0)], [(0, 0, 0), (1, 132, 0)], [(1, 7, 0, 0, 2147483646, 0), (1, 4, 0, 1, 2147483647, 0), (1, 3, 0, 120, 120, 0)], 0, 0), (5, [(15, 7, 2147483647, 0)])),
  (14, ([(1, 11, 0), (0, 0, 0), (0, 0, 0)], [(0, 0, 0)], [(1, 7, 0, 0, 2147483646, 0), (1, 4, 0, 1, 2147483647, 0), (1, 0, 0, 0, 400, 0), (1, 399362, 0, -2147483648, 2147483647, 0), (2, 0, 399362, 1, 0, 0)], 0, 0), (4, [(15, 7, 2147483647, 0)]))]
def kd_X11_goesOn_3d45d6_1 : List (Nat × sf_D × sf_M) := [(17, ([(1, 11, 0), (0, 0, 0), (0, 0, 0)], [(0, 0, 0), (0, 0, 0)], [(1, 7, 0, 0, 2147483646, 0), (1, 4, 0, 1, 2147483647, 0), (1, 0, 0, 0, 400, 0), (1, 399362, 0, -2147483648, 2147483647, 0), (1, 3, 0, 400, 400, 0), (2, 0, 399362, 1, 0, 0)], 0, 0), (3, [(15, 7, 2147483647, 0)])),
  (20, ([(1, 11, 0), (0, 0, 0), (0, 0, 0)], [], [(1, 7, 0, 0, 2147483646, 0), (1, 4, 0, 1, 2147483647, 0), (1, 399362, 0, 0, 399, 0)], 0, 0), (2, [(15, 7, 2147483647, 0)])),
  (21, ([(1, 11, 0), (0, 0, 0), (0, 0, 0)], [(1, 11, 0)], [(1, 7, 0, 0, 2147483646, 0), (1, 4, 0, 1, 2147483647, 0), (1, 399362, 0, 0, 399, 0)], 0, 0), (1, [(15, 7, 2147483647, 0)])),
  (24, ([(1, 11, 0), (0, 0, 0), (0, 0, 0)], [], [(1, 7, 0, 0, 2147483646, 0), (1, 4, 0, 1, 2147483647, 0)], 0, 0), (0, [(15, 7, 2147483647, 0)])),
  (27, ([(1, 11, 0), (0, 0, 0), (0, 0, 0)], [], [(1, 4, 0, 1, 2147483647, 0), (1, 7, 0, 1, 2147483647, 0)], 0, 0), (12, [(15, 7, 2147483647, 0)])),
  (30, ([(1, 11, 0), (0, 0, 0), (0, 0, 0)], [], [(1, 7, 0, 0, 2147483647, 0), (1, 4, 0, -2147483648, 2147483647, 0), (3, 7, 4, 1, 2147483647, 0)], 0, 0), (1, [])),
  (31, ([(1, 11, 0), (0, 0, 0), (0, 0, 0)], [(0, 0, 0)], [(1, 7, 0, 0, 2147483647, 0), (1, 4, 0, -2147483648, 2147483647, 0), (1, 0, 0, 0, 2147483647, 0), (3, 7, 4, 1, 2147483647, 0), (2, 0, 7, 1, 0, 0)], 0, 0), (0, []))]
def kd_X11_goesOn_3d45d6 : List (Nat × sf_D × sf_M) := kd_X11_goesOn_3d45d6_0 ++ (kd_X11_goesOn_3d45d6_1)
set_option maxRecDepth 100000 in
theorem kt_X11_goesOn_3d45d6 : sf_chk [kq_X11_day_h] kq_X11_goesOn_3d45d6 3 kc_X11_goesOn_3d45d6 kd_X11_goesOn_3d45d6 = true := by decide +kernel
set_option maxRecDepth 100000 in
theorem kl_X11_goesOn_3d45d6 : (kc_X11_goesOn_3d45d6).map (fun c => (c.1, sf_den ([Z_X11_day] : List sf_X) c.2)) = L_X11_goesOn Z_X11_day := rfl
theorem ct_X11_goesOn_3d45d6 : sf_ct kq_X11_goesOn_3d45d6 Z_X11_goesOn := by
  have h := sf_meth (K := [kq_X11_day_h]) (E := [Z_X11_day]) (k := kq_X11_goesOn_3d45d6) (nL := 3) (C := kc_X11_goesOn_3d45d6) (D := kd_X11_goesOn_3d45d6) (fun m k hk => match m, hk with
    | 0, hk => (Option.some.inj hk) ▸ ct_X11_day_h
    | _ + 1, hk => (by cases hk)) kt_X11_goesOn_3d45d6
  rw [kl_X11_goesOn_3d45d6] at h
  exact h
def kq_X11_meet_h : sf_Q := ([(1, 11, 0), (0, 0, 0), (0, 0, 0)], [], some (0, 0, 0), [], [(11, 0, 0), (11, 22, 22), (132, 120, 252), (139, 0, 132)])
set_option maxRecDepth 100000 in
set_option maxHeartbeats 4000000 in
theorem ct_X11_meet_h : sf_ct kq_X11_meet_h Z_X11_meet := by
  intro t hp as H hl hj hpre
  match as, hl with
  | [v0, v1, v2], _ =>
    obtain ⟨a0, rfl, ra0⟩ := bs_aR (hj 0 _ rfl)
    obtain rfl := ra0.eq H (p := 69) rfl
    obtain ⟨x1, rfl⟩ := bs_aI (hj 1 _ rfl)
    have rg1 := n_range x1
    obtain ⟨x2, rfl⟩ := bs_aI (hj 2 _ rfl)
    have rg2 := n_range x2
    clear hpre hj
    have F0 : sf_fr [(11, 0, 0), (11, 22, 22), (132, 120, 252), (139, 0, 132)] t hp t hp := sf_fr_rf
    refine bs_fin (K := kq_X11_meet_h) (L := (L_X11_meet Z_X11_isMan Z_X11_isDead Z_X11_tries Z_X11_areUnlike Z_X11_goesOn Z_X11_back)) (nL := 5) (Nat.le_of_ble_eq_true rfl) ?_
    obtain ⟨Q, hQ⟩ : ∃ Q : ab_O → Prop, Q = (fun o => ∃ t', sf_h t' o.2 ∧ sf_fr (kq_X11_meet_h).2.2.2.2 t hp t' o.2 ∧ sf_an t' o.2.1 (kq_X11_meet_h).2.2.1 o.1 ∧ sf_S (sf_v1 o.1 [.ref 69, .int x1, .int x2] o.2) (kq_X11_meet_h).2.2.2.1) := ⟨_, rfl⟩
    rw [← hQ]
    refine (show Ev (ab_T (L_X11_meet Z_X11_isMan Z_X11_isDead Z_X11_tries Z_X11_areUnlike Z_X11_goesOn Z_X11_back)) 0 ([some (.ref 69), some (.int x1), some (.int x2), none, none], [], (0, 0), hp) Q from ?_)
    refine Ev.step (j := 1) (s' := ([some (.ref 69), some (.int x1), some (.int x2), none, none], [.ref 69], (0, 0), hp)) rfl rfl ?_
    refine bs_lit (k := 0) rfl rfl fun z1 hz1 => ?_
    refine bs_putI (W := [(11, 0, 0)]) (g := 11) rfl rfl H (bs_R.uq H (g := 11) rfl) (by decide) rfl rfl rfl rfl (Or.inl rfl) (by omega) (by omega) fun hp2 Hhp2 fhp2 rhp2 ehp2 qhp2 nhp2 => ?_
    have Fhp2 := sf_fr_tr F0 (sf_fr_wider (W := [(11, 0, 0), (11, 22, 22), (132, 120, 252), (139, 0, 132)]) rfl fhp2)
    refine Ev.step (j := 6) (s' := ([some (.ref 69), some (.int x1), some (.int x2), none, none], [.ref 69], (0, 0), hp2)) rfl rfl ?_
    refine Ev.step (j := 7) (s' := ([some (.ref 69), some (.int x1), some (.int x2), none, none], [.int x1, .ref 69], (0, 0), hp2)) rfl rfl ?_
    refine Ev.inl (L := (L_X11_isMan Z_X11_isIn)) (nL := 2) rfl (bs_rcv (g := 11) Hhp2 (bs_R.uq Hhp2 (g := 11) rfl) (by decide) rfl) rfl (Nat.le_of_ble_eq_true rfl) ?_
    generalize hQ3 : (fun (o : ab_O) => Ev _ _ _ _) = Q3
    refine (show Ev (ab_T (L_X11_isMan Z_X11_isIn)) 0 ([some (.ref 69), some (.int x1)], [], (0, 0), hp2) Q3 from ?_)
    refine Ev.step (j := 1) (s' := ([some (.ref 69), some (.int x1)], [.int x1], (0, 0), hp2)) rfl rfl ?_
    refine bs_lit (k := 0) rfl rfl fun z4 hz4 => ?_
    refine Ev.step (j := 3) (s' := ([some (.ref 69), some (.int x1)], [.ref 69, .int z4, .int x1], (0, 0), hp2)) rfl rfl ?_
    refine bs_getU (g := 11) (g1 := 132) rfl rfl Hhp2 (bs_R.uq Hhp2 (g := 11) rfl) (by decide) rfl rfl ?_
    refine bs_lit (k := 1) rfl rfl fun z5 hz5 => ?_
    refine bs_ld (g := 132) 1 1 (0, 8) rfl Hhp2 (bs_R.uq Hhp2 (g := 132) rfl) (by decide) rfl (by decide) (by decide) rfl (by decide) (by omega) (by omega) fun z6 hz6 lz6 gz6 => ?_
    dsimp only at lz6 gz6
    replace hz6 := bs_at hz6 (show z5.toInt.toNat = 1 by omega)
    refine bs_lit (k := 1) rfl rfl fun z7 hz7 => ?_
    first | (refine bs_sub rfl (by omega) (by omega) fun z8 hz8 => ?_) | (refine bs_any rfl fun z8 => ?_)
    have rz8 := n_range z8
    refine Ev.inlS (L := L_X11_isIn) (nL := 3) rfl rfl (Nat.le_of_ble_eq_true rfl) ?_
    generalize hQ9 : (fun (o : ab_O) => Ev _ _ _ _) = Q9
    refine (show Ev (ab_T L_X11_isIn) 0 ([some (.int x1), some (.int z4), some (.int z8)], [], (0, 0), hp2) Q9 from ?_)
    refine Ev.step (j := 1) (s' := ([some (.int x1), some (.int z4), some (.int z8)], [.int x1], (0, 0), hp2)) rfl rfl ?_
    refine Ev.step (j := 2) (s' := ([some (.int x1), some (.int z4), some (.int z8)], [.int z4, .int x1], (0, 0), hp2)) rfl rfl ?_
    refine bs_lt rfl (fun c10 => ?_) (fun c10 => ?_)
    · skip
      refine bs_lit (k := 0) rfl rfl fun z11 hz11 => ?_
      refine bs_zret rfl rfl (by omega) (by omega) ?_
      rw [← hQ9]
      refine (show Ev _ 13 ([some (.ref 69), some (.int x1)], [.int z11], (0, 0), hp2) _ from ?_)
      refine bs_zret rfl rfl (by omega) (by omega) ?_
      rw [← hQ3]
      refine (show Ev _ 10 ([some (.ref 69), some (.int x1), some (.int x2), none, none], [.int z11], (0, 0), hp2) _ from ?_)
      refine bs_ifeq rfl (fun c12 => ?_) (fun c12 => ?_)
      · skip
        refine bs_lit (k := -1) rfl rfl fun z13 hz13 => ?_
        exact Ev.ret rfl rfl (by rw [hQ]; exact ⟨t, Hhp2, Fhp2, bs_an0, sf_S_nil⟩)
      · exfalso; omega
    · skip
      refine Ev.step (j := 6) (s' := ([some (.int x1), some (.int z4), some (.int z8)], [.int x1], (0, 0), hp2)) rfl rfl ?_
      refine Ev.step (j := 7) (s' := ([some (.int x1), some (.int z4), some (.int z8)], [.int z8, .int x1], (0, 0), hp2)) rfl rfl ?_
      refine bs_gt rfl (fun c14 => ?_) (fun c14 => ?_)
      · skip
        refine bs_lit (k := 0) rfl rfl fun z15 hz15 => ?_
        refine bs_zret rfl rfl (by omega) (by omega) ?_
        rw [← hQ9]
        refine (show Ev _ 13 ([some (.ref 69), some (.int x1)], [.int z15], (0, 0), hp2) _ from ?_)
        refine bs_zret rfl rfl (by omega) (by omega) ?_
        rw [← hQ3]
        refine (show Ev _ 10 ([some (.ref 69), some (.int x1), some (.int x2), none, none], [.int z15], (0, 0), hp2) _ from ?_)
        refine bs_ifeq rfl (fun c16 => ?_) (fun c16 => ?_)
        · skip
          refine bs_lit (k := -1) rfl rfl fun z17 hz17 => ?_
          exact Ev.ret rfl rfl (by rw [hQ]; exact ⟨t, Hhp2, Fhp2, bs_an0, sf_S_nil⟩)
        · exfalso; omega
      · skip
        refine bs_lit (k := 1) rfl rfl fun z18 hz18 => ?_
        refine Ev.step (j := 15) (s' := ([some (.int x1), some (.int z4), some (.int z8)], [.int z18], (0, 0), hp2)) rfl rfl ?_
        refine bs_zret rfl rfl (by omega) (by omega) ?_
        rw [← hQ9]
        refine (show Ev _ 13 ([some (.ref 69), some (.int x1)], [.int z18], (0, 0), hp2) _ from ?_)
        refine bs_zret rfl rfl (by omega) (by omega) ?_
        rw [← hQ3]
        refine (show Ev _ 10 ([some (.ref 69), some (.int x1), some (.int x2), none, none], [.int z18], (0, 0), hp2) _ from ?_)
        refine bs_ifeq rfl (fun c19 => ?_) (fun c19 => ?_)
        · exfalso; omega
        · skip
          refine Ev.step (j := 14) (s' := ([some (.ref 69), some (.int x1), some (.int x2), none, none], [.ref 69], (0, 0), hp2)) rfl rfl ?_
          refine Ev.step (j := 15) (s' := ([some (.ref 69), some (.int x1), some (.int x2), none, none], [.int x2, .ref 69], (0, 0), hp2)) rfl rfl ?_
          refine Ev.inl (L := (L_X11_isMan Z_X11_isIn)) (nL := 2) rfl (bs_rcv (g := 11) Hhp2 (bs_R.uq Hhp2 (g := 11) rfl) (by decide) rfl) rfl (Nat.le_of_ble_eq_true rfl) ?_
          generalize hQ20 : (fun (o : ab_O) => Ev _ _ _ _) = Q20
          refine (show Ev (ab_T (L_X11_isMan Z_X11_isIn)) 0 ([some (.ref 69), some (.int x2)], [], (0, 0), hp2) Q20 from ?_)
          refine Ev.step (j := 1) (s' := ([some (.ref 69), some (.int x2)], [.int x2], (0, 0), hp2)) rfl rfl ?_
          refine bs_lit (k := 0) rfl rfl fun z21 hz21 => ?_
          refine Ev.step (j := 3) (s' := ([some (.ref 69), some (.int x2)], [.ref 69, .int z21, .int x2], (0, 0), hp2)) rfl rfl ?_
          refine bs_getU (g := 11) (g1 := 132) rfl rfl Hhp2 (bs_R.uq Hhp2 (g := 11) rfl) (by decide) rfl rfl ?_
          refine bs_lit (k := 1) rfl rfl fun z22 hz22 => ?_
          refine bs_ld (g := 132) 1 1 (0, 8) rfl Hhp2 (bs_R.uq Hhp2 (g := 132) rfl) (by decide) rfl (by decide) (by decide) rfl (by decide) (by omega) (by omega) fun z23 hz23 lz23 gz23 => ?_
          dsimp only at lz23 gz23
          replace hz23 := bs_at hz23 (show z22.toInt.toNat = 1 by omega)
          have e24 : z23.toInt = z6.toInt := Option.some.inj (hz23.symm.trans hz6)
          refine bs_lit (k := 1) rfl rfl fun z25 hz25 => ?_
          first | (refine bs_sub rfl (by omega) (by omega) fun z26 hz26 => ?_) | (refine bs_any rfl fun z26 => ?_)
          have rz26 := n_range z26
          refine Ev.inlS (L := L_X11_isIn) (nL := 3) rfl rfl (Nat.le_of_ble_eq_true rfl) ?_
          generalize hQ27 : (fun (o : ab_O) => Ev _ _ _ _) = Q27
          refine (show Ev (ab_T L_X11_isIn) 0 ([some (.int x2), some (.int z21), some (.int z26)], [], (0, 0), hp2) Q27 from ?_)
          refine Ev.step (j := 1) (s' := ([some (.int x2), some (.int z21), some (.int z26)], [.int x2], (0, 0), hp2)) rfl rfl ?_
          refine Ev.step (j := 2) (s' := ([some (.int x2), some (.int z21), some (.int z26)], [.int z21, .int x2], (0, 0), hp2)) rfl rfl ?_
          refine bs_lt rfl (fun c28 => ?_) (fun c28 => ?_)
          · skip
            refine bs_lit (k := 0) rfl rfl fun z29 hz29 => ?_
            refine bs_zret rfl rfl (by omega) (by omega) ?_
            rw [← hQ27]
            refine (show Ev _ 13 ([some (.ref 69), some (.int x2)], [.int z29], (0, 0), hp2) _ from ?_)
            refine bs_zret rfl rfl (by omega) (by omega) ?_
            rw [← hQ20]
            refine (show Ev _ 18 ([some (.ref 69), some (.int x1), some (.int x2), none, none], [.int z29], (0, 0), hp2) _ from ?_)
            refine bs_ifeq rfl (fun c30 => ?_) (fun c30 => ?_)
            · skip
              refine bs_lit (k := -1) rfl rfl fun z31 hz31 => ?_
              exact Ev.ret rfl rfl (by rw [hQ]; exact ⟨t, Hhp2, Fhp2, bs_an0, sf_S_nil⟩)
            · exfalso; omega
          · skip
            refine Ev.step (j := 6) (s' := ([some (.int x2), some (.int z21), some (.int z26)], [.int x2], (0, 0), hp2)) rfl rfl ?_
            refine Ev.step (j := 7) (s' := ([some (.int x2), some (.int z21), some (.int z26)], [.int z26, .int x2], (0, 0), hp2)) rfl rfl ?_
            refine bs_gt rfl (fun c32 => ?_) (fun c32 => ?_)
            · skip
              refine bs_lit (k := 0) rfl rfl fun z33 hz33 => ?_
              refine bs_zret rfl rfl (by omega) (by omega) ?_
              rw [← hQ27]
              refine (show Ev _ 13 ([some (.ref 69), some (.int x2)], [.int z33], (0, 0), hp2) _ from ?_)
              refine bs_zret rfl rfl (by omega) (by omega) ?_
              rw [← hQ20]
              refine (show Ev _ 18 ([some (.ref 69), some (.int x1), some (.int x2), none, none], [.int z33], (0, 0), hp2) _ from ?_)
              refine bs_ifeq rfl (fun c34 => ?_) (fun c34 => ?_)
              · skip
                refine bs_lit (k := -1) rfl rfl fun z35 hz35 => ?_
                exact Ev.ret rfl rfl (by rw [hQ]; exact ⟨t, Hhp2, Fhp2, bs_an0, sf_S_nil⟩)
              · exfalso; omega
            · skip
              refine bs_lit (k := 1) rfl rfl fun z36 hz36 => ?_
              refine Ev.step (j := 15) (s' := ([some (.int x2), some (.int z21), some (.int z26)], [.int z36], (0, 0), hp2)) rfl rfl ?_
              refine bs_zret rfl rfl (by omega) (by omega) ?_
              rw [← hQ27]
              refine (show Ev _ 13 ([some (.ref 69), some (.int x2)], [.int z36], (0, 0), hp2) _ from ?_)
              refine bs_zret rfl rfl (by omega) (by omega) ?_
              rw [← hQ20]
              refine (show Ev _ 18 ([some (.ref 69), some (.int x1), some (.int x2), none, none], [.int z36], (0, 0), hp2) _ from ?_)
              refine bs_ifeq rfl (fun c37 => ?_) (fun c37 => ?_)
              · exfalso; omega
              · skip
                refine Ev.step (j := 22) (s' := ([some (.ref 69), some (.int x1), some (.int x2), none, none], [.int x1], (0, 0), hp2)) rfl rfl ?_
                refine Ev.step (j := 23) (s' := ([some (.ref 69), some (.int x1), some (.int x2), none, none], [.int x2, .int x1], (0, 0), hp2)) rfl rfl ?_
                refine bs_eq rfl (fun c38 => ?_) (fun c38 => ?_)
                · skip
                  refine bs_lit (k := -1) rfl rfl fun z39 hz39 => ?_
                  exact Ev.ret rfl rfl (by rw [hQ]; exact ⟨t, Hhp2, Fhp2, bs_an0, sf_S_nil⟩)
                · skip
                  refine Ev.step (j := 27) (s' := ([some (.ref 69), some (.int x1), some (.int x2), none, none], [.ref 69], (0, 0), hp2)) rfl rfl ?_
                  refine Ev.step (j := 28) (s' := ([some (.ref 69), some (.int x1), some (.int x2), none, none], [.int x1, .ref 69], (0, 0), hp2)) rfl rfl ?_
                  refine bs_call (K := kq_X11_isDead_ebc78d) [.ref 69, .int x1] [] rfl ct_X11_isDead_ebc78d Hhp2 rfl rfl rfl (bs_rcv (g := 11) Hhp2 (bs_R.uq Hhp2 (g := 11) rfl) (by decide) rfl) rfl ?_ (sf_S_cons (sf_s1 (x := x1.toInt) rfl (by omega) (by omega)) (sf_S_nil)) fun r40 hp41 thp41 Hhp41 fhp41 ahp41 php41 => ?_
                  · intro q k h
                    match q, h with
                    | 0, h => cases h; exact bs_jR (bs_R.uq Hhp2 (g := 11) rfl)
                    | 1, h => cases h; exact sf_j0
                    | q + 2, h => cases h
                  obtain ⟨z42, rfl⟩ := bs_anI ahp41
                  have rgz42 := n_range z42
                  have Fhp41 := sf_fr_tr Fhp2 (sf_fr_wider (W := [(11, 0, 0), (11, 22, 22), (132, 120, 252), (139, 0, 132)]) rfl fhp41)
                  have h43 : sf_rd hp41 69 0 = some z1.toInt := (fhp41.2.2.1 _ (bs_R.uq Hhp2 (g := 11) (p := 69) rfl).1 _ (by rw [(bs_R.uq Hhp2 (g := 11) (p := 69) rfl).2]; rfl)).trans rhp2
                  have h44 : sf_rd hp41 71 1 = some z6.toInt := (fhp41.2.2.1 _ (bs_R.uq Hhp2 (g := 132) (p := 71) rfl).1 _ (by rw [(bs_R.uq Hhp2 (g := 132) (p := 71) rfl).2]; rfl)).trans hz6
                  obtain ⟨uz42, vz42⟩ := bs_s1 (x := z42.toInt) rfl (php41 _ (List.mem_of_getElem? (i := 0) rfl))
                  refine (show Ev _ 31 ([some (.ref 69), some (.int x1), some (.int x2), none, none], [.int z42], (0, 0), hp41) _ from ?_)
                  refine bs_ifne rfl (fun c45 => ?_) (fun c45 => ?_)
                  · skip
                    refine bs_lit (k := -1) rfl rfl fun z46 hz46 => ?_
                    exact Ev.ret rfl rfl (by rw [hQ]; exact ⟨thp41, Hhp41, Fhp41, bs_an0, sf_S_nil⟩)
                  · skip
                    have c47 : z42.toInt = 0 := by omega
                    refine Ev.step (j := 35) (s' := ([some (.ref 69), some (.int x1), some (.int x2), none, none], [.ref 69], (0, 0), hp41)) rfl rfl ?_
                    refine Ev.step (j := 36) (s' := ([some (.ref 69), some (.int x1), some (.int x2), none, none], [.int x2, .ref 69], (0, 0), hp41)) rfl rfl ?_
                    refine bs_call (K := kq_X11_isDead_ebc78d) [.ref 69, .int x2] [] rfl ct_X11_isDead_ebc78d Hhp41 rfl rfl rfl (bs_rcv (g := 11) Hhp41 (bs_R.uq Hhp41 (g := 11) rfl) (by decide) rfl) rfl ?_ (sf_S_cons (sf_s1 (x := x2.toInt) rfl (by omega) (by omega)) (sf_S_nil)) fun r48 hp49 thp49 Hhp49 fhp49 ahp49 php49 => ?_
                    · intro q k h
                      match q, h with
                      | 0, h => cases h; exact bs_jR (bs_R.uq Hhp41 (g := 11) rfl)
                      | 1, h => cases h; exact sf_j0
                      | q + 2, h => cases h
                    obtain ⟨z50, rfl⟩ := bs_anI ahp49
                    have rgz50 := n_range z50
                    have Fhp49 := sf_fr_tr Fhp41 (sf_fr_wider (W := [(11, 0, 0), (11, 22, 22), (132, 120, 252), (139, 0, 132)]) rfl fhp49)
                    have h51 : sf_rd hp49 69 0 = some z1.toInt := (fhp49.2.2.1 _ (bs_R.uq Hhp41 (g := 11) (p := 69) rfl).1 _ (by rw [(bs_R.uq Hhp41 (g := 11) (p := 69) rfl).2]; rfl)).trans h43
                    have h52 : sf_rd hp49 71 1 = some z6.toInt := (fhp49.2.2.1 _ (bs_R.uq Hhp41 (g := 132) (p := 71) rfl).1 _ (by rw [(bs_R.uq Hhp41 (g := 132) (p := 71) rfl).2]; rfl)).trans h44
                    obtain ⟨uz50, vz50⟩ := bs_s1 (x := z50.toInt) rfl (php49 _ (List.mem_of_getElem? (i := 0) rfl))
                    refine (show Ev _ 39 ([some (.ref 69), some (.int x1), some (.int x2), none, none], [.int z50], (0, 0), hp49) _ from ?_)
                    refine bs_ifeq rfl (fun c53 => ?_) (fun c53 => ?_)
                    · skip
                      have c54 : z50.toInt = 0 := by omega
                      refine Ev.step (j := 45) (s' := ([some (.ref 69), some (.int x1), some (.int x2), none, none], [.ref 69], (0, 0), hp49)) rfl rfl ?_
                      refine bs_call (K := kq_X11_tries_h) [.ref 69] [] rfl ct_X11_tries_h Hhp49 rfl rfl rfl (bs_rcv (g := 11) Hhp49 (bs_R.uq Hhp49 (g := 11) rfl) (by decide) rfl) rfl ?_ (sf_S_nil) fun r55 hp56 thp56 Hhp56 fhp56 ahp56 php56 => ?_
                      · intro q k h
                        match q, h with
                        | 0, h => cases h; exact bs_jR (bs_R.uq Hhp49 (g := 11) rfl)
                        | q + 1, h => cases h
                      obtain rfl := ahp56.1 rfl
                      have Fhp56 := sf_fr_tr Fhp49 (sf_fr_wider (W := [(11, 0, 0), (11, 22, 22), (132, 120, 252), (139, 0, 132)]) rfl fhp56)
                      have h57 : sf_rd hp56 69 0 = some z1.toInt := (fhp56.2.2.1 _ (bs_R.uq Hhp49 (g := 11) (p := 69) rfl).1 _ (by rw [(bs_R.uq Hhp49 (g := 11) (p := 69) rfl).2]; rfl)).trans h51
                      have h58 : sf_rd hp56 71 1 = some z6.toInt := (fhp56.2.2.1 _ (bs_R.uq Hhp49 (g := 132) (p := 71) rfl).1 _ (by rw [(bs_R.uq Hhp49 (g := 132) (p := 71) rfl).2]; rfl)).trans h52
                      refine (show Ev _ 48 ([some (.ref 69), some (.int x1), some (.int x2), none, none], [], (0, 0), hp56) _ from ?_)
                      refine bs_lit (k := 0) rfl rfl fun z59 hz59 => ?_
                      refine Ev.step (j := 50) (s' := ([some (.ref 69), some (.int x1), some (.int x2), some (.int z59), none], [], (0, 0), hp56)) rfl rfl ?_
                      refine bs_lit (k := 1) rfl rfl fun z60 hz60 => ?_
                      refine Ev.step (j := 53) (s' := ([some (.ref 69), some (.int x1), some (.int x2), some (.int z59), some (.int z60)], [], (0, 0), hp56)) rfl rfl ?_
                      refine bs_loop (ι := Int32 × Int32 × ab_H × (Nat → Nat)) (fun ⟨k61, k62, hp63, t64⟩ => ([some (.ref 69), some (.int x1), some (.int x2), some (.int k61), some (.int k62)], [], (0, 0), hp63)) (fun ⟨k61, k62, hp63, t64⟩ => (sf_h t64 hp63) ∧ (sf_fr [(11, 0, 0), (11, 22, 22), (132, 120, 252), (139, 0, 132)] t hp t64 hp63) ∧ (0 ≤ k61.toInt ∧ (k62.toInt = 0 ∨ k61.toInt ≤ 100) ∧ k61.toInt ≤ 101)) (fun ⟨k61, k62, hp63, t64⟩ => (101 - k61.toInt).toNat) ?_ (z59, z60, hp56, thp56) ⟨Hhp56, Fhp56, (by first | omega | assumption)⟩
                      rintro ⟨k61, k62, hp63, t64⟩ ⟨Hhp63, Fhp63, i66⟩ ih65
                      refine (show Ev _ 53 ([some (.ref 69), some (.int x1), some (.int x2), some (.int k61), some (.int k62)], [], (0, 0), hp63) _ from ?_)
                      refine Ev.step (j := 55) (s' := ([some (.ref 69), some (.int x1), some (.int x2), some (.int k61), some (.int k62)], [.int k62], (0, 0), hp63)) rfl rfl ?_
                      refine bs_ifeq rfl (fun c67 => ?_) (fun c67 => ?_)
                      · skip
                        have c68 : k62.toInt = 0 := by omega
                        refine Ev.step (j := 96) (s' := ([some (.ref 69), some (.int x1), some (.int x2), some (.int k61), some (.int k62)], [.ref 69], (0, 0), hp63)) rfl rfl ?_
                        refine bs_call (K := kq_X11_back_h) [.ref 69] [] rfl ct_X11_back_h Hhp63 rfl rfl rfl (bs_rcv (g := 11) Hhp63 (bs_R.uq Hhp63 (g := 11) rfl) (by decide) rfl) rfl ?_ (sf_S_nil) fun r69 hp70 thp70 Hhp70 fhp70 ahp70 php70 => ?_
                        · intro q k h
                          match q, h with
                          | 0, h => cases h; exact bs_jR (bs_R.uq Hhp63 (g := 11) rfl)
                          | q + 1, h => cases h
                        obtain rfl := ahp70.1 rfl
                        have Fhp70 := sf_fr_tr Fhp63 (sf_fr_wider (W := [(11, 0, 0), (11, 22, 22), (132, 120, 252), (139, 0, 132)]) rfl fhp70)
                        refine (show Ev _ 99 ([some (.ref 69), some (.int x1), some (.int x2), some (.int k61), some (.int k62)], [], (0, 0), hp70) _ from ?_)
                        refine Ev.step (j := 101) (s' := ([some (.ref 69), some (.int x1), some (.int x2), some (.int k61), some (.int k62)], [.int k62], (0, 0), hp70)) rfl rfl ?_
                        refine bs_ifeq rfl (fun c71 => ?_) (fun c71 => ?_)
                        · skip
                          refine bs_lit (k := -1) rfl rfl fun z72 hz72 => ?_
                          exact Ev.ret rfl rfl (by rw [hQ]; exact ⟨thp70, Hhp70, Fhp70, bs_an0, sf_S_nil⟩)
                        · exfalso; omega
                      · skip
                        refine Ev.step (j := 59) (s' := ([some (.ref 69), some (.int x1), some (.int x2), some (.int k61), some (.int k62)], [.ref 69], (0, 0), hp63)) rfl rfl ?_
                        refine Ev.step (j := 60) (s' := ([some (.ref 69), some (.int x1), some (.int x2), some (.int k61), some (.int k62)], [.int x1, .ref 69], (0, 0), hp63)) rfl rfl ?_
                        refine Ev.step (j := 61) (s' := ([some (.ref 69), some (.int x1), some (.int x2), some (.int k61), some (.int k62)], [.int x2, .int x1, .ref 69], (0, 0), hp63)) rfl rfl ?_
                        refine bs_call (K := kq_X11_areUnlike_24a9f6) [.ref 69, .int x1, .int x2] [] rfl ct_X11_areUnlike_24a9f6 Hhp63 rfl rfl rfl (bs_rcv (g := 11) Hhp63 (bs_R.uq Hhp63 (g := 11) rfl) (by decide) rfl) rfl ?_ (sf_S_cons (sf_s1 (x := x1.toInt) rfl (by omega) (by omega)) (sf_S_cons (sf_s1 (x := x2.toInt) rfl (by omega) (by omega)) (sf_S_nil))) fun r73 hp74 thp74 Hhp74 fhp74 ahp74 php74 => ?_
                        · intro q k h
                          match q, h with
                          | 0, h => cases h; exact bs_jR (bs_R.uq Hhp63 (g := 11) rfl)
                          | 1, h => cases h; exact sf_j0
                          | 2, h => cases h; exact sf_j0
                          | q + 3, h => cases h
                        obtain ⟨z75, rfl⟩ := bs_anI ahp74
                        have rgz75 := n_range z75
                        have Fhp74 := sf_fr_tr Fhp63 (sf_fr_wider (W := [(11, 0, 0), (11, 22, 22), (132, 120, 252), (139, 0, 132)]) rfl fhp74)
                        obtain ⟨uz75, vz75⟩ := bs_s1 (x := z75.toInt) rfl (php74 _ (List.mem_of_getElem? (i := 0) rfl))
                        refine (show Ev _ 64 ([some (.ref 69), some (.int x1), some (.int x2), some (.int k61), some (.int k62)], [.int z75], (0, 0), hp74) _ from ?_)
                        refine bs_ifeq rfl (fun c76 => ?_) (fun c76 => ?_)
                        · skip
                          have c77 : z75.toInt = 0 := by omega
                          refine Ev.step (j := 96) (s' := ([some (.ref 69), some (.int x1), some (.int x2), some (.int k61), some (.int k62)], [.ref 69], (0, 0), hp74)) rfl rfl ?_
                          refine bs_call (K := kq_X11_back_h) [.ref 69] [] rfl ct_X11_back_h Hhp74 rfl rfl rfl (bs_rcv (g := 11) Hhp74 (bs_R.uq Hhp74 (g := 11) rfl) (by decide) rfl) rfl ?_ (sf_S_nil) fun r78 hp79 thp79 Hhp79 fhp79 ahp79 php79 => ?_
                          · intro q k h
                            match q, h with
                            | 0, h => cases h; exact bs_jR (bs_R.uq Hhp74 (g := 11) rfl)
                            | q + 1, h => cases h
                          obtain rfl := ahp79.1 rfl
                          have Fhp79 := sf_fr_tr Fhp74 (sf_fr_wider (W := [(11, 0, 0), (11, 22, 22), (132, 120, 252), (139, 0, 132)]) rfl fhp79)
                          refine (show Ev _ 99 ([some (.ref 69), some (.int x1), some (.int x2), some (.int k61), some (.int k62)], [], (0, 0), hp79) _ from ?_)
                          refine Ev.step (j := 101) (s' := ([some (.ref 69), some (.int x1), some (.int x2), some (.int k61), some (.int k62)], [.int k62], (0, 0), hp79)) rfl rfl ?_
                          refine bs_ifeq rfl (fun c80 => ?_) (fun c80 => ?_)
                          · skip
                            have c81 : k62.toInt = 0 := by omega
                            refine bs_lit (k := -1) rfl rfl fun z82 hz82 => ?_
                            exact Ev.ret rfl rfl (by rw [hQ]; exact ⟨thp79, Hhp79, Fhp79, bs_an0, sf_S_nil⟩)
                          · skip
                            refine Ev.step (j := 105) (s' := ([some (.ref 69), some (.int x1), some (.int x2), some (.int k61), some (.int k62)], [.int k61], (0, 0), hp79)) rfl rfl ?_
                            refine Ev.step (j := 109) (s' := ([some (.ref 69), some (.int x1), some (.int x2), some (.int k61), some (.int k62)], [.int k61], (0, 0), hp79)) rfl rfl ?_
                            exact Ev.ret rfl rfl (by rw [hQ]; exact ⟨thp79, Hhp79, Fhp79, bs_an0, sf_S_nil⟩)
                        · skip
                          refine Ev.step (j := 68) (s' := ([some (.ref 69), some (.int x1), some (.int x2), some (.int k61), some (.int k62)], [.int k61], (0, 0), hp74)) rfl rfl ?_
                          refine bs_lit (k := 100) rfl rfl fun z83 hz83 => ?_
                          refine bs_ge rfl (fun c84 => ?_) (fun c84 => ?_)
                          · skip
                            refine bs_lit (k := 0) rfl rfl fun z85 hz85 => ?_
                            refine Ev.step (j := 89) (s' := ([some (.ref 69), some (.int x1), some (.int x2), some (.int k61), some (.int z85)], [], (0, 0), hp74)) rfl rfl ?_
                            refine bs_iinc (1) rfl rfl rfl rfl (by omega) (by omega) fun z86 hz86 => ?_
                            refine (show Ev _ 92 ([some (.ref 69), some (.int x1), some (.int x2), some (.int z86), some (.int z85)], [], (0, 0), hp74) _ from ?_)
                            refine Ev.step (j := 53) (s' := ([some (.ref 69), some (.int x1), some (.int x2), some (.int z86), some (.int z85)], [], (0, 0), hp74)) rfl rfl ?_
                            refine ih65 (z86, z85, hp74, thp74) ⟨Hhp74, Fhp74, (by first | omega | assumption)⟩ ?_
                            show (101 - z86.toInt).toNat < (101 - k61.toInt).toNat
                            omega
                          · skip
                            refine Ev.step (j := 74) (s' := ([some (.ref 69), some (.int x1), some (.int x2), some (.int k61), some (.int k62)], [.ref 69], (0, 0), hp74)) rfl rfl ?_
                            refine bs_lit (k := 1) rfl rfl fun z87 hz87 => ?_
                            refine bs_call (K := kq_X11_goesOn_3d45d6) [.ref 69, .int z87] [] rfl ct_X11_goesOn_3d45d6 Hhp74 rfl rfl rfl (bs_rcv (g := 11) Hhp74 (bs_R.uq Hhp74 (g := 11) rfl) (by decide) rfl) rfl ?_ (sf_S_nil) fun r88 hp89 thp89 Hhp89 fhp89 ahp89 php89 => ?_
                            · intro q k h
                              match q, h with
                              | 0, h => cases h; exact bs_jR (bs_R.uq Hhp74 (g := 11) rfl)
                              | 1, h => cases h; exact sf_j0
                              | q + 2, h => cases h
                            obtain ⟨z90, rfl⟩ := bs_anI ahp89
                            have rgz90 := n_range z90
                            have Fhp89 := sf_fr_tr Fhp74 (sf_fr_wider (W := [(11, 0, 0), (11, 22, 22), (132, 120, 252), (139, 0, 132)]) rfl fhp89)
                            obtain ⟨uz90, vz90⟩ := bs_s1 (x := z90.toInt) rfl (php89 _ (List.mem_of_getElem? (i := 0) rfl))
                            refine (show Ev _ 78 ([some (.ref 69), some (.int x1), some (.int x2), some (.int k61), some (.int k62)], [.int z90], (0, 0), hp89) _ from ?_)
                            refine bs_lit (k := 1) rfl rfl fun z91 hz91 => ?_
                            refine bs_ne rfl (fun c92 => ?_) (fun c92 => ?_)
                            · skip
                              refine bs_lit (k := 0) rfl rfl fun z93 hz93 => ?_
                              refine Ev.step (j := 89) (s' := ([some (.ref 69), some (.int x1), some (.int x2), some (.int k61), some (.int z93)], [], (0, 0), hp89)) rfl rfl ?_
                              refine bs_iinc (1) rfl rfl rfl rfl (by omega) (by omega) fun z94 hz94 => ?_
                              refine (show Ev _ 92 ([some (.ref 69), some (.int x1), some (.int x2), some (.int z94), some (.int z93)], [], (0, 0), hp89) _ from ?_)
                              refine Ev.step (j := 53) (s' := ([some (.ref 69), some (.int x1), some (.int x2), some (.int z94), some (.int z93)], [], (0, 0), hp89)) rfl rfl ?_
                              refine ih65 (z94, z93, hp89, thp89) ⟨Hhp89, Fhp89, (by first | omega | assumption)⟩ ?_
                              show (101 - z94.toInt).toNat < (101 - k61.toInt).toNat
                              omega
                            · skip
                              have c95 : z90.toInt = 1 := by omega
                              refine bs_lit (k := 1) rfl rfl fun z96 hz96 => ?_
                              refine Ev.step (j := 87) (s' := ([some (.ref 69), some (.int x1), some (.int x2), some (.int k61), some (.int k62)], [.int z96], (0, 0), hp89)) rfl rfl ?_
                              refine Ev.step (j := 89) (s' := ([some (.ref 69), some (.int x1), some (.int x2), some (.int k61), some (.int z96)], [], (0, 0), hp89)) rfl rfl ?_
                              refine bs_iinc (1) rfl rfl rfl rfl (by omega) (by omega) fun z97 hz97 => ?_
                              refine (show Ev _ 92 ([some (.ref 69), some (.int x1), some (.int x2), some (.int z97), some (.int z96)], [], (0, 0), hp89) _ from ?_)
                              refine Ev.step (j := 53) (s' := ([some (.ref 69), some (.int x1), some (.int x2), some (.int z97), some (.int z96)], [], (0, 0), hp89)) rfl rfl ?_
                              refine ih65 (z97, z96, hp89, thp89) ⟨Hhp89, Fhp89, (by first | omega | assumption)⟩ ?_
                              show (101 - z97.toInt).toNat < (101 - k61.toInt).toNat
                              omega
                    · skip
                      refine bs_lit (k := -1) rfl rfl fun z98 hz98 => ?_
                      exact Ev.ret rfl rfl (by rw [hQ]; exact ⟨thp49, Hhp49, Fhp49, bs_an0, sf_S_nil⟩)
def kq_X11_missesOf_ebc78d : sf_Q := ([(1, 11, 0), (0, 0, 0)], [(1, 3, 0, 0, 7, 0)], some (0, 0, 0), [], [])
def kc_X11_missesOf_ebc78d : List (Nat × sf_I) := [(0, 0, [1, 0]),
  (1, 5, [2, 2]),
  (2, 0, [3, 0]),
  (3, 5, [4, 3]),
  (4, 2, [5, 3]),
  (5, 4, [6, 0]),
  (6, 23, [9, 11, 6]),
  (9, 0, [10, 1]),
  (10, 25, [11, 1]),
  (11, 21, [14, 39, 5]),
  (14, 2, [15, 2]),
  (15, 4, [16, 0]),
  (16, 2, [17, 1]),
  (17, 2, [18, 3]),
  (18, 32, [21, 0, 3, 11, 0, 0, 0, 0]),
  (21, 20, [24, 30, 0]),
  (24, 0, [25, 1]),
  (25, 2, [26, 3]),
  (26, 9, [27, 6]),
  (27, 22, [31]),
  (30, 0, [31, 0]),
  (31, 9, [32, 4]),
  (32, 5, [33, 2]),
  (33, 8, [36, 3, 1]),
  (36, 22, [4]),
  (39, 2, [40, 2]),
  (40, 35, [0, 0])]
def kd_X11_missesOf_ebc78d_0 : List (Nat × sf_D × sf_M) := [(0, ([(1, 11, 0), (0, 0, 0), (8, 0, 0), (8, 0, 0)], [], [(1, 4, 0, 0, 7, 0)], 0, 0), (206, [])),
  (1, ([(1, 11, 0), (0, 0, 0), (8, 0, 0), (8, 0, 0)], [(0, 0, 0)], [(1, 4, 0, 0, 7, 0), (1, 0, 0, 0, 0, 0)], 0, 0), (205, [])),
  (2, ([(1, 11, 0), (0, 0, 0), (0, 0, 0), (8, 0, 0)], [], [(1, 4, 0, 0, 7, 0), (1, 7, 0, 0, 0, 0)], 0, 0), (204, [])),
  (3, ([(1, 11, 0), (0, 0, 0), (0, 0, 0), (8, 0, 0)], [(0, 0, 0)], [(1, 4, 0, 0, 7, 0), (1, 7, 0, 0, 0, 0), (1, 0, 0, 0, 0, 0)], 0, 0), (203, [])),
  (4, ([(1, 11, 0), (0, 0, 0), (0, 0, 0), (0, 0, 0)], [], [(1, 4, 0, 0, 7, 0), (1, 7, 0, -2147483648, 2147483647, 0), (1, 10, 0, 0, 8, 0), (3, 10, 399005, 1, 8, 0)], 0, 0), (18, [(23, 10, 8, 0)])),
  (5, ([(1, 11, 0), (0, 0, 0), (0, 0, 0), (0, 0, 0)], [(0, 0, 0)], [(1, 4, 0, 0, 7, 0), (1, 7, 0, -2147483648, 2147483647, 0), (1, 10, 0, 0, 8, 0), (1, 0, 0, 0, 8, 0), (3, 10, 399005, 1, 8, 0), (2, 0, 10, 1, 0, 0)], 0, 0), (17, [(23, 10, 8, 0)])),
  (6, ([(1, 11, 0), (0, 0, 0), (0, 0, 0), (0, 0, 0)], [(1, 11, 0), (0, 0, 0)], [(1, 4, 0, 0, 7, 0), (1, 7, 0, -2147483648, 2147483647, 0), (1, 10, 0, 0, 8, 0), (1, 0, 0, 0, 8, 0), (3, 10, 399005, 1, 8, 0), (2, 0, 10, 1, 0, 0)], 0, 0), (16, [(23, 10, 8, 0)]))]
def kd_X11_missesOf_ebc78d_1 : List (Nat × sf_D × sf_M) := [(9, ([(1, 11, 0), (0, 0, 0), (0, 0, 0), (0, 0, 0)], [(1, 132, 0), (0, 0, 0)], [(1, 4, 0, 0, 7, 0), (1, 7, 0, -2147483648, 2147483647, 0), (1, 10, 0, 0, 8, 0), (1, 0, 0, 0, 8, 0), (3, 10, 399005, 1, 8, 0), (2, 0, 10, 1, 0, 0)], 0, 0), (15, [(23, 10, 8, 0)])),
  (10, ([(1, 11, 0), (0, 0, 0), (0, 0, 0), (0, 0, 0)], [(0, 0, 0), (1, 132, 0), (0, 0, 0)], [(1, 4, 0, 0, 7, 0), (1, 7, 0, -2147483648, 2147483647, 0), (1, 10, 0, 0, 8, 0), (1, 0, 0, 0, 8, 0), (1, 6, 0, 1, 1, 0), (2, 0, 10, 1, 0, 0), (3, 10, 399005, 1, 8, 0)], 0, 0), (14, [(23, 10, 8, 0)])),
  (11, ([(1, 11, 0), (0, 0, 0), (0, 0, 0), (0, 0, 0)], [(0, 0, 0), (0, 0, 0)], [(1, 4, 0, 0, 7, 0), (1, 7, 0, -2147483648, 2147483647, 0), (1, 10, 0, 0, 8, 0), (1, 0, 0, 0, 8, 0), (1, 3, 0, 0, 8, 0), (1, 399005, 0, -2147483648, 2147483647, 0), (2, 0, 10, 1, 0, 0), (3, 10, 399005, 1, 8, 0), (2, 3, 399005, 1, 0, 0)], 0, 0), (13, [(23, 10, 8, 0)])),
  (14, ([(1, 11, 0), (0, 0, 0), (0, 0, 0), (0, 0, 0)], [], [(1, 4, 0, 0, 7, 0), (1, 7, 0, -2147483648, 2147483647, 0), (1, 10, 0, 0, 7, 0), (1, 399005, 0, 1, 8, 0)], 0, 0), (12, [(23, 10, 8, 0)]))]
def kd_X11_missesOf_ebc78d_2 : List (Nat × sf_D × sf_M) := [(15, ([(1, 11, 0), (0, 0, 0), (0, 0, 0), (0, 0, 0)], [(0, 0, 0)], [(1, 4, 0, 0, 7, 0), (1, 7, 0, -2147483648, 2147483647, 0), (1, 10, 0, 0, 7, 0), (1, 399005, 0, 1, 8, 0), (1, 0, 0, -2147483648, 2147483647, 0), (2, 0, 7, 1, 0, 0)], 0, 0), (11, [(23, 10, 8, 0)])),
  (16, ([(1, 11, 0), (0, 0, 0), (0, 0, 0), (0, 0, 0)], [(1, 11, 0), (0, 0, 0)], [(1, 4, 0, 0, 7, 0), (1, 7, 0, -2147483648, 2147483647, 0), (1, 10, 0, 0, 7, 0), (1, 399005, 0, 1, 8, 0), (1, 0, 0, -2147483648, 2147483647, 0), (2, 0, 7, 1, 0, 0)], 0, 0), (10, [(23, 10, 8, 0)])),
  (17, ([(1, 11, 0), (0, 0, 0), (0, 0, 0), (0, 0, 0)], [(0, 0, 0), (1, 11, 0), (0, 0, 0)], [(1, 4, 0, 0, 7, 0), (1, 7, 0, -2147483648, 2147483647, 0), (1, 10, 0, 0, 7, 0), (1, 399005, 0, 1, 8, 0), (1, 0, 0, -2147483648, 2147483647, 0), (1, 6, 0, 0, 7, 0), (2, 0, 7, 1, 0, 0), (2, 6, 4, 1, 0, 0)], 0, 0), (9, [(23, 10, 8, 0)])),
  (18, ([(1, 11, 0), (0, 0, 0), (0, 0, 0), (0, 0, 0)], [(0, 0, 0), (0, 0, 0), (1, 11, 0), (0, 0, 0)], [(1, 4, 0, 0, 7, 0), (1, 7, 0, -2147483648, 2147483647, 0), (1, 10, 0, 0, 7, 0), (1, 399005, 0, 1, 8, 0), (1, 0, 0, -2147483648, 2147483647, 0), (1, 6, 0, 0, 7, 0), (1, 9, 0, 0, 7, 0), (2, 0, 7, 1, 0, 0), (2, 6, 4, 1, 0, 0), (2, 9, 10, 1, 0, 0)], 0, 0), (8, [(23, 10, 8, 0)]))]
def kd_X11_missesOf_ebc78d_3 : List (Nat × sf_D × sf_M) := [(21, ([(1, 11, 0), (0, 0, 0), (0, 0, 0), (0, 0, 0)], [(0, 0, 0), (0, 0, 0)], [(1, 4, 0, 0, 7, 0), (1, 7, 0, -2147483648, 2147483647, 0), (1, 10, 0, 0, 7, 0), (1, 399005, 0, 1, 8, 0), (1, 0, 0, -2147483648, 2147483647, 0), (1, 3, 0, 0, 1, 0), (2, 0, 7, 1, 0, 0)], 0, 0), (7, [(23, 10, 8, 0)])),
  (24, ([(1, 11, 0), (0, 0, 0), (0, 0, 0), (0, 0, 0)], [(0, 0, 0)], [(1, 4, 0, 0, 7, 0), (1, 7, 0, -2147483648, 2147483647, 0), (1, 10, 0, 0, 7, 0), (1, 399005, 0, 1, 8, 0), (1, 0, 0, -2147483648, 2147483647, 0), (2, 0, 7, 1, 0, 0)], 0, 0), (6, [(23, 10, 8, 0)])),
  (25, ([(1, 11, 0), (0, 0, 0), (0, 0, 0), (0, 0, 0)], [(0, 0, 0), (0, 0, 0)], [(1, 4, 0, 0, 7, 0), (1, 7, 0, -2147483648, 2147483647, 0), (1, 10, 0, 0, 7, 0), (1, 399005, 0, 1, 8, 0), (1, 0, 0, -2147483648, 2147483647, 0), (1, 3, 0, 1, 1, 0), (2, 0, 7, 1, 0, 0)], 0, 0), (5, [(23, 10, 8, 0)])),
  (26, ([(1, 11, 0), (0, 0, 0), (0, 0, 0), (0, 0, 0)], [(0, 0, 0), (0, 0, 0), (0, 0, 0)], [(1, 4, 0, 0, 7, 0), (1, 7, 0, -2147483648, 2147483647, 0), (1, 10, 0, 0, 7, 0), (1, 399005, 0, 1, 8, 0), (1, 0, 0, -2147483648, 2147483647, 0), (1, 3, 0, 1, 1, 0), (1, 6, 0, 0, 7, 0), (2, 0, 7, 1, 0, 0), (2, 6, 10, 1, 0, 0)], 0, 0), (4, [(23, 10, 8, 0)]))]
def kd_X11_missesOf_ebc78d_4 : List (Nat × sf_D × sf_M) := [(27, ([(1, 11, 0), (0, 0, 0), (0, 0, 0), (0, 0, 0)], [(0, 0, 0), (0, 0, 0)], [(1, 4, 0, 0, 7, 0), (1, 7, 0, -2147483648, 2147483647, 0), (1, 10, 0, 0, 7, 0), (1, 399005, 0, 1, 8, 0), (1, 0, 0, -2147483648, 2147483647, 0), (1, 3, 0, -2147483648, 2147483647, 0), (2, 0, 7, 1, 0, 0)], 0, 0), (3, [(23, 10, 8, 0)])),
  (30, ([(1, 11, 0), (0, 0, 0), (0, 0, 0), (0, 0, 0)], [(0, 0, 0)], [(1, 4, 0, 0, 7, 0), (1, 7, 0, -2147483648, 2147483647, 0), (1, 10, 0, 0, 7, 0), (1, 399005, 0, 1, 8, 0), (1, 0, 0, -2147483648, 2147483647, 0), (2, 0, 7, 1, 0, 0)], 0, 0), (3, [(23, 10, 8, 0)])),
  (31, ([(1, 11, 0), (0, 0, 0), (0, 0, 0), (0, 0, 0)], [(0, 0, 0), (0, 0, 0)], [(1, 4, 0, 0, 7, 0), (1, 7, 0, -2147483648, 2147483647, 0), (1, 10, 0, 0, 7, 0), (1, 399005, 0, 1, 8, 0), (1, 0, 0, -2147483648, 2147483647, 0), (1, 3, 0, -2147483648, 2147483647, 0), (2, 0, 7, 1, 0, 0)], 0, 0), (2, [(23, 10, 8, 0)])),
  (32, ([(1, 11, 0), (0, 0, 0), (0, 0, 0), (0, 0, 0)], [(0, 0, 0)], [(1, 4, 0, 0, 7, 0), (1, 7, 0, -2147483648, 2147483647, 0), (1, 10, 0, 0, 7, 0), (1, 399005, 0, 1, 8, 0), (1, 0, 0, -2147483648, 2147483647, 0)], 0, 0), (1, [(23, 10, 8, 0)])),
  (33, ([(1, 11, 0), (0, 0, 0), (0, 0, 0), (0, 0, 0)], [], [(1, 4, 0, 0, 7, 0), (1, 10, 0, 0, 7, 0), (1, 399005, 0, 1, 8, 0), (1, 7, 0, -2147483648, 2147483647, 0)], 0, 0), (0, [(23, 10, 8, 0)]))]
def kd_X11_missesOf_ebc78d_5 : List (Nat × sf_D × sf_M) := [(36, ([(1, 11, 0), (0, 0, 0), (0, 0, 0), (0, 0, 0)], [], [(1, 4, 0, 0, 7, 0), (1, 399005, 0, 1, 8, 0), (1, 7, 0, -2147483648, 2147483647, 0), (1, 10, 0, 1, 8, 0)], 0, 0), (19, [(23, 10, 8, 0)])),
  (39, ([(1, 11, 0), (0, 0, 0), (0, 0, 0), (0, 0, 0)], [], [(1, 4, 0, 0, 7, 0), (1, 7, 0, -2147483648, 2147483647, 0), (1, 10, 0, 0, 8, 0), (1, 399005, 0, 0, 8, 0), (3, 10, 399005, 1, 8, 0)], 0, 0), (1, [])),
  (40, ([(1, 11, 0), (0, 0, 0), (0, 0, 0), (0, 0, 0)], [(0, 0, 0)], [(1, 4, 0, 0, 7, 0), (1, 7, 0, -2147483648, 2147483647, 0), (1, 10, 0, 0, 8, 0), (1, 399005, 0, 0, 8, 0), (1, 0, 0, -2147483648, 2147483647, 0), (3, 10, 399005, 1, 8, 0), (2, 0, 7, 1, 0, 0)], 0, 0), (0, []))]
def kd_X11_missesOf_ebc78d : List (Nat × sf_D × sf_M) := kd_X11_missesOf_ebc78d_0 ++ (kd_X11_missesOf_ebc78d_1 ++ (kd_X11_missesOf_ebc78d_2 ++ (kd_X11_missesOf_ebc78d_3 ++ (kd_X11_missesOf_ebc78d_4 ++ (kd_X11_missesOf_ebc78d_5)))))
set_option maxRecDepth 100000 in
theorem kt_X11_missesOf_ebc78d : sf_chk [kq_X11_doesMiss_24a9f6] kq_X11_missesOf_ebc78d 4 kc_X11_missesOf_ebc78d kd_X11_missesOf_ebc78d = true := by decide +kernel
set_option maxRecDepth 100000 in
theorem kl_X11_missesOf_ebc78d : (kc_X11_missesOf_ebc78d).map (fun c => (c.1, sf_den ([Z_X11_doesMiss] : List sf_X) c.2)) = L_X11_missesOf Z_X11_doesMiss := rfl
theorem ct_X11_missesOf_ebc78d : sf_ct kq_X11_missesOf_ebc78d Z_X11_missesOf := by
  have h := sf_meth (K := [kq_X11_doesMiss_24a9f6]) (E := [Z_X11_doesMiss]) (k := kq_X11_missesOf_ebc78d) (nL := 4) (C := kc_X11_missesOf_ebc78d) (D := kd_X11_missesOf_ebc78d) (fun m k hk => match m, hk with
    | 0, hk => (Option.some.inj hk) ▸ ct_X11_doesMiss_24a9f6
    | _ + 1, hk => (by cases hk)) kt_X11_missesOf_ebc78d
  rw [kl_X11_missesOf_ebc78d] at h
  exact h
def kq_X11_man_h : sf_Q := ([(1, 11, 0), (0, 0, 0), (0, 0, 0)], [], some (0, 0, 0), [], [(11, 0, 0)])
set_option maxRecDepth 100000 in
set_option maxHeartbeats 4000000 in
theorem ct_X11_man_h : sf_ct kq_X11_man_h Z_X11_man := by
  intro t hp as H hl hj hpre
  match as, hl with
  | [v0, v1, v2], _ =>
    obtain ⟨a0, rfl, ra0⟩ := bs_aR (hj 0 _ rfl)
    obtain rfl := ra0.eq H (p := 69) rfl
    obtain ⟨x1, rfl⟩ := bs_aI (hj 1 _ rfl)
    have rg1 := n_range x1
    obtain ⟨x2, rfl⟩ := bs_aI (hj 2 _ rfl)
    have rg2 := n_range x2
    clear hpre hj
    have F0 : sf_fr [(11, 0, 0)] t hp t hp := sf_fr_rf
    refine bs_fin (K := kq_X11_man_h) (L := (L_X11_man Z_X11_isMan Z_X11_isIn Z_X11_throwsIf Z_X11_isDead Z_X11_missedBy Z_X11_missesOf)) (nL := 3) (Nat.le_of_ble_eq_true rfl) ?_
    obtain ⟨Q, hQ⟩ : ∃ Q : ab_O → Prop, Q = (fun o => ∃ t', sf_h t' o.2 ∧ sf_fr (kq_X11_man_h).2.2.2.2 t hp t' o.2 ∧ sf_an t' o.2.1 (kq_X11_man_h).2.2.1 o.1 ∧ sf_S (sf_v1 o.1 [.ref 69, .int x1, .int x2] o.2) (kq_X11_man_h).2.2.2.1) := ⟨_, rfl⟩
    rw [← hQ]
    refine (show Ev (ab_T (L_X11_man Z_X11_isMan Z_X11_isIn Z_X11_throwsIf Z_X11_isDead Z_X11_missedBy Z_X11_missesOf)) 0 ([some (.ref 69), some (.int x1), some (.int x2)], [], (0, 0), hp) Q from ?_)
    refine Ev.step (j := 1) (s' := ([some (.ref 69), some (.int x1), some (.int x2)], [.ref 69], (0, 0), hp)) rfl rfl ?_
    refine Ev.step (j := 2) (s' := ([some (.ref 69), some (.int x1), some (.int x2)], [.ref 69, .ref 69], (0, 0), hp)) rfl rfl ?_
    refine Ev.step (j := 3) (s' := ([some (.ref 69), some (.int x1), some (.int x2)], [.int x1, .ref 69, .ref 69], (0, 0), hp)) rfl rfl ?_
    refine Ev.inl (L := (L_X11_isMan Z_X11_isIn)) (nL := 2) rfl (bs_rcv (g := 11) H (bs_R.uq H (g := 11) rfl) (by decide) rfl) rfl (Nat.le_of_ble_eq_true rfl) ?_
    generalize hQ1 : (fun (o : ab_O) => Ev _ _ _ _) = Q1
    refine (show Ev (ab_T (L_X11_isMan Z_X11_isIn)) 0 ([some (.ref 69), some (.int x1)], [], (0, 0), hp) Q1 from ?_)
    refine Ev.step (j := 1) (s' := ([some (.ref 69), some (.int x1)], [.int x1], (0, 0), hp)) rfl rfl ?_
    refine bs_lit (k := 0) rfl rfl fun z2 hz2 => ?_
    refine Ev.step (j := 3) (s' := ([some (.ref 69), some (.int x1)], [.ref 69, .int z2, .int x1], (0, 0), hp)) rfl rfl ?_
    refine bs_getU (g := 11) (g1 := 132) rfl rfl H (bs_R.uq H (g := 11) rfl) (by decide) rfl rfl ?_
    refine bs_lit (k := 1) rfl rfl fun z3 hz3 => ?_
    refine bs_ld (g := 132) 1 1 (0, 8) rfl H (bs_R.uq H (g := 132) rfl) (by decide) rfl (by decide) (by decide) rfl (by decide) (by omega) (by omega) fun z4 hz4 lz4 gz4 => ?_
    dsimp only at lz4 gz4
    replace hz4 := bs_at hz4 (show z3.toInt.toNat = 1 by omega)
    refine bs_lit (k := 1) rfl rfl fun z5 hz5 => ?_
    first | (refine bs_sub rfl (by omega) (by omega) fun z6 hz6 => ?_) | (refine bs_any rfl fun z6 => ?_)
    have rz6 := n_range z6
    refine Ev.inlS (L := L_X11_isIn) (nL := 3) rfl rfl (Nat.le_of_ble_eq_true rfl) ?_
    generalize hQ7 : (fun (o : ab_O) => Ev _ _ _ _) = Q7
    refine (show Ev (ab_T L_X11_isIn) 0 ([some (.int x1), some (.int z2), some (.int z6)], [], (0, 0), hp) Q7 from ?_)
    refine Ev.step (j := 1) (s' := ([some (.int x1), some (.int z2), some (.int z6)], [.int x1], (0, 0), hp)) rfl rfl ?_
    refine Ev.step (j := 2) (s' := ([some (.int x1), some (.int z2), some (.int z6)], [.int z2, .int x1], (0, 0), hp)) rfl rfl ?_
    refine bs_lt rfl (fun c8 => ?_) (fun c8 => ?_)
    · skip
      refine bs_lit (k := 0) rfl rfl fun z9 hz9 => ?_
      refine bs_zret rfl rfl (by omega) (by omega) ?_
      rw [← hQ7]
      refine (show Ev _ 13 ([some (.ref 69), some (.int x1)], [.int z9], (0, 0), hp) _ from ?_)
      refine bs_zret rfl rfl (by omega) (by omega) ?_
      rw [← hQ1]
      refine (show Ev _ 6 ([some (.ref 69), some (.int x1), some (.int x2)], [.int z9, .ref 69], (0, 0), hp) _ from ?_)
      refine bs_ifeq rfl (fun c10 => ?_) (fun c10 => ?_)
      · skip
        refine bs_lit (k := 1) rfl rfl fun z11 hz11 => ?_
        refine Ev.step (j := 23) (s' := ([some (.ref 69), some (.int x1), some (.int x2)], [.int z11, .ref 69], (0, 0), hp)) rfl rfl ?_
        refine Ev.inl (L := L_X11_throwsIf) (nL := 2) rfl (bs_rcv (g := 11) H (bs_R.uq H (g := 11) rfl) (by decide) rfl) rfl (Nat.le_of_ble_eq_true rfl) ?_
        generalize hQ12 : (fun (o : ab_O) => Ev _ _ _ _) = Q12
        refine (show Ev (ab_T L_X11_throwsIf) 0 ([some (.ref 69), some (.int z11)], [], (0, 0), hp) Q12 from ?_)
        refine Ev.step (j := 1) (s' := ([some (.ref 69), some (.int z11)], [.ref 69], (0, 0), hp)) rfl rfl ?_
        refine Ev.step (j := 2) (s' := ([some (.ref 69), some (.int z11)], [.int z11, .ref 69], (0, 0), hp)) rfl rfl ?_
        refine bs_ifeq rfl (fun c13 => ?_) (fun c13 => ?_)
        · exfalso; omega
        · skip
          refine bs_lit (k := 1) rfl rfl fun z14 hz14 => ?_
          refine Ev.step (j := 10) (s' := ([some (.ref 69), some (.int z11)], [.int z14, .ref 69], (0, 0), hp)) rfl rfl ?_
          refine bs_putI (W := [(11, 0, 0)]) (g := 11) rfl rfl H (bs_R.uq H (g := 11) rfl) (by decide) rfl rfl rfl rfl (Or.inl rfl) (by omega) (by omega) fun hp15 Hhp15 fhp15 rhp15 ehp15 qhp15 nhp15 => ?_
          have Fhp15 := sf_fr_tr F0 (sf_fr_wider (W := [(11, 0, 0)]) rfl fhp15)
          have h16 : sf_rd hp15 71 1 = some z4.toInt := (ehp15 _ _ (Or.inl (by decide))).trans hz4
          refine Ev.step (j := 14) (s' := ([some (.ref 69), some (.int z11)], [.int z11], (0, 0), hp15)) rfl rfl ?_
          refine bs_zret rfl rfl (by omega) (by omega) ?_
          rw [← hQ12]
          refine (show Ev _ 26 ([some (.ref 69), some (.int x1), some (.int x2)], [.int z11], (0, 0), hp15) _ from ?_)
          refine bs_ifeq rfl (fun c17 => ?_) (fun c17 => ?_)
          · exfalso; omega
          · skip
            refine bs_lit (k := 0) rfl rfl fun z18 hz18 => ?_
            exact Ev.ret rfl rfl (by rw [hQ]; exact ⟨t, Hhp15, Fhp15, bs_an0, sf_S_nil⟩)
      · exfalso; omega
    · skip
      refine Ev.step (j := 6) (s' := ([some (.int x1), some (.int z2), some (.int z6)], [.int x1], (0, 0), hp)) rfl rfl ?_
      refine Ev.step (j := 7) (s' := ([some (.int x1), some (.int z2), some (.int z6)], [.int z6, .int x1], (0, 0), hp)) rfl rfl ?_
      refine bs_gt rfl (fun c19 => ?_) (fun c19 => ?_)
      · skip
        refine bs_lit (k := 0) rfl rfl fun z20 hz20 => ?_
        refine bs_zret rfl rfl (by omega) (by omega) ?_
        rw [← hQ7]
        refine (show Ev _ 13 ([some (.ref 69), some (.int x1)], [.int z20], (0, 0), hp) _ from ?_)
        refine bs_zret rfl rfl (by omega) (by omega) ?_
        rw [← hQ1]
        refine (show Ev _ 6 ([some (.ref 69), some (.int x1), some (.int x2)], [.int z20, .ref 69], (0, 0), hp) _ from ?_)
        refine bs_ifeq rfl (fun c21 => ?_) (fun c21 => ?_)
        · skip
          refine bs_lit (k := 1) rfl rfl fun z22 hz22 => ?_
          refine Ev.step (j := 23) (s' := ([some (.ref 69), some (.int x1), some (.int x2)], [.int z22, .ref 69], (0, 0), hp)) rfl rfl ?_
          refine Ev.inl (L := L_X11_throwsIf) (nL := 2) rfl (bs_rcv (g := 11) H (bs_R.uq H (g := 11) rfl) (by decide) rfl) rfl (Nat.le_of_ble_eq_true rfl) ?_
          generalize hQ23 : (fun (o : ab_O) => Ev _ _ _ _) = Q23
          refine (show Ev (ab_T L_X11_throwsIf) 0 ([some (.ref 69), some (.int z22)], [], (0, 0), hp) Q23 from ?_)
          refine Ev.step (j := 1) (s' := ([some (.ref 69), some (.int z22)], [.ref 69], (0, 0), hp)) rfl rfl ?_
          refine Ev.step (j := 2) (s' := ([some (.ref 69), some (.int z22)], [.int z22, .ref 69], (0, 0), hp)) rfl rfl ?_
          refine bs_ifeq rfl (fun c24 => ?_) (fun c24 => ?_)
          · exfalso; omega
          · skip
            refine bs_lit (k := 1) rfl rfl fun z25 hz25 => ?_
            refine Ev.step (j := 10) (s' := ([some (.ref 69), some (.int z22)], [.int z25, .ref 69], (0, 0), hp)) rfl rfl ?_
            refine bs_putI (W := [(11, 0, 0)]) (g := 11) rfl rfl H (bs_R.uq H (g := 11) rfl) (by decide) rfl rfl rfl rfl (Or.inl rfl) (by omega) (by omega) fun hp26 Hhp26 fhp26 rhp26 ehp26 qhp26 nhp26 => ?_
            have Fhp26 := sf_fr_tr F0 (sf_fr_wider (W := [(11, 0, 0)]) rfl fhp26)
            have h27 : sf_rd hp26 71 1 = some z4.toInt := (ehp26 _ _ (Or.inl (by decide))).trans hz4
            refine Ev.step (j := 14) (s' := ([some (.ref 69), some (.int z22)], [.int z22], (0, 0), hp26)) rfl rfl ?_
            refine bs_zret rfl rfl (by omega) (by omega) ?_
            rw [← hQ23]
            refine (show Ev _ 26 ([some (.ref 69), some (.int x1), some (.int x2)], [.int z22], (0, 0), hp26) _ from ?_)
            refine bs_ifeq rfl (fun c28 => ?_) (fun c28 => ?_)
            · exfalso; omega
            · skip
              refine bs_lit (k := 0) rfl rfl fun z29 hz29 => ?_
              exact Ev.ret rfl rfl (by rw [hQ]; exact ⟨t, Hhp26, Fhp26, bs_an0, sf_S_nil⟩)
        · exfalso; omega
      · skip
        refine bs_lit (k := 1) rfl rfl fun z30 hz30 => ?_
        refine Ev.step (j := 15) (s' := ([some (.int x1), some (.int z2), some (.int z6)], [.int z30], (0, 0), hp)) rfl rfl ?_
        refine bs_zret rfl rfl (by omega) (by omega) ?_
        rw [← hQ7]
        refine (show Ev _ 13 ([some (.ref 69), some (.int x1)], [.int z30], (0, 0), hp) _ from ?_)
        refine bs_zret rfl rfl (by omega) (by omega) ?_
        rw [← hQ1]
        refine (show Ev _ 6 ([some (.ref 69), some (.int x1), some (.int x2)], [.int z30, .ref 69], (0, 0), hp) _ from ?_)
        refine bs_ifeq rfl (fun c31 => ?_) (fun c31 => ?_)
        · exfalso; omega
        · skip
          refine Ev.step (j := 10) (s' := ([some (.ref 69), some (.int x1), some (.int x2)], [.int x2, .ref 69], (0, 0), hp)) rfl rfl ?_
          refine bs_lit (k := 0) rfl rfl fun z32 hz32 => ?_
          refine bs_lit (k := 4) rfl rfl fun z33 hz33 => ?_
          refine Ev.inlS (L := L_X11_isIn) (nL := 3) rfl rfl (Nat.le_of_ble_eq_true rfl) ?_
          generalize hQ34 : (fun (o : ab_O) => Ev _ _ _ _) = Q34
          refine (show Ev (ab_T L_X11_isIn) 0 ([some (.int x2), some (.int z32), some (.int z33)], [], (0, 0), hp) Q34 from ?_)
          refine Ev.step (j := 1) (s' := ([some (.int x2), some (.int z32), some (.int z33)], [.int x2], (0, 0), hp)) rfl rfl ?_
          refine Ev.step (j := 2) (s' := ([some (.int x2), some (.int z32), some (.int z33)], [.int z32, .int x2], (0, 0), hp)) rfl rfl ?_
          refine bs_lt rfl (fun c35 => ?_) (fun c35 => ?_)
          · skip
            refine bs_lit (k := 0) rfl rfl fun z36 hz36 => ?_
            refine bs_zret rfl rfl (by omega) (by omega) ?_
            rw [← hQ34]
            refine (show Ev _ 15 ([some (.ref 69), some (.int x1), some (.int x2)], [.int z36, .ref 69], (0, 0), hp) _ from ?_)
            refine bs_ifne rfl (fun c37 => ?_) (fun c37 => ?_)
            · exfalso; omega
            · skip
              refine bs_lit (k := 1) rfl rfl fun z38 hz38 => ?_
              refine Ev.step (j := 23) (s' := ([some (.ref 69), some (.int x1), some (.int x2)], [.int z38, .ref 69], (0, 0), hp)) rfl rfl ?_
              refine Ev.inl (L := L_X11_throwsIf) (nL := 2) rfl (bs_rcv (g := 11) H (bs_R.uq H (g := 11) rfl) (by decide) rfl) rfl (Nat.le_of_ble_eq_true rfl) ?_
              generalize hQ39 : (fun (o : ab_O) => Ev _ _ _ _) = Q39
              refine (show Ev (ab_T L_X11_throwsIf) 0 ([some (.ref 69), some (.int z38)], [], (0, 0), hp) Q39 from ?_)
              refine Ev.step (j := 1) (s' := ([some (.ref 69), some (.int z38)], [.ref 69], (0, 0), hp)) rfl rfl ?_
              refine Ev.step (j := 2) (s' := ([some (.ref 69), some (.int z38)], [.int z38, .ref 69], (0, 0), hp)) rfl rfl ?_
              refine bs_ifeq rfl (fun c40 => ?_) (fun c40 => ?_)
              · exfalso; omega
              · skip
                refine bs_lit (k := 1) rfl rfl fun z41 hz41 => ?_
                refine Ev.step (j := 10) (s' := ([some (.ref 69), some (.int z38)], [.int z41, .ref 69], (0, 0), hp)) rfl rfl ?_
                refine bs_putI (W := [(11, 0, 0)]) (g := 11) rfl rfl H (bs_R.uq H (g := 11) rfl) (by decide) rfl rfl rfl rfl (Or.inl rfl) (by omega) (by omega) fun hp42 Hhp42 fhp42 rhp42 ehp42 qhp42 nhp42 => ?_
                have Fhp42 := sf_fr_tr F0 (sf_fr_wider (W := [(11, 0, 0)]) rfl fhp42)
                have h43 : sf_rd hp42 71 1 = some z4.toInt := (ehp42 _ _ (Or.inl (by decide))).trans hz4
                refine Ev.step (j := 14) (s' := ([some (.ref 69), some (.int z38)], [.int z38], (0, 0), hp42)) rfl rfl ?_
                refine bs_zret rfl rfl (by omega) (by omega) ?_
                rw [← hQ39]
                refine (show Ev _ 26 ([some (.ref 69), some (.int x1), some (.int x2)], [.int z38], (0, 0), hp42) _ from ?_)
                refine bs_ifeq rfl (fun c44 => ?_) (fun c44 => ?_)
                · exfalso; omega
                · skip
                  refine bs_lit (k := 0) rfl rfl fun z45 hz45 => ?_
                  exact Ev.ret rfl rfl (by rw [hQ]; exact ⟨t, Hhp42, Fhp42, bs_an0, sf_S_nil⟩)
          · skip
            refine Ev.step (j := 6) (s' := ([some (.int x2), some (.int z32), some (.int z33)], [.int x2], (0, 0), hp)) rfl rfl ?_
            refine Ev.step (j := 7) (s' := ([some (.int x2), some (.int z32), some (.int z33)], [.int z33, .int x2], (0, 0), hp)) rfl rfl ?_
            refine bs_gt rfl (fun c46 => ?_) (fun c46 => ?_)
            · skip
              refine bs_lit (k := 0) rfl rfl fun z47 hz47 => ?_
              refine bs_zret rfl rfl (by omega) (by omega) ?_
              rw [← hQ34]
              refine (show Ev _ 15 ([some (.ref 69), some (.int x1), some (.int x2)], [.int z47, .ref 69], (0, 0), hp) _ from ?_)
              refine bs_ifne rfl (fun c48 => ?_) (fun c48 => ?_)
              · exfalso; omega
              · skip
                refine bs_lit (k := 1) rfl rfl fun z49 hz49 => ?_
                refine Ev.step (j := 23) (s' := ([some (.ref 69), some (.int x1), some (.int x2)], [.int z49, .ref 69], (0, 0), hp)) rfl rfl ?_
                refine Ev.inl (L := L_X11_throwsIf) (nL := 2) rfl (bs_rcv (g := 11) H (bs_R.uq H (g := 11) rfl) (by decide) rfl) rfl (Nat.le_of_ble_eq_true rfl) ?_
                generalize hQ50 : (fun (o : ab_O) => Ev _ _ _ _) = Q50
                refine (show Ev (ab_T L_X11_throwsIf) 0 ([some (.ref 69), some (.int z49)], [], (0, 0), hp) Q50 from ?_)
                refine Ev.step (j := 1) (s' := ([some (.ref 69), some (.int z49)], [.ref 69], (0, 0), hp)) rfl rfl ?_
                refine Ev.step (j := 2) (s' := ([some (.ref 69), some (.int z49)], [.int z49, .ref 69], (0, 0), hp)) rfl rfl ?_
                refine bs_ifeq rfl (fun c51 => ?_) (fun c51 => ?_)
                · exfalso; omega
                · skip
                  refine bs_lit (k := 1) rfl rfl fun z52 hz52 => ?_
                  refine Ev.step (j := 10) (s' := ([some (.ref 69), some (.int z49)], [.int z52, .ref 69], (0, 0), hp)) rfl rfl ?_
                  refine bs_putI (W := [(11, 0, 0)]) (g := 11) rfl rfl H (bs_R.uq H (g := 11) rfl) (by decide) rfl rfl rfl rfl (Or.inl rfl) (by omega) (by omega) fun hp53 Hhp53 fhp53 rhp53 ehp53 qhp53 nhp53 => ?_
                  have Fhp53 := sf_fr_tr F0 (sf_fr_wider (W := [(11, 0, 0)]) rfl fhp53)
                  have h54 : sf_rd hp53 71 1 = some z4.toInt := (ehp53 _ _ (Or.inl (by decide))).trans hz4
                  refine Ev.step (j := 14) (s' := ([some (.ref 69), some (.int z49)], [.int z49], (0, 0), hp53)) rfl rfl ?_
                  refine bs_zret rfl rfl (by omega) (by omega) ?_
                  rw [← hQ50]
                  refine (show Ev _ 26 ([some (.ref 69), some (.int x1), some (.int x2)], [.int z49], (0, 0), hp53) _ from ?_)
                  refine bs_ifeq rfl (fun c55 => ?_) (fun c55 => ?_)
                  · exfalso; omega
                  · skip
                    refine bs_lit (k := 0) rfl rfl fun z56 hz56 => ?_
                    exact Ev.ret rfl rfl (by rw [hQ]; exact ⟨t, Hhp53, Fhp53, bs_an0, sf_S_nil⟩)
            · skip
              refine bs_lit (k := 1) rfl rfl fun z57 hz57 => ?_
              refine Ev.step (j := 15) (s' := ([some (.int x2), some (.int z32), some (.int z33)], [.int z57], (0, 0), hp)) rfl rfl ?_
              refine bs_zret rfl rfl (by omega) (by omega) ?_
              rw [← hQ34]
              refine (show Ev _ 15 ([some (.ref 69), some (.int x1), some (.int x2)], [.int z57, .ref 69], (0, 0), hp) _ from ?_)
              refine bs_ifne rfl (fun c58 => ?_) (fun c58 => ?_)
              · skip
                refine bs_lit (k := 0) rfl rfl fun z59 hz59 => ?_
                refine Ev.inl (L := L_X11_throwsIf) (nL := 2) rfl (bs_rcv (g := 11) H (bs_R.uq H (g := 11) rfl) (by decide) rfl) rfl (Nat.le_of_ble_eq_true rfl) ?_
                generalize hQ60 : (fun (o : ab_O) => Ev _ _ _ _) = Q60
                refine (show Ev (ab_T L_X11_throwsIf) 0 ([some (.ref 69), some (.int z59)], [], (0, 0), hp) Q60 from ?_)
                refine Ev.step (j := 1) (s' := ([some (.ref 69), some (.int z59)], [.ref 69], (0, 0), hp)) rfl rfl ?_
                refine Ev.step (j := 2) (s' := ([some (.ref 69), some (.int z59)], [.int z59, .ref 69], (0, 0), hp)) rfl rfl ?_
                refine bs_ifeq rfl (fun c61 => ?_) (fun c61 => ?_)
                · skip
                  refine bs_lit (k := 0) rfl rfl fun z62 hz62 => ?_
                  refine bs_putI (W := [(11, 0, 0)]) (g := 11) rfl rfl H (bs_R.uq H (g := 11) rfl) (by decide) rfl rfl rfl rfl (Or.inl rfl) (by omega) (by omega) fun hp63 Hhp63 fhp63 rhp63 ehp63 qhp63 nhp63 => ?_
                  have Fhp63 := sf_fr_tr F0 (sf_fr_wider (W := [(11, 0, 0)]) rfl fhp63)
                  have h64 : sf_rd hp63 71 1 = some z4.toInt := (ehp63 _ _ (Or.inl (by decide))).trans hz4
                  refine Ev.step (j := 14) (s' := ([some (.ref 69), some (.int z59)], [.int z59], (0, 0), hp63)) rfl rfl ?_
                  refine bs_zret rfl rfl (by omega) (by omega) ?_
                  rw [← hQ60]
                  refine (show Ev _ 26 ([some (.ref 69), some (.int x1), some (.int x2)], [.int z59], (0, 0), hp63) _ from ?_)
                  refine bs_ifeq rfl (fun c65 => ?_) (fun c65 => ?_)
                  · skip
                    refine Ev.step (j := 32) (s' := ([some (.ref 69), some (.int x1), some (.int x2)], [.int x2], (0, 0), hp63)) rfl rfl ?_
                    rcases (show x2.toInt = 0 ∨ x2.toInt = 1 ∨ x2.toInt = 2 ∨ x2.toInt = 3 ∨ (x2.toInt < 0 ∨ 4 ≤ x2.toInt) by omega) with c66 | c66 | c66 | c66 | c66
                    · refine bs_tab 0 rfl (by omega) rfl ?_
                      refine Ev.step (j := 65) (s' := ([some (.ref 69), some (.int x1), some (.int x2)], [.ref 69], (0, 0), hp63)) rfl rfl ?_
                      refine Ev.step (j := 66) (s' := ([some (.ref 69), some (.int x1), some (.int x2)], [.int x1, .ref 69], (0, 0), hp63)) rfl rfl ?_
                      refine bs_call (K := kq_X11_isDead_ebc78d) [.ref 69, .int x1] [] rfl ct_X11_isDead_ebc78d Hhp63 rfl rfl rfl (bs_rcv (g := 11) Hhp63 (bs_R.uq Hhp63 (g := 11) rfl) (by decide) rfl) rfl ?_ (sf_S_cons (sf_s1 (x := x1.toInt) rfl (by omega) (by omega)) (sf_S_nil)) fun r67 hp68 thp68 Hhp68 fhp68 ahp68 php68 => ?_
                      · intro q k h
                        match q, h with
                        | 0, h => cases h; exact bs_jR (bs_R.uq Hhp63 (g := 11) rfl)
                        | 1, h => cases h; exact sf_j0
                        | q + 2, h => cases h
                      obtain ⟨z69, rfl⟩ := bs_anI ahp68
                      have rgz69 := n_range z69
                      have Fhp68 := sf_fr_tr Fhp63 (sf_fr_wider (W := [(11, 0, 0)]) rfl fhp68)
                      have h70 : sf_rd hp68 71 1 = some z4.toInt := (fhp68.2.2.1 _ (bs_R.uq Hhp63 (g := 132) (p := 71) rfl).1 _ (by rw [(bs_R.uq Hhp63 (g := 132) (p := 71) rfl).2]; rfl)).trans h64
                      have h71 : sf_rd hp68 69 0 = some z62.toInt := (fhp68.2.2.1 _ (bs_R.uq Hhp63 (g := 11) (p := 69) rfl).1 _ (by rw [(bs_R.uq Hhp63 (g := 11) (p := 69) rfl).2]; rfl)).trans rhp63
                      obtain ⟨uz69, vz69⟩ := bs_s1 (x := z69.toInt) rfl (php68 _ (List.mem_of_getElem? (i := 0) rfl))
                      refine (show Ev _ 69 ([some (.ref 69), some (.int x1), some (.int x2)], [.int z69], (0, 0), hp68) _ from ?_)
                      refine bs_ifeq rfl (fun c72 => ?_) (fun c72 => ?_)
                      · skip
                        have c73 : z69.toInt = 0 := by omega
                        refine Ev.step (j := 77) (s' := ([some (.ref 69), some (.int x1), some (.int x2)], [.ref 69], (0, 0), hp68)) rfl rfl ?_
                        refine bs_getU (g := 11) (g1 := 132) rfl rfl Hhp68 (bs_R.uq Hhp68 (g := 11) rfl) (by decide) rfl rfl ?_
                        refine bs_lit (k := 172) rfl rfl fun z74 hz74 => ?_
                        refine Ev.step (j := 84) (s' := ([some (.ref 69), some (.int x1), some (.int x2)], [.int x1, .int z74, .ref 71], (0, 0), hp68)) rfl rfl ?_
                        first | (refine bs_add rfl (by omega) (by omega) fun z75 hz75 => ?_) | (refine bs_any rfl fun z75 => ?_)
                        have rz75 := n_range z75
                        refine bs_ld (g := 132) 172 179 (-2147483648, 2147483647) rfl Hhp68 (bs_R.uq Hhp68 (g := 132) rfl) (by decide) rfl (by decide) (by decide) rfl (by decide) (by omega) (by omega) fun z76 hz76 lz76 gz76 => ?_
                        dsimp only at lz76 gz76
                        exact Ev.ret rfl rfl (by rw [hQ]; exact ⟨thp68, Hhp68, Fhp68, bs_an0, sf_S_nil⟩)
                      · skip
                        refine bs_lit (k := -1) rfl rfl fun z77 hz77 => ?_
                        refine Ev.step (j := 86) (s' := ([some (.ref 69), some (.int x1), some (.int x2)], [.int z77], (0, 0), hp68)) rfl rfl ?_
                        exact Ev.ret rfl rfl (by rw [hQ]; exact ⟨thp68, Hhp68, Fhp68, bs_an0, sf_S_nil⟩)
                    · refine bs_tab 1 rfl (by omega) rfl ?_
                      refine Ev.step (j := 88) (s' := ([some (.ref 69), some (.int x1), some (.int x2)], [.ref 69], (0, 0), hp63)) rfl rfl ?_
                      refine Ev.step (j := 89) (s' := ([some (.ref 69), some (.int x1), some (.int x2)], [.int x1, .ref 69], (0, 0), hp63)) rfl rfl ?_
                      refine bs_call (K := kq_X11_missedBy_ebc78d) [.ref 69, .int x1] [] rfl ct_X11_missedBy_ebc78d Hhp63 rfl rfl rfl (bs_rcv (g := 11) Hhp63 (bs_R.uq Hhp63 (g := 11) rfl) (by decide) rfl) rfl ?_ (sf_S_cons (sf_s1 (x := x1.toInt) rfl (by omega) (by omega)) (sf_S_nil)) fun r78 hp79 thp79 Hhp79 fhp79 ahp79 php79 => ?_
                      · intro q k h
                        match q, h with
                        | 0, h => cases h; exact bs_jR (bs_R.uq Hhp63 (g := 11) rfl)
                        | 1, h => cases h; exact sf_j0
                        | q + 2, h => cases h
                      obtain ⟨z80, rfl⟩ := bs_anI ahp79
                      have rgz80 := n_range z80
                      have Fhp79 := sf_fr_tr Fhp63 (sf_fr_wider (W := [(11, 0, 0)]) rfl fhp79)
                      have h81 : sf_rd hp79 71 1 = some z4.toInt := (fhp79.2.2.1 _ (bs_R.uq Hhp63 (g := 132) (p := 71) rfl).1 _ (by rw [(bs_R.uq Hhp63 (g := 132) (p := 71) rfl).2]; rfl)).trans h64
                      have h82 : sf_rd hp79 69 0 = some z62.toInt := (fhp79.2.2.1 _ (bs_R.uq Hhp63 (g := 11) (p := 69) rfl).1 _ (by rw [(bs_R.uq Hhp63 (g := 11) (p := 69) rfl).2]; rfl)).trans rhp63
                      refine (show Ev _ 92 ([some (.ref 69), some (.int x1), some (.int x2)], [.int z80], (0, 0), hp79) _ from ?_)
                      exact Ev.ret rfl rfl (by rw [hQ]; exact ⟨thp79, Hhp79, Fhp79, bs_an0, sf_S_nil⟩)
                    · refine bs_tab 2 rfl (by omega) rfl ?_
                      refine Ev.step (j := 94) (s' := ([some (.ref 69), some (.int x1), some (.int x2)], [.ref 69], (0, 0), hp63)) rfl rfl ?_
                      refine Ev.step (j := 95) (s' := ([some (.ref 69), some (.int x1), some (.int x2)], [.int x1, .ref 69], (0, 0), hp63)) rfl rfl ?_
                      refine bs_call (K := kq_X11_missesOf_ebc78d) [.ref 69, .int x1] [] rfl ct_X11_missesOf_ebc78d Hhp63 rfl rfl rfl (bs_rcv (g := 11) Hhp63 (bs_R.uq Hhp63 (g := 11) rfl) (by decide) rfl) rfl ?_ (sf_S_cons (sf_s1 (x := x1.toInt) rfl (by omega) (by omega)) (sf_S_nil)) fun r83 hp84 thp84 Hhp84 fhp84 ahp84 php84 => ?_
                      · intro q k h
                        match q, h with
                        | 0, h => cases h; exact bs_jR (bs_R.uq Hhp63 (g := 11) rfl)
                        | 1, h => cases h; exact sf_j0
                        | q + 2, h => cases h
                      obtain ⟨z85, rfl⟩ := bs_anI ahp84
                      have rgz85 := n_range z85
                      have Fhp84 := sf_fr_tr Fhp63 (sf_fr_wider (W := [(11, 0, 0)]) rfl fhp84)
                      have h86 : sf_rd hp84 71 1 = some z4.toInt := (fhp84.2.2.1 _ (bs_R.uq Hhp63 (g := 132) (p := 71) rfl).1 _ (by rw [(bs_R.uq Hhp63 (g := 132) (p := 71) rfl).2]; rfl)).trans h64
                      have h87 : sf_rd hp84 69 0 = some z62.toInt := (fhp84.2.2.1 _ (bs_R.uq Hhp63 (g := 11) (p := 69) rfl).1 _ (by rw [(bs_R.uq Hhp63 (g := 11) (p := 69) rfl).2]; rfl)).trans rhp63
                      refine (show Ev _ 98 ([some (.ref 69), some (.int x1), some (.int x2)], [.int z85], (0, 0), hp84) _ from ?_)
                      exact Ev.ret rfl rfl (by rw [hQ]; exact ⟨thp84, Hhp84, Fhp84, bs_an0, sf_S_nil⟩)
                    · refine bs_tab 3 rfl (by omega) rfl ?_
                      refine Ev.step (j := 100) (s' := ([some (.ref 69), some (.int x1), some (.int x2)], [.ref 69], (0, 0), hp63)) rfl rfl ?_
                      refine bs_getU (g := 11) (g1 := 132) rfl rfl Hhp63 (bs_R.uq Hhp63 (g := 11) rfl) (by decide) rfl rfl ?_
                      refine bs_lit (k := 181) rfl rfl fun z88 hz88 => ?_
                      refine Ev.step (j := 107) (s' := ([some (.ref 69), some (.int x1), some (.int x2)], [.int x1, .int z88, .ref 71], (0, 0), hp63)) rfl rfl ?_
                      first | (refine bs_add rfl (by omega) (by omega) fun z89 hz89 => ?_) | (refine bs_any rfl fun z89 => ?_)
                      have rz89 := n_range z89
                      refine bs_ld (g := 132) 181 188 (-2147483648, 2147483647) rfl Hhp63 (bs_R.uq Hhp63 (g := 132) rfl) (by decide) rfl (by decide) (by decide) rfl (by decide) (by omega) (by omega) fun z90 hz90 lz90 gz90 => ?_
                      dsimp only at lz90 gz90
                      exact Ev.ret rfl rfl (by rw [hQ]; exact ⟨t, Hhp63, Fhp63, bs_an0, sf_S_nil⟩)
                    · refine bs_tabD rfl (by show _ ∨ _ + ((4 : Nat) : Int) ≤ _; omega) ?_
                      refine Ev.step (j := 111) (s' := ([some (.ref 69), some (.int x1), some (.int x2)], [.ref 69], (0, 0), hp63)) rfl rfl ?_
                      refine Ev.step (j := 112) (s' := ([some (.ref 69), some (.int x1), some (.int x2)], [.int x1, .ref 69], (0, 0), hp63)) rfl rfl ?_
                      refine bs_call (K := kq_X11_isDead_ebc78d) [.ref 69, .int x1] [] rfl ct_X11_isDead_ebc78d Hhp63 rfl rfl rfl (bs_rcv (g := 11) Hhp63 (bs_R.uq Hhp63 (g := 11) rfl) (by decide) rfl) rfl ?_ (sf_S_cons (sf_s1 (x := x1.toInt) rfl (by omega) (by omega)) (sf_S_nil)) fun r91 hp92 thp92 Hhp92 fhp92 ahp92 php92 => ?_
                      · intro q k h
                        match q, h with
                        | 0, h => cases h; exact bs_jR (bs_R.uq Hhp63 (g := 11) rfl)
                        | 1, h => cases h; exact sf_j0
                        | q + 2, h => cases h
                      obtain ⟨z93, rfl⟩ := bs_anI ahp92
                      have rgz93 := n_range z93
                      have Fhp92 := sf_fr_tr Fhp63 (sf_fr_wider (W := [(11, 0, 0)]) rfl fhp92)
                      have h94 : sf_rd hp92 71 1 = some z4.toInt := (fhp92.2.2.1 _ (bs_R.uq Hhp63 (g := 132) (p := 71) rfl).1 _ (by rw [(bs_R.uq Hhp63 (g := 132) (p := 71) rfl).2]; rfl)).trans h64
                      have h95 : sf_rd hp92 69 0 = some z62.toInt := (fhp92.2.2.1 _ (bs_R.uq Hhp63 (g := 11) (p := 69) rfl).1 _ (by rw [(bs_R.uq Hhp63 (g := 11) (p := 69) rfl).2]; rfl)).trans rhp63
                      obtain ⟨uz93, vz93⟩ := bs_s1 (x := z93.toInt) rfl (php92 _ (List.mem_of_getElem? (i := 0) rfl))
                      refine (show Ev _ 115 ([some (.ref 69), some (.int x1), some (.int x2)], [.int z93], (0, 0), hp92) _ from ?_)
                      refine bs_ifeq rfl (fun c96 => ?_) (fun c96 => ?_)
                      · skip
                        have c97 : z93.toInt = 0 := by omega
                        refine bs_lit (k := 1) rfl rfl fun z98 hz98 => ?_
                        exact Ev.ret rfl rfl (by rw [hQ]; exact ⟨thp92, Hhp92, Fhp92, bs_an0, sf_S_nil⟩)
                      · skip
                        refine bs_lit (k := 0) rfl rfl fun z99 hz99 => ?_
                        refine Ev.step (j := 123) (s' := ([some (.ref 69), some (.int x1), some (.int x2)], [.int z99], (0, 0), hp92)) rfl rfl ?_
                        exact Ev.ret rfl rfl (by rw [hQ]; exact ⟨thp92, Hhp92, Fhp92, bs_an0, sf_S_nil⟩)
                  · exfalso; omega
                · exfalso; omega
              · exfalso; omega
def kq_X11_draw_754021 : sf_Q := ([(1, 11, 0), (0, 0, 0)], [(1, 3, 0, 6, 6, 0)], some (0, 0, 0), [(1, 0, 0, 0, 5, 0)], [(11, 29, 29)])
def kc_X11_draw_754021 : List (Nat × sf_I) := [(0, 4, [1, 0]),
  (1, 4, [2, 0]),
  (2, 23, [5, 11, 29]),
  (5, 0, [8, 1103515245]),
  (8, 9, [9, 2]),
  (9, 0, [12, 12345]),
  (12, 9, [13, 0]),
  (13, 24, [16, 11, 29, 0]),
  (16, 4, [17, 0]),
  (17, 23, [20, 11, 29]),
  (20, 0, [22, 8]),
  (22, 9, [23, 8]),
  (23, 2, [24, 1]),
  (24, 10, [25]),
  (25, 35, [0, 0])]
def kd_X11_draw_754021_0 : List (Nat × sf_D × sf_M) := [(0, ([(1, 11, 0), (0, 0, 0)], [], [(1, 4, 0, 6, 6, 0)], 0, 0), (14, [])),
  (1, ([(1, 11, 0), (0, 0, 0)], [(1, 11, 0)], [(1, 4, 0, 6, 6, 0)], 0, 0), (13, [])),
  (2, ([(1, 11, 0), (0, 0, 0)], [(1, 11, 0), (1, 11, 0)], [(1, 4, 0, 6, 6, 0)], 0, 0), (12, [])),
  (5, ([(1, 11, 0), (0, 0, 0)], [(0, 0, 2147483647), (1, 11, 0)], [(1, 4, 0, 6, 6, 0), (1, 3, 0, -2147483648, 2147483647, 0), (1, 36089, 0, -2147483648, 2147483647, 0), (2, 3, 36089, 1, 0, 0)], 0, 0), (11, [])),
  (8, ([(1, 11, 0), (0, 0, 0)], [(0, 0, 0), (0, 0, 2147483647), (1, 11, 0)], [(1, 4, 0, 6, 6, 0), (1, 3, 0, -2147483648, 2147483647, 0), (1, 36089, 0, -2147483648, 2147483647, 0), (1, 6, 0, 1103515245, 1103515245, 0), (2, 3, 36089, 1, 0, 0)], 0, 0), (10, [])),
  (9, ([(1, 11, 0), (0, 0, 0)], [(0, 0, 0), (1, 11, 0)], [(1, 4, 0, 6, 6, 0), (1, 36089, 0, -2147483648, 2147483647, 0), (1, 3, 0, -2147483648, 2147483647, 0)], 0, 0), (9, [])),
  (12, ([(1, 11, 0), (0, 0, 0)], [(0, 0, 0), (0, 0, 0), (1, 11, 0)], [(1, 4, 0, 6, 6, 0), (1, 36089, 0, -2147483648, 2147483647, 0), (1, 3, 0, -2147483648, 2147483647, 0), (1, 6, 0, 12345, 12345, 0)], 0, 0), (8, [])),
  (13, ([(1, 11, 0), (0, 0, 0)], [(0, 0, 0), (1, 11, 0)], [(1, 4, 0, 6, 6, 0), (1, 36089, 0, -2147483648, 2147483647, 0), (1, 3, 0, -2147483648, 2147483647, 0)], 0, 0), (7, [])),
  (16, ([(1, 11, 0), (0, 0, 0)], [], [(1, 4, 0, 6, 6, 0), (1, 36089, 0, -2147483648, 2147483647, 0)], 0, 0), (6, [])),
  (17, ([(1, 11, 0), (0, 0, 0)], [(1, 11, 0)], [(1, 4, 0, 6, 6, 0), (1, 36089, 0, -2147483648, 2147483647, 0)], 0, 0), (5, []))]
def kd_X11_draw_754021_1 : List (Nat × sf_D × sf_M) := [(20, ([(1, 11, 0), (0, 0, 0)], [(0, 0, 2147483647)], [(1, 4, 0, 6, 6, 0), (1, 36089, 0, -2147483648, 2147483647, 0), (1, 0, 0, -2147483648, 2147483647, 0), (2, 0, 36089, 1, 0, 0)], 0, 0), (4, [])),
  (22, ([(1, 11, 0), (0, 0, 0)], [(0, 0, 0), (0, 0, 2147483647)], [(1, 4, 0, 6, 6, 0), (1, 36089, 0, -2147483648, 2147483647, 0), (1, 0, 0, -2147483648, 2147483647, 0), (1, 3, 0, 8, 8, 0), (2, 0, 36089, 1, 0, 0)], 0, 0), (3, [])),
  (23, ([(1, 11, 0), (0, 0, 0)], [(0, 0, 0)], [(1, 4, 0, 6, 6, 0), (1, 36089, 0, -2147483648, 2147483647, 0), (1, 0, 0, 0, 16777215, 0)], 0, 0), (2, [])),
  (24, ([(1, 11, 0), (0, 0, 0)], [(0, 0, 0), (0, 0, 0)], [(1, 4, 0, 6, 6, 0), (1, 36089, 0, -2147483648, 2147483647, 0), (1, 0, 0, 0, 16777215, 0), (1, 3, 0, 6, 6, 0), (2, 3, 4, 1, 0, 0)], 0, 0), (1, [])),
  (25, ([(1, 11, 0), (0, 0, 0)], [(0, 0, 0)], [(1, 4, 0, 6, 6, 0), (1, 36089, 0, -2147483648, 2147483647, 0), (1, 0, 0, 0, 5, 0)], 0, 0), (0, []))]
def kd_X11_draw_754021 : List (Nat × sf_D × sf_M) := kd_X11_draw_754021_0 ++ (kd_X11_draw_754021_1)
set_option maxRecDepth 100000 in
theorem kt_X11_draw_754021 : sf_chk [] kq_X11_draw_754021 2 kc_X11_draw_754021 kd_X11_draw_754021 = true := by decide +kernel
set_option maxRecDepth 100000 in
theorem kl_X11_draw_754021 : (kc_X11_draw_754021).map (fun c => (c.1, sf_den ([] : List sf_X) c.2)) = L_X11_draw := rfl
theorem ct_X11_draw_754021 : sf_ct kq_X11_draw_754021 Z_X11_draw := by
  have h := sf_meth (K := []) (E := []) (k := kq_X11_draw_754021) (nL := 2) (C := kc_X11_draw_754021) (D := kd_X11_draw_754021) (fun m k hk => match m, hk with
    | _ + 0, hk => (by cases hk)) kt_X11_draw_754021
  rw [kl_X11_draw_754021] at h
  exact h
def kq_X11_draw_055593 : sf_Q := ([(1, 11, 0), (0, 0, 0)], [(1, 3, 0, 90, 90, 0)], some (0, 0, 0), [(1, 0, 0, 0, 89, 0)], [(11, 29, 29)])
def kc_X11_draw_055593 : List (Nat × sf_I) := [(0, 4, [1, 0]),
  (1, 4, [2, 0]),
  (2, 23, [5, 11, 29]),
  (5, 0, [8, 1103515245]),
  (8, 9, [9, 2]),
  (9, 0, [12, 12345]),
  (12, 9, [13, 0]),
  (13, 24, [16, 11, 29, 0]),
  (16, 4, [17, 0]),
  (17, 23, [20, 11, 29]),
  (20, 0, [22, 8]),
  (22, 9, [23, 8]),
  (23, 2, [24, 1]),
  (24, 10, [25]),
  (25, 35, [0, 0])]
def kd_X11_draw_055593_0 : List (Nat × sf_D × sf_M) := [(0, ([(1, 11, 0), (0, 0, 0)], [], [(1, 4, 0, 90, 90, 0)], 0, 0), (14, [])),
  (1, ([(1, 11, 0), (0, 0, 0)], [(1, 11, 0)], [(1, 4, 0, 90, 90, 0)], 0, 0), (13, [])),
  (2, ([(1, 11, 0), (0, 0, 0)], [(1, 11, 0), (1, 11, 0)], [(1, 4, 0, 90, 90, 0)], 0, 0), (12, [])),
  (5, ([(1, 11, 0), (0, 0, 0)], [(0, 0, 2147483647), (1, 11, 0)], [(1, 4, 0, 90, 90, 0), (1, 3, 0, -2147483648, 2147483647, 0), (1, 36089, 0, -2147483648, 2147483647, 0), (2, 3, 36089, 1, 0, 0)], 0, 0), (11, [])),
  (8, ([(1, 11, 0), (0, 0, 0)], [(0, 0, 0), (0, 0, 2147483647), (1, 11, 0)], [(1, 4, 0, 90, 90, 0), (1, 3, 0, -2147483648, 2147483647, 0), (1, 36089, 0, -2147483648, 2147483647, 0), (1, 6, 0, 1103515245, 1103515245, 0), (2, 3, 36089, 1, 0, 0)], 0, 0), (10, [])),
  (9, ([(1, 11, 0), (0, 0, 0)], [(0, 0, 0), (1, 11, 0)], [(1, 4, 0, 90, 90, 0), (1, 36089, 0, -2147483648, 2147483647, 0), (1, 3, 0, -2147483648, 2147483647, 0)], 0, 0), (9, [])),
  (12, ([(1, 11, 0), (0, 0, 0)], [(0, 0, 0), (0, 0, 0), (1, 11, 0)], [(1, 4, 0, 90, 90, 0), (1, 36089, 0, -2147483648, 2147483647, 0), (1, 3, 0, -2147483648, 2147483647, 0), (1, 6, 0, 12345, 12345, 0)], 0, 0), (8, [])),
  (13, ([(1, 11, 0), (0, 0, 0)], [(0, 0, 0), (1, 11, 0)], [(1, 4, 0, 90, 90, 0), (1, 36089, 0, -2147483648, 2147483647, 0), (1, 3, 0, -2147483648, 2147483647, 0)], 0, 0), (7, [])),
  (16, ([(1, 11, 0), (0, 0, 0)], [], [(1, 4, 0, 90, 90, 0), (1, 36089, 0, -2147483648, 2147483647, 0)], 0, 0), (6, [])),
  (17, ([(1, 11, 0), (0, 0, 0)], [(1, 11, 0)], [(1, 4, 0, 90, 90, 0), (1, 36089, 0, -2147483648, 2147483647, 0)], 0, 0), (5, []))]
def kd_X11_draw_055593_1 : List (Nat × sf_D × sf_M) := [(20, ([(1, 11, 0), (0, 0, 0)], [(0, 0, 2147483647)], [(1, 4, 0, 90, 90, 0), (1, 36089, 0, -2147483648, 2147483647, 0), (1, 0, 0, -2147483648, 2147483647, 0), (2, 0, 36089, 1, 0, 0)], 0, 0), (4, [])),
  (22, ([(1, 11, 0), (0, 0, 0)], [(0, 0, 0), (0, 0, 2147483647)], [(1, 4, 0, 90, 90, 0), (1, 36089, 0, -2147483648, 2147483647, 0), (1, 0, 0, -2147483648, 2147483647, 0), (1, 3, 0, 8, 8, 0), (2, 0, 36089, 1, 0, 0)], 0, 0), (3, [])),
  (23, ([(1, 11, 0), (0, 0, 0)], [(0, 0, 0)], [(1, 4, 0, 90, 90, 0), (1, 36089, 0, -2147483648, 2147483647, 0), (1, 0, 0, 0, 16777215, 0)], 0, 0), (2, [])),
  (24, ([(1, 11, 0), (0, 0, 0)], [(0, 0, 0), (0, 0, 0)], [(1, 4, 0, 90, 90, 0), (1, 36089, 0, -2147483648, 2147483647, 0), (1, 0, 0, 0, 16777215, 0), (1, 3, 0, 90, 90, 0), (2, 3, 4, 1, 0, 0)], 0, 0), (1, [])),
  (25, ([(1, 11, 0), (0, 0, 0)], [(0, 0, 0)], [(1, 4, 0, 90, 90, 0), (1, 36089, 0, -2147483648, 2147483647, 0), (1, 0, 0, 0, 89, 0)], 0, 0), (0, []))]
def kd_X11_draw_055593 : List (Nat × sf_D × sf_M) := kd_X11_draw_055593_0 ++ (kd_X11_draw_055593_1)
set_option maxRecDepth 100000 in
theorem kt_X11_draw_055593 : sf_chk [] kq_X11_draw_055593 2 kc_X11_draw_055593 kd_X11_draw_055593 = true := by decide +kernel
set_option maxRecDepth 100000 in
theorem kl_X11_draw_055593 : (kc_X11_draw_055593).map (fun c => (c.1, sf_den ([] : List sf_X) c.2)) = L_X11_draw := rfl
theorem ct_X11_draw_055593 : sf_ct kq_X11_draw_055593 Z_X11_draw := by
  have h := sf_meth (K := []) (E := []) (k := kq_X11_draw_055593) (nL := 2) (C := kc_X11_draw_055593) (D := kd_X11_draw_055593) (fun m k hk => match m, hk with
    | _ + 0, hk => (by cases hk)) kt_X11_draw_055593
  rw [kl_X11_draw_055593] at h
  exact h
def kq_X11_draw_527597 : sf_Q := ([(1, 11, 0), (0, 0, 0)], [(1, 3, 0, 1, 8, 0)], some (0, 0, 0), [(1, 0, 0, 0, 7, 0)], [(11, 29, 29)])
def kc_X11_draw_527597 : List (Nat × sf_I) := [(0, 4, [1, 0]),
  (1, 4, [2, 0]),
  (2, 23, [5, 11, 29]),
  (5, 0, [8, 1103515245]),
  (8, 9, [9, 2]),
  (9, 0, [12, 12345]),
  (12, 9, [13, 0]),
  (13, 24, [16, 11, 29, 0]),
  (16, 4, [17, 0]),
  (17, 23, [20, 11, 29]),
  (20, 0, [22, 8]),
  (22, 9, [23, 8]),
  (23, 2, [24, 1]),
  (24, 10, [25]),
  (25, 35, [0, 0])]
def kd_X11_draw_527597_0 : List (Nat × sf_D × sf_M) := [(0, ([(1, 11, 0), (0, 0, 0)], [], [(1, 4, 0, 1, 8, 0)], 0, 0), (14, [])),
  (1, ([(1, 11, 0), (0, 0, 0)], [(1, 11, 0)], [(1, 4, 0, 1, 8, 0)], 0, 0), (13, [])),
  (2, ([(1, 11, 0), (0, 0, 0)], [(1, 11, 0), (1, 11, 0)], [(1, 4, 0, 1, 8, 0)], 0, 0), (12, [])),
  (5, ([(1, 11, 0), (0, 0, 0)], [(0, 0, 2147483647), (1, 11, 0)], [(1, 4, 0, 1, 8, 0), (1, 3, 0, -2147483648, 2147483647, 0), (1, 36089, 0, -2147483648, 2147483647, 0), (2, 3, 36089, 1, 0, 0)], 0, 0), (11, [])),
  (8, ([(1, 11, 0), (0, 0, 0)], [(0, 0, 0), (0, 0, 2147483647), (1, 11, 0)], [(1, 4, 0, 1, 8, 0), (1, 3, 0, -2147483648, 2147483647, 0), (1, 36089, 0, -2147483648, 2147483647, 0), (1, 6, 0, 1103515245, 1103515245, 0), (2, 3, 36089, 1, 0, 0)], 0, 0), (10, [])),
  (9, ([(1, 11, 0), (0, 0, 0)], [(0, 0, 0), (1, 11, 0)], [(1, 4, 0, 1, 8, 0), (1, 36089, 0, -2147483648, 2147483647, 0), (1, 3, 0, -2147483648, 2147483647, 0)], 0, 0), (9, [])),
  (12, ([(1, 11, 0), (0, 0, 0)], [(0, 0, 0), (0, 0, 0), (1, 11, 0)], [(1, 4, 0, 1, 8, 0), (1, 36089, 0, -2147483648, 2147483647, 0), (1, 3, 0, -2147483648, 2147483647, 0), (1, 6, 0, 12345, 12345, 0)], 0, 0), (8, [])),
  (13, ([(1, 11, 0), (0, 0, 0)], [(0, 0, 0), (1, 11, 0)], [(1, 4, 0, 1, 8, 0), (1, 36089, 0, -2147483648, 2147483647, 0), (1, 3, 0, -2147483648, 2147483647, 0)], 0, 0), (7, [])),
  (16, ([(1, 11, 0), (0, 0, 0)], [], [(1, 4, 0, 1, 8, 0), (1, 36089, 0, -2147483648, 2147483647, 0)], 0, 0), (6, [])),
  (17, ([(1, 11, 0), (0, 0, 0)], [(1, 11, 0)], [(1, 4, 0, 1, 8, 0), (1, 36089, 0, -2147483648, 2147483647, 0)], 0, 0), (5, []))]
def kd_X11_draw_527597_1 : List (Nat × sf_D × sf_M) := [(20, ([(1, 11, 0), (0, 0, 0)], [(0, 0, 2147483647)], [(1, 4, 0, 1, 8, 0), (1, 36089, 0, -2147483648, 2147483647, 0), (1, 0, 0, -2147483648, 2147483647, 0), (2, 0, 36089, 1, 0, 0)], 0, 0), (4, [])),
  (22, ([(1, 11, 0), (0, 0, 0)], [(0, 0, 0), (0, 0, 2147483647)], [(1, 4, 0, 1, 8, 0), (1, 36089, 0, -2147483648, 2147483647, 0), (1, 0, 0, -2147483648, 2147483647, 0), (1, 3, 0, 8, 8, 0), (2, 0, 36089, 1, 0, 0)], 0, 0), (3, [])),
  (23, ([(1, 11, 0), (0, 0, 0)], [(0, 0, 0)], [(1, 4, 0, 1, 8, 0), (1, 36089, 0, -2147483648, 2147483647, 0), (1, 0, 0, 0, 16777215, 0)], 0, 0), (2, [])),
  (24, ([(1, 11, 0), (0, 0, 0)], [(0, 0, 0), (0, 0, 0)], [(1, 4, 0, 1, 8, 0), (1, 36089, 0, -2147483648, 2147483647, 0), (1, 0, 0, 0, 16777215, 0), (1, 3, 0, 1, 8, 0), (2, 3, 4, 1, 0, 0)], 0, 0), (1, [])),
  (25, ([(1, 11, 0), (0, 0, 0)], [(0, 0, 0)], [(1, 4, 0, 1, 8, 0), (1, 36089, 0, -2147483648, 2147483647, 0), (1, 0, 0, 0, 7, 0)], 0, 0), (0, []))]
def kd_X11_draw_527597 : List (Nat × sf_D × sf_M) := kd_X11_draw_527597_0 ++ (kd_X11_draw_527597_1)
set_option maxRecDepth 100000 in
theorem kt_X11_draw_527597 : sf_chk [] kq_X11_draw_527597 2 kc_X11_draw_527597 kd_X11_draw_527597 = true := by decide +kernel
set_option maxRecDepth 100000 in
theorem kl_X11_draw_527597 : (kc_X11_draw_527597).map (fun c => (c.1, sf_den ([] : List sf_X) c.2)) = L_X11_draw := rfl
theorem ct_X11_draw_527597 : sf_ct kq_X11_draw_527597 Z_X11_draw := by
  have h := sf_meth (K := []) (E := []) (k := kq_X11_draw_527597) (nL := 2) (C := kc_X11_draw_527597) (D := kd_X11_draw_527597) (fun m k hk => match m, hk with
    | _ + 0, hk => (by cases hk)) kt_X11_draw_527597
  rw [kl_X11_draw_527597] at h
  exact h
def kq_X11_draw_3d739f : sf_Q := ([(1, 11, 0), (0, 0, 0)], [(1, 3, 0, 1, 6, 0)], some (0, 0, 0), [(1, 0, 0, 0, 5, 0)], [(11, 29, 29)])
def kc_X11_draw_3d739f : List (Nat × sf_I) := [(0, 4, [1, 0]),
  (1, 4, [2, 0]),
  (2, 23, [5, 11, 29]),
  (5, 0, [8, 1103515245]),
  (8, 9, [9, 2]),
  (9, 0, [12, 12345]),
  (12, 9, [13, 0]),
  (13, 24, [16, 11, 29, 0]),
  (16, 4, [17, 0]),
  (17, 23, [20, 11, 29]),
  (20, 0, [22, 8]),
  (22, 9, [23, 8]),
  (23, 2, [24, 1]),
  (24, 10, [25]),
  (25, 35, [0, 0])]
def kd_X11_draw_3d739f_0 : List (Nat × sf_D × sf_M) := [(0, ([(1, 11, 0), (0, 0, 0)], [], [(1, 4, 0, 1, 6, 0)], 0, 0), (14, [])),
  (1, ([(1, 11, 0), (0, 0, 0)], [(1, 11, 0)], [(1, 4, 0, 1, 6, 0)], 0, 0), (13, [])),
  (2, ([(1, 11, 0), (0, 0, 0)], [(1, 11, 0), (1, 11, 0)], [(1, 4, 0, 1, 6, 0)], 0, 0), (12, [])),
  (5, ([(1, 11, 0), (0, 0, 0)], [(0, 0, 2147483647), (1, 11, 0)], [(1, 4, 0, 1, 6, 0), (1, 3, 0, -2147483648, 2147483647, 0), (1, 36089, 0, -2147483648, 2147483647, 0), (2, 3, 36089, 1, 0, 0)], 0, 0), (11, [])),
  (8, ([(1, 11, 0), (0, 0, 0)], [(0, 0, 0), (0, 0, 2147483647), (1, 11, 0)], [(1, 4, 0, 1, 6, 0), (1, 3, 0, -2147483648, 2147483647, 0), (1, 36089, 0, -2147483648, 2147483647, 0), (1, 6, 0, 1103515245, 1103515245, 0), (2, 3, 36089, 1, 0, 0)], 0, 0), (10, [])),
  (9, ([(1, 11, 0), (0, 0, 0)], [(0, 0, 0), (1, 11, 0)], [(1, 4, 0, 1, 6, 0), (1, 36089, 0, -2147483648, 2147483647, 0), (1, 3, 0, -2147483648, 2147483647, 0)], 0, 0), (9, [])),
  (12, ([(1, 11, 0), (0, 0, 0)], [(0, 0, 0), (0, 0, 0), (1, 11, 0)], [(1, 4, 0, 1, 6, 0), (1, 36089, 0, -2147483648, 2147483647, 0), (1, 3, 0, -2147483648, 2147483647, 0), (1, 6, 0, 12345, 12345, 0)], 0, 0), (8, [])),
  (13, ([(1, 11, 0), (0, 0, 0)], [(0, 0, 0), (1, 11, 0)], [(1, 4, 0, 1, 6, 0), (1, 36089, 0, -2147483648, 2147483647, 0), (1, 3, 0, -2147483648, 2147483647, 0)], 0, 0), (7, [])),
  (16, ([(1, 11, 0), (0, 0, 0)], [], [(1, 4, 0, 1, 6, 0), (1, 36089, 0, -2147483648, 2147483647, 0)], 0, 0), (6, [])),
  (17, ([(1, 11, 0), (0, 0, 0)], [(1, 11, 0)], [(1, 4, 0, 1, 6, 0), (1, 36089, 0, -2147483648, 2147483647, 0)], 0, 0), (5, []))]
def kd_X11_draw_3d739f_1 : List (Nat × sf_D × sf_M) := [(20, ([(1, 11, 0), (0, 0, 0)], [(0, 0, 2147483647)], [(1, 4, 0, 1, 6, 0), (1, 36089, 0, -2147483648, 2147483647, 0), (1, 0, 0, -2147483648, 2147483647, 0), (2, 0, 36089, 1, 0, 0)], 0, 0), (4, [])),
  (22, ([(1, 11, 0), (0, 0, 0)], [(0, 0, 0), (0, 0, 2147483647)], [(1, 4, 0, 1, 6, 0), (1, 36089, 0, -2147483648, 2147483647, 0), (1, 0, 0, -2147483648, 2147483647, 0), (1, 3, 0, 8, 8, 0), (2, 0, 36089, 1, 0, 0)], 0, 0), (3, [])),
  (23, ([(1, 11, 0), (0, 0, 0)], [(0, 0, 0)], [(1, 4, 0, 1, 6, 0), (1, 36089, 0, -2147483648, 2147483647, 0), (1, 0, 0, 0, 16777215, 0)], 0, 0), (2, [])),
  (24, ([(1, 11, 0), (0, 0, 0)], [(0, 0, 0), (0, 0, 0)], [(1, 4, 0, 1, 6, 0), (1, 36089, 0, -2147483648, 2147483647, 0), (1, 0, 0, 0, 16777215, 0), (1, 3, 0, 1, 6, 0), (2, 3, 4, 1, 0, 0)], 0, 0), (1, [])),
  (25, ([(1, 11, 0), (0, 0, 0)], [(0, 0, 0)], [(1, 4, 0, 1, 6, 0), (1, 36089, 0, -2147483648, 2147483647, 0), (1, 0, 0, 0, 5, 0)], 0, 0), (0, []))]
def kd_X11_draw_3d739f : List (Nat × sf_D × sf_M) := kd_X11_draw_3d739f_0 ++ (kd_X11_draw_3d739f_1)
set_option maxRecDepth 100000 in
theorem kt_X11_draw_3d739f : sf_chk [] kq_X11_draw_3d739f 2 kc_X11_draw_3d739f kd_X11_draw_3d739f = true := by decide +kernel
set_option maxRecDepth 100000 in
theorem kl_X11_draw_3d739f : (kc_X11_draw_3d739f).map (fun c => (c.1, sf_den ([] : List sf_X) c.2)) = L_X11_draw := rfl
theorem ct_X11_draw_3d739f : sf_ct kq_X11_draw_3d739f Z_X11_draw := by
  have h := sf_meth (K := []) (E := []) (k := kq_X11_draw_3d739f) (nL := 2) (C := kc_X11_draw_3d739f) (D := kd_X11_draw_3d739f) (fun m k hk => match m, hk with
    | _ + 0, hk => (by cases hk)) kt_X11_draw_3d739f
  rw [kl_X11_draw_3d739f] at h
  exact h
def kq_X11_draw_d8ddf5 : sf_Q := ([(1, 11, 0), (0, 0, 0)], [(1, 3, 0, 2, 2, 0)], some (0, 0, 0), [(1, 0, 0, 0, 1, 0)], [(11, 29, 29)])
def kc_X11_draw_d8ddf5 : List (Nat × sf_I) := [(0, 4, [1, 0]),
  (1, 4, [2, 0]),
  (2, 23, [5, 11, 29]),
  (5, 0, [8, 1103515245]),
  (8, 9, [9, 2]),
  (9, 0, [12, 12345]),
  (12, 9, [13, 0]),
  (13, 24, [16, 11, 29, 0]),
  (16, 4, [17, 0]),
  (17, 23, [20, 11, 29]),
  (20, 0, [22, 8]),
  (22, 9, [23, 8]),
  (23, 2, [24, 1]),
  (24, 10, [25]),
  (25, 35, [0, 0])]
def kd_X11_draw_d8ddf5_0 : List (Nat × sf_D × sf_M) := [(0, ([(1, 11, 0), (0, 0, 0)], [], [(1, 4, 0, 2, 2, 0)], 0, 0), (14, [])),
  (1, ([(1, 11, 0), (0, 0, 0)], [(1, 11, 0)], [(1, 4, 0, 2, 2, 0)], 0, 0), (13, [])),
  (2, ([(1, 11, 0), (0, 0, 0)], [(1, 11, 0), (1, 11, 0)], [(1, 4, 0, 2, 2, 0)], 0, 0), (12, [])),
  (5, ([(1, 11, 0), (0, 0, 0)], [(0, 0, 2147483647), (1, 11, 0)], [(1, 4, 0, 2, 2, 0), (1, 3, 0, -2147483648, 2147483647, 0), (1, 36089, 0, -2147483648, 2147483647, 0), (2, 3, 36089, 1, 0, 0)], 0, 0), (11, [])),
  (8, ([(1, 11, 0), (0, 0, 0)], [(0, 0, 0), (0, 0, 2147483647), (1, 11, 0)], [(1, 4, 0, 2, 2, 0), (1, 3, 0, -2147483648, 2147483647, 0), (1, 36089, 0, -2147483648, 2147483647, 0), (1, 6, 0, 1103515245, 1103515245, 0), (2, 3, 36089, 1, 0, 0)], 0, 0), (10, [])),
  (9, ([(1, 11, 0), (0, 0, 0)], [(0, 0, 0), (1, 11, 0)], [(1, 4, 0, 2, 2, 0), (1, 36089, 0, -2147483648, 2147483647, 0), (1, 3, 0, -2147483648, 2147483647, 0)], 0, 0), (9, [])),
  (12, ([(1, 11, 0), (0, 0, 0)], [(0, 0, 0), (0, 0, 0), (1, 11, 0)], [(1, 4, 0, 2, 2, 0), (1, 36089, 0, -2147483648, 2147483647, 0), (1, 3, 0, -2147483648, 2147483647, 0), (1, 6, 0, 12345, 12345, 0)], 0, 0), (8, [])),
  (13, ([(1, 11, 0), (0, 0, 0)], [(0, 0, 0), (1, 11, 0)], [(1, 4, 0, 2, 2, 0), (1, 36089, 0, -2147483648, 2147483647, 0), (1, 3, 0, -2147483648, 2147483647, 0)], 0, 0), (7, [])),
  (16, ([(1, 11, 0), (0, 0, 0)], [], [(1, 4, 0, 2, 2, 0), (1, 36089, 0, -2147483648, 2147483647, 0)], 0, 0), (6, [])),
  (17, ([(1, 11, 0), (0, 0, 0)], [(1, 11, 0)], [(1, 4, 0, 2, 2, 0), (1, 36089, 0, -2147483648, 2147483647, 0)], 0, 0), (5, []))]
def kd_X11_draw_d8ddf5_1 : List (Nat × sf_D × sf_M) := [(20, ([(1, 11, 0), (0, 0, 0)], [(0, 0, 2147483647)], [(1, 4, 0, 2, 2, 0), (1, 36089, 0, -2147483648, 2147483647, 0), (1, 0, 0, -2147483648, 2147483647, 0), (2, 0, 36089, 1, 0, 0)], 0, 0), (4, [])),
  (22, ([(1, 11, 0), (0, 0, 0)], [(0, 0, 0), (0, 0, 2147483647)], [(1, 4, 0, 2, 2, 0), (1, 36089, 0, -2147483648, 2147483647, 0), (1, 0, 0, -2147483648, 2147483647, 0), (1, 3, 0, 8, 8, 0), (2, 0, 36089, 1, 0, 0)], 0, 0), (3, [])),
  (23, ([(1, 11, 0), (0, 0, 0)], [(0, 0, 0)], [(1, 4, 0, 2, 2, 0), (1, 36089, 0, -2147483648, 2147483647, 0), (1, 0, 0, 0, 16777215, 0)], 0, 0), (2, [])),
  (24, ([(1, 11, 0), (0, 0, 0)], [(0, 0, 0), (0, 0, 0)], [(1, 4, 0, 2, 2, 0), (1, 36089, 0, -2147483648, 2147483647, 0), (1, 0, 0, 0, 16777215, 0), (1, 3, 0, 2, 2, 0), (2, 3, 4, 1, 0, 0)], 0, 0), (1, [])),
  (25, ([(1, 11, 0), (0, 0, 0)], [(0, 0, 0)], [(1, 4, 0, 2, 2, 0), (1, 36089, 0, -2147483648, 2147483647, 0), (1, 0, 0, 0, 1, 0)], 0, 0), (0, []))]
def kd_X11_draw_d8ddf5 : List (Nat × sf_D × sf_M) := kd_X11_draw_d8ddf5_0 ++ (kd_X11_draw_d8ddf5_1)
set_option maxRecDepth 100000 in
theorem kt_X11_draw_d8ddf5 : sf_chk [] kq_X11_draw_d8ddf5 2 kc_X11_draw_d8ddf5 kd_X11_draw_d8ddf5 = true := by decide +kernel
set_option maxRecDepth 100000 in
theorem kl_X11_draw_d8ddf5 : (kc_X11_draw_d8ddf5).map (fun c => (c.1, sf_den ([] : List sf_X) c.2)) = L_X11_draw := rfl
theorem ct_X11_draw_d8ddf5 : sf_ct kq_X11_draw_d8ddf5 Z_X11_draw := by
  have h := sf_meth (K := []) (E := []) (k := kq_X11_draw_d8ddf5) (nL := 2) (C := kc_X11_draw_d8ddf5) (D := kd_X11_draw_d8ddf5) (fun m k hk => match m, hk with
    | _ + 0, hk => (by cases hk)) kt_X11_draw_d8ddf5
  rw [kl_X11_draw_d8ddf5] at h
  exact h
def kq_X11_draw_7d34e3 : sf_Q := ([(1, 11, 0), (0, 0, 0)], [(1, 3, 0, 20, 20, 0)], some (0, 0, 0), [(1, 0, 0, 0, 19, 0)], [(11, 29, 29)])
def kc_X11_draw_7d34e3 : List (Nat × sf_I) := [(0, 4, [1, 0]),
  (1, 4, [2, 0]),
  (2, 23, [5, 11, 29]),
  (5, 0, [8, 1103515245]),
  (8, 9, [9, 2]),
  (9, 0, [12, 12345]),
  (12, 9, [13, 0]),
  (13, 24, [16, 11, 29, 0]),
  (16, 4, [17, 0]),
  (17, 23, [20, 11, 29]),
  (20, 0, [22, 8]),
  (22, 9, [23, 8]),
  (23, 2, [24, 1]),
  (24, 10, [25]),
  (25, 35, [0, 0])]
def kd_X11_draw_7d34e3_0 : List (Nat × sf_D × sf_M) := [(0, ([(1, 11, 0), (0, 0, 0)], [], [(1, 4, 0, 20, 20, 0)], 0, 0), (14, [])),
  (1, ([(1, 11, 0), (0, 0, 0)], [(1, 11, 0)], [(1, 4, 0, 20, 20, 0)], 0, 0), (13, [])),
  (2, ([(1, 11, 0), (0, 0, 0)], [(1, 11, 0), (1, 11, 0)], [(1, 4, 0, 20, 20, 0)], 0, 0), (12, [])),
  (5, ([(1, 11, 0), (0, 0, 0)], [(0, 0, 2147483647), (1, 11, 0)], [(1, 4, 0, 20, 20, 0), (1, 3, 0, -2147483648, 2147483647, 0), (1, 36089, 0, -2147483648, 2147483647, 0), (2, 3, 36089, 1, 0, 0)], 0, 0), (11, [])),
  (8, ([(1, 11, 0), (0, 0, 0)], [(0, 0, 0), (0, 0, 2147483647), (1, 11, 0)], [(1, 4, 0, 20, 20, 0), (1, 3, 0, -2147483648, 2147483647, 0), (1, 36089, 0, -2147483648, 2147483647, 0), (1, 6, 0, 1103515245, 1103515245, 0), (2, 3, 36089, 1, 0, 0)], 0, 0), (10, [])),
  (9, ([(1, 11, 0), (0, 0, 0)], [(0, 0, 0), (1, 11, 0)], [(1, 4, 0, 20, 20, 0), (1, 36089, 0, -2147483648, 2147483647, 0), (1, 3, 0, -2147483648, 2147483647, 0)], 0, 0), (9, [])),
  (12, ([(1, 11, 0), (0, 0, 0)], [(0, 0, 0), (0, 0, 0), (1, 11, 0)], [(1, 4, 0, 20, 20, 0), (1, 36089, 0, -2147483648, 2147483647, 0), (1, 3, 0, -2147483648, 2147483647, 0), (1, 6, 0, 12345, 12345, 0)], 0, 0), (8, [])),
  (13, ([(1, 11, 0), (0, 0, 0)], [(0, 0, 0), (1, 11, 0)], [(1, 4, 0, 20, 20, 0), (1, 36089, 0, -2147483648, 2147483647, 0), (1, 3, 0, -2147483648, 2147483647, 0)], 0, 0), (7, [])),
  (16, ([(1, 11, 0), (0, 0, 0)], [], [(1, 4, 0, 20, 20, 0), (1, 36089, 0, -2147483648, 2147483647, 0)], 0, 0), (6, [])),
  (17, ([(1, 11, 0), (0, 0, 0)], [(1, 11, 0)], [(1, 4, 0, 20, 20, 0), (1, 36089, 0, -2147483648, 2147483647, 0)], 0, 0), (5, []))]
def kd_X11_draw_7d34e3_1 : List (Nat × sf_D × sf_M) := [(20, ([(1, 11, 0), (0, 0, 0)], [(0, 0, 2147483647)], [(1, 4, 0, 20, 20, 0), (1, 36089, 0, -2147483648, 2147483647, 0), (1, 0, 0, -2147483648, 2147483647, 0), (2, 0, 36089, 1, 0, 0)], 0, 0), (4, [])),
  (22, ([(1, 11, 0), (0, 0, 0)], [(0, 0, 0), (0, 0, 2147483647)], [(1, 4, 0, 20, 20, 0), (1, 36089, 0, -2147483648, 2147483647, 0), (1, 0, 0, -2147483648, 2147483647, 0), (1, 3, 0, 8, 8, 0), (2, 0, 36089, 1, 0, 0)], 0, 0), (3, [])),
  (23, ([(1, 11, 0), (0, 0, 0)], [(0, 0, 0)], [(1, 4, 0, 20, 20, 0), (1, 36089, 0, -2147483648, 2147483647, 0), (1, 0, 0, 0, 16777215, 0)], 0, 0), (2, [])),
  (24, ([(1, 11, 0), (0, 0, 0)], [(0, 0, 0), (0, 0, 0)], [(1, 4, 0, 20, 20, 0), (1, 36089, 0, -2147483648, 2147483647, 0), (1, 0, 0, 0, 16777215, 0), (1, 3, 0, 20, 20, 0), (2, 3, 4, 1, 0, 0)], 0, 0), (1, [])),
  (25, ([(1, 11, 0), (0, 0, 0)], [(0, 0, 0)], [(1, 4, 0, 20, 20, 0), (1, 36089, 0, -2147483648, 2147483647, 0), (1, 0, 0, 0, 19, 0)], 0, 0), (0, []))]
def kd_X11_draw_7d34e3 : List (Nat × sf_D × sf_M) := kd_X11_draw_7d34e3_0 ++ (kd_X11_draw_7d34e3_1)
set_option maxRecDepth 100000 in
theorem kt_X11_draw_7d34e3 : sf_chk [] kq_X11_draw_7d34e3 2 kc_X11_draw_7d34e3 kd_X11_draw_7d34e3 = true := by decide +kernel
set_option maxRecDepth 100000 in
theorem kl_X11_draw_7d34e3 : (kc_X11_draw_7d34e3).map (fun c => (c.1, sf_den ([] : List sf_X) c.2)) = L_X11_draw := rfl
theorem ct_X11_draw_7d34e3 : sf_ct kq_X11_draw_7d34e3 Z_X11_draw := by
  have h := sf_meth (K := []) (E := []) (k := kq_X11_draw_7d34e3) (nL := 2) (C := kc_X11_draw_7d34e3) (D := kd_X11_draw_7d34e3) (fun m k hk => match m, hk with
    | _ + 0, hk => (by cases hk)) kt_X11_draw_7d34e3
  rw [kl_X11_draw_7d34e3] at h
  exact h
def kq_X11_drawsDay_h : sf_Q := ([(1, 11, 0)], [(1, 399002, 0, 1, 6, 0), (1, 399362, 0, 0, 399, 0)], none, [], [(11, 22, 22), (11, 29, 29), (132, 120, 252)])
set_option maxRecDepth 100000 in
set_option maxHeartbeats 4000000 in
theorem ct_X11_drawsDay_h : sf_ct kq_X11_drawsDay_h Z_X11_drawsDay := by
  intro t hp as H hl hj hpre
  match as, hl with
  | [v0], _ =>
    obtain ⟨a0, rfl, ra0⟩ := bs_aR (hj 0 _ rfl)
    obtain rfl := ra0.eq H (p := 69) rfl
    obtain ⟨pv0, pe0, pl0, ph0⟩ := (hpre _ (List.mem_of_getElem? (i := 0) rfl)).1 rfl
    replace pe0 : sf_rd hp 71 0 = some pv0 := pe0
    replace pl0 : (1 : Int) ≤ pv0 := pl0
    replace ph0 : pv0 ≤ (6 : Int) := ph0
    obtain ⟨pv1, pe1, pl1, ph1⟩ := (hpre _ (List.mem_of_getElem? (i := 1) rfl)).1 rfl
    replace pe1 : sf_rd hp 71 120 = some pv1 := pe1
    replace pl1 : (0 : Int) ≤ pv1 := pl1
    replace ph1 : pv1 ≤ (399 : Int) := ph1
    clear hpre hj
    have F0 : sf_fr [(11, 22, 22), (11, 29, 29), (132, 120, 252)] t hp t hp := sf_fr_rf
    refine bs_fin (K := kq_X11_drawsDay_h) (L := (L_X11_drawsDay Z_X11_draw Z_X11_cell Z_X11_whyHoard Z_X11_hoards Z_X11_whyBare Z_X11_day)) (nL := 5) (Nat.le_of_ble_eq_true rfl) ?_
    obtain ⟨Q, hQ⟩ : ∃ Q : ab_O → Prop, Q = (fun o => ∃ t', sf_h t' o.2 ∧ sf_fr (kq_X11_drawsDay_h).2.2.2.2 t hp t' o.2 ∧ sf_an t' o.2.1 (kq_X11_drawsDay_h).2.2.1 o.1 ∧ sf_S (sf_v1 o.1 [.ref 69] o.2) (kq_X11_drawsDay_h).2.2.2.1) := ⟨_, rfl⟩
    rw [← hQ]
    refine (show Ev (ab_T (L_X11_drawsDay Z_X11_draw Z_X11_cell Z_X11_whyHoard Z_X11_hoards Z_X11_whyBare Z_X11_day)) 0 ([some (.ref 69), none, none, none, none], [], (0, 0), hp) Q from ?_)
    refine Ev.step (j := 1) (s' := ([some (.ref 69), none, none, none, none], [.ref 69], (0, 0), hp)) rfl rfl ?_
    refine bs_lit (k := 6) rfl rfl fun z1 hz1 => ?_
    refine bs_call (K := kq_X11_draw_754021) [.ref 69, .int z1] [] rfl ct_X11_draw_754021 H rfl rfl rfl (bs_rcv (g := 11) H (bs_R.uq H (g := 11) rfl) (by decide) rfl) rfl ?_ (sf_S_cons (sf_s1 (x := z1.toInt) rfl (by omega) (by omega)) (sf_S_nil)) fun r2 hp3 thp3 Hhp3 fhp3 ahp3 php3 => ?_
    · intro q k h
      match q, h with
      | 0, h => cases h; exact bs_jR (bs_R.uq H (g := 11) rfl)
      | 1, h => cases h; exact sf_j0
      | q + 2, h => cases h
    obtain ⟨z4, rfl⟩ := bs_anI ahp3
    have rgz4 := n_range z4
    have Fhp3 := sf_fr_tr F0 (sf_fr_wider (W := [(11, 22, 22), (11, 29, 29), (132, 120, 252)]) rfl fhp3)
    have h5 : sf_rd hp3 71 0 = some pv0 := (fhp3.2.2.1 _ (bs_R.uq H (g := 132) (p := 71) rfl).1 _ (by rw [(bs_R.uq H (g := 132) (p := 71) rfl).2]; rfl)).trans pe0
    have h6 : sf_rd hp3 71 120 = some pv1 := (fhp3.2.2.1 _ (bs_R.uq H (g := 132) (p := 71) rfl).1 _ (by rw [(bs_R.uq H (g := 132) (p := 71) rfl).2]; rfl)).trans pe1
    obtain ⟨uz4, vz4⟩ := bs_s1 (x := z4.toInt) rfl (php3 _ (List.mem_of_getElem? (i := 0) rfl))
    refine (show Ev _ 6 ([some (.ref 69), none, none, none, none], [.int z4], (0, 0), hp3) _ from ?_)
    refine Ev.step (j := 7) (s' := ([some (.ref 69), some (.int z4), none, none, none], [], (0, 0), hp3)) rfl rfl ?_
    refine Ev.step (j := 8) (s' := ([some (.ref 69), some (.int z4), none, none, none], [.int z4], (0, 0), hp3)) rfl rfl ?_
    refine bs_lit (k := 3) rfl rfl fun z7 hz7 => ?_
    refine bs_ge rfl (fun c8 => ?_) (fun c8 => ?_)
    · skip
      refine Ev.step (j := 117) (s' := ([some (.ref 69), some (.int z4), none, none, none], [.ref 69], (0, 0), hp3)) rfl rfl ?_
      refine bs_lit (k := 90) rfl rfl fun z9 hz9 => ?_
      refine bs_call (K := kq_X11_draw_055593) [.ref 69, .int z9] [] rfl ct_X11_draw_055593 Hhp3 rfl rfl rfl (bs_rcv (g := 11) Hhp3 (bs_R.uq Hhp3 (g := 11) rfl) (by decide) rfl) rfl ?_ (sf_S_cons (sf_s1 (x := z9.toInt) rfl (by omega) (by omega)) (sf_S_nil)) fun r10 hp11 thp11 Hhp11 fhp11 ahp11 php11 => ?_
      · intro q k h
        match q, h with
        | 0, h => cases h; exact bs_jR (bs_R.uq Hhp3 (g := 11) rfl)
        | 1, h => cases h; exact sf_j0
        | q + 2, h => cases h
      obtain ⟨z12, rfl⟩ := bs_anI ahp11
      have rgz12 := n_range z12
      have Fhp11 := sf_fr_tr Fhp3 (sf_fr_wider (W := [(11, 22, 22), (11, 29, 29), (132, 120, 252)]) rfl fhp11)
      have h13 : sf_rd hp11 71 0 = some pv0 := (fhp11.2.2.1 _ (bs_R.uq Hhp3 (g := 132) (p := 71) rfl).1 _ (by rw [(bs_R.uq Hhp3 (g := 132) (p := 71) rfl).2]; rfl)).trans h5
      have h14 : sf_rd hp11 71 120 = some pv1 := (fhp11.2.2.1 _ (bs_R.uq Hhp3 (g := 132) (p := 71) rfl).1 _ (by rw [(bs_R.uq Hhp3 (g := 132) (p := 71) rfl).2]; rfl)).trans h6
      obtain ⟨uz12, vz12⟩ := bs_s1 (x := z12.toInt) rfl (php11 _ (List.mem_of_getElem? (i := 0) rfl))
      refine (show Ev _ 122 ([some (.ref 69), some (.int z4), none, none, none], [.int z12], (0, 0), hp11) _ from ?_)
      refine bs_ifne rfl (fun c15 => ?_) (fun c15 => ?_)
      · skip
        refine Ev.step (j := 158) (s' := ([some (.ref 69), some (.int z4), none, none, none], [.ref 69], (0, 0), hp11)) rfl rfl ?_
        refine bs_call (K := kq_X11_day_h) [.ref 69] [] rfl ct_X11_day_h Hhp11 rfl rfl rfl (bs_rcv (g := 11) Hhp11 (bs_R.uq Hhp11 (g := 11) rfl) (by decide) rfl) rfl ?_ (sf_S_cons (sf_s1 (x := pv1) (show sf_v0 _ _ 399362 = _ from h14) (by omega) (by omega)) (sf_S_nil)) fun r16 hp17 thp17 Hhp17 fhp17 ahp17 php17 => ?_
        · intro q k h
          match q, h with
          | 0, h => cases h; exact bs_jR (bs_R.uq Hhp11 (g := 11) rfl)
          | q + 1, h => cases h
        obtain rfl := ahp17.1 rfl
        have Fhp17 := sf_fr_tr Fhp11 (sf_fr_wider (W := [(11, 22, 22), (11, 29, 29), (132, 120, 252)]) rfl fhp17)
        have h18 : sf_rd hp17 71 0 = some pv0 := (fhp17.2.2.1 _ (bs_R.uq Hhp11 (g := 132) (p := 71) rfl).1 _ (by rw [(bs_R.uq Hhp11 (g := 132) (p := 71) rfl).2]; rfl)).trans h13
        refine (show Ev _ 161 ([some (.ref 69), some (.int z4), none, none, none], [], (0, 0), hp17) _ from ?_)
        exact Ev.ret rfl rfl (by rw [hQ]; exact ⟨thp17, Hhp17, Fhp17, bs_anU, sf_S_nil⟩)
      · skip
        have c19 : z12.toInt = 0 := by omega
        refine Ev.step (j := 126) (s' := ([some (.ref 69), some (.int z4), none, none, none], [.ref 69], (0, 0), hp11)) rfl rfl ?_
        refine bs_getU (g := 11) (g1 := 132) rfl rfl Hhp11 (bs_R.uq Hhp11 (g := 11) rfl) (by decide) rfl rfl ?_
        refine bs_lit (k := 1) rfl rfl fun z20 hz20 => ?_
        refine bs_ld (g := 132) 1 1 (0, 8) rfl Hhp11 (bs_R.uq Hhp11 (g := 132) rfl) (by decide) rfl (by decide) (by decide) rfl (by decide) (by omega) (by omega) fun z21 hz21 lz21 gz21 => ?_
        dsimp only at lz21 gz21
        replace hz21 := bs_at hz21 (show z20.toInt.toNat = 1 by omega)
        refine bs_ifle rfl (fun c22 => ?_) (fun c22 => ?_)
        · skip
          refine Ev.step (j := 158) (s' := ([some (.ref 69), some (.int z4), none, none, none], [.ref 69], (0, 0), hp11)) rfl rfl ?_
          refine bs_call (K := kq_X11_day_h) [.ref 69] [] rfl ct_X11_day_h Hhp11 rfl rfl rfl (bs_rcv (g := 11) Hhp11 (bs_R.uq Hhp11 (g := 11) rfl) (by decide) rfl) rfl ?_ (sf_S_cons (sf_s1 (x := pv1) (show sf_v0 _ _ 399362 = _ from h14) (by omega) (by omega)) (sf_S_nil)) fun r23 hp24 thp24 Hhp24 fhp24 ahp24 php24 => ?_
          · intro q k h
            match q, h with
            | 0, h => cases h; exact bs_jR (bs_R.uq Hhp11 (g := 11) rfl)
            | q + 1, h => cases h
          obtain rfl := ahp24.1 rfl
          have Fhp24 := sf_fr_tr Fhp11 (sf_fr_wider (W := [(11, 22, 22), (11, 29, 29), (132, 120, 252)]) rfl fhp24)
          have h25 : sf_rd hp24 71 0 = some pv0 := (fhp24.2.2.1 _ (bs_R.uq Hhp11 (g := 132) (p := 71) rfl).1 _ (by rw [(bs_R.uq Hhp11 (g := 132) (p := 71) rfl).2]; rfl)).trans h13
          have h26 : sf_rd hp24 71 1 = some z21.toInt := (fhp24.2.2.1 _ (bs_R.uq Hhp11 (g := 132) (p := 71) rfl).1 _ (by rw [(bs_R.uq Hhp11 (g := 132) (p := 71) rfl).2]; rfl)).trans hz21
          refine (show Ev _ 161 ([some (.ref 69), some (.int z4), none, none, none], [], (0, 0), hp24) _ from ?_)
          exact Ev.ret rfl rfl (by rw [hQ]; exact ⟨thp24, Hhp24, Fhp24, bs_anU, sf_S_nil⟩)
        · skip
          refine Ev.step (j := 135) (s' := ([some (.ref 69), some (.int z4), none, none, none], [.ref 69], (0, 0), hp11)) rfl rfl ?_
          refine bs_getU (g := 11) (g1 := 132) rfl rfl Hhp11 (bs_R.uq Hhp11 (g := 11) rfl) (by decide) rfl rfl ?_
          refine bs_lit (k := 180) rfl rfl fun z27 hz27 => ?_
          refine Ev.step (j := 142) (s' := ([some (.ref 69), some (.int z4), none, none, none], [.int z27, .ref 71, .int z27, .ref 71], (0, 0), hp11)) rfl rfl ?_
          refine bs_ld (g := 132) 180 180 (-2147483648, 2147483647) rfl Hhp11 (bs_R.uq Hhp11 (g := 132) rfl) (by decide) rfl (by decide) (by decide) rfl (by decide) (by omega) (by omega) fun z28 hz28 lz28 gz28 => ?_
          dsimp only at lz28 gz28
          replace hz28 := bs_at hz28 (show z27.toInt.toNat = 180 by omega)
          refine bs_lit (k := 1) rfl rfl fun z29 hz29 => ?_
          refine Ev.step (j := 145) (s' := ([some (.ref 69), some (.int z4), none, none, none], [.ref 69, .int z29, .int z28, .int z27, .ref 71], (0, 0), hp11)) rfl rfl ?_
          refine Ev.step (j := 146) (s' := ([some (.ref 69), some (.int z4), none, none, none], [.ref 69, .ref 69, .int z29, .int z28, .int z27, .ref 71], (0, 0), hp11)) rfl rfl ?_
          refine bs_getU (g := 11) (g1 := 132) rfl rfl Hhp11 (bs_R.uq Hhp11 (g := 11) rfl) (by decide) rfl rfl ?_
          refine bs_lit (k := 1) rfl rfl fun z30 hz30 => ?_
          refine bs_ld (g := 132) 1 1 (0, 8) rfl Hhp11 (bs_R.uq Hhp11 (g := 132) rfl) (by decide) rfl (by decide) (by decide) rfl (by decide) (by omega) (by omega) fun z31 hz31 lz31 gz31 => ?_
          dsimp only at lz31 gz31
          replace hz31 := bs_at hz31 (show z30.toInt.toNat = 1 by omega)
          have e32 : z31.toInt = z21.toInt := Option.some.inj (hz31.symm.trans hz21)
          refine bs_call (K := kq_X11_draw_527597) [.ref 69, .int z31] [.int z29, .int z28, .int z27, .ref 71] rfl ct_X11_draw_527597 Hhp11 rfl rfl rfl (bs_rcv (g := 11) Hhp11 (bs_R.uq Hhp11 (g := 11) rfl) (by decide) rfl) rfl ?_ (sf_S_cons (sf_s1 (x := z31.toInt) rfl (by omega) (by omega)) (sf_S_nil)) fun r33 hp34 thp34 Hhp34 fhp34 ahp34 php34 => ?_
          · intro q k h
            match q, h with
            | 0, h => cases h; exact bs_jR (bs_R.uq Hhp11 (g := 11) rfl)
            | 1, h => cases h; exact sf_j0
            | q + 2, h => cases h
          obtain ⟨z35, rfl⟩ := bs_anI ahp34
          have rgz35 := n_range z35
          have Fhp34 := sf_fr_tr Fhp11 (sf_fr_wider (W := [(11, 22, 22), (11, 29, 29), (132, 120, 252)]) rfl fhp34)
          have h36 : sf_rd hp34 71 0 = some pv0 := (fhp34.2.2.1 _ (bs_R.uq Hhp11 (g := 132) (p := 71) rfl).1 _ (by rw [(bs_R.uq Hhp11 (g := 132) (p := 71) rfl).2]; rfl)).trans h13
          have h37 : sf_rd hp34 71 120 = some pv1 := (fhp34.2.2.1 _ (bs_R.uq Hhp11 (g := 132) (p := 71) rfl).1 _ (by rw [(bs_R.uq Hhp11 (g := 132) (p := 71) rfl).2]; rfl)).trans h14
          have h38 : sf_rd hp34 71 1 = some z21.toInt := (fhp34.2.2.1 _ (bs_R.uq Hhp11 (g := 132) (p := 71) rfl).1 _ (by rw [(bs_R.uq Hhp11 (g := 132) (p := 71) rfl).2]; rfl)).trans hz21
          have h39 : sf_rd hp34 71 180 = some z28.toInt := (fhp34.2.2.1 _ (bs_R.uq Hhp11 (g := 132) (p := 71) rfl).1 _ (by rw [(bs_R.uq Hhp11 (g := 132) (p := 71) rfl).2]; rfl)).trans hz28
          obtain ⟨uz35, vz35⟩ := bs_s1 (x := z35.toInt) rfl (php34 _ (List.mem_of_getElem? (i := 0) rfl))
          refine (show Ev _ 154 ([some (.ref 69), some (.int z4), none, none, none], [.int z35, .int z29, .int z28, .int z27, .ref 71], (0, 0), hp34) _ from ?_)
          refine bs_any rfl fun z40 => ?_
          have rz40 := n_range z40
          refine bs_any rfl fun z41 => ?_
          have rz41 := n_range z41
          refine bs_st (W := [(132, 180, 180)]) (g := 132) 180 180 (-2147483648, 2147483647) rfl Hhp34 (bs_R.uq Hhp34 (g := 132) rfl) (by decide) rfl rfl (by decide) rfl rfl (by omega) (by omega) (by dsimp only; omega) (by dsimp only; omega) fun hp42 Hhp42 fhp42 rhp42 ehp42 qhp42 nhp42 => ?_
          replace rhp42 := bs_at rhp42 (show z27.toInt.toNat = 180 by omega)
          have Fhp42 := sf_fr_tr Fhp34 (sf_fr_wider (W := [(11, 22, 22), (11, 29, 29), (132, 120, 252)]) rfl fhp42)
          have h43 : sf_rd hp42 71 0 = some pv0 := (ehp42 _ _ (Or.inr (by omega))).trans h36
          have h44 : sf_rd hp42 71 120 = some pv1 := (ehp42 _ _ (Or.inr (by omega))).trans h37
          have h45 : sf_rd hp42 71 1 = some z21.toInt := (ehp42 _ _ (Or.inr (by omega))).trans h38
          refine Ev.step (j := 158) (s' := ([some (.ref 69), some (.int z4), none, none, none], [.ref 69], (0, 0), hp42)) rfl rfl ?_
          refine bs_call (K := kq_X11_day_h) [.ref 69] [] rfl ct_X11_day_h Hhp42 rfl rfl rfl (bs_rcv (g := 11) Hhp42 (bs_R.uq Hhp42 (g := 11) rfl) (by decide) rfl) rfl ?_ (sf_S_cons (sf_s1 (x := pv1) (show sf_v0 _ _ 399362 = _ from h44) (by omega) (by omega)) (sf_S_nil)) fun r46 hp47 thp47 Hhp47 fhp47 ahp47 php47 => ?_
          · intro q k h
            match q, h with
            | 0, h => cases h; exact bs_jR (bs_R.uq Hhp42 (g := 11) rfl)
            | q + 1, h => cases h
          obtain rfl := ahp47.1 rfl
          have Fhp47 := sf_fr_tr Fhp42 (sf_fr_wider (W := [(11, 22, 22), (11, 29, 29), (132, 120, 252)]) rfl fhp47)
          have h48 : sf_rd hp47 71 0 = some pv0 := (fhp47.2.2.1 _ (bs_R.uq Hhp42 (g := 132) (p := 71) rfl).1 _ (by rw [(bs_R.uq Hhp42 (g := 132) (p := 71) rfl).2]; rfl)).trans h43
          have h49 : sf_rd hp47 71 1 = some z21.toInt := (fhp47.2.2.1 _ (bs_R.uq Hhp42 (g := 132) (p := 71) rfl).1 _ (by rw [(bs_R.uq Hhp42 (g := 132) (p := 71) rfl).2]; rfl)).trans h45
          refine (show Ev _ 161 ([some (.ref 69), some (.int z4), none, none, none], [], (0, 0), hp47) _ from ?_)
          exact Ev.ret rfl rfl (by rw [hQ]; exact ⟨thp47, Hhp47, Fhp47, bs_anU, sf_S_nil⟩)
    · skip
      have cut50 : ∀ (o51 : Option Value) (o52 : Option Value) (o53 : Option Value) (hp54 : ab_H) (t55 : Nat → Nat), sf_h t55 hp54 → sf_fr [(11, 22, 22), (11, 29, 29), (132, 120, 252)] t hp t55 hp54 → (sf_rd hp54 71 120 = some pv1) → Ev (ab_T (L_X11_drawsDay Z_X11_draw Z_X11_cell Z_X11_whyHoard Z_X11_hoards Z_X11_whyBare Z_X11_day)) 116 ([some (.ref 69), some (.int z4), o51, o52, o53], [], (0, 0), hp54) Q := by
        intro o51 o52 o53 hp54 t55 Hhp54 Fhp54 i56
        refine Ev.step (j := 117) (s' := ([some (.ref 69), some (.int z4), o51, o52, o53], [.ref 69], (0, 0), hp54)) rfl rfl ?_
        refine bs_lit (k := 90) rfl rfl fun z57 hz57 => ?_
        refine bs_call (K := kq_X11_draw_055593) [.ref 69, .int z57] [] rfl ct_X11_draw_055593 Hhp54 rfl rfl rfl (bs_rcv (g := 11) Hhp54 (bs_R.uq Hhp54 (g := 11) rfl) (by decide) rfl) rfl ?_ (sf_S_cons (sf_s1 (x := z57.toInt) rfl (by omega) (by omega)) (sf_S_nil)) fun r58 hp59 thp59 Hhp59 fhp59 ahp59 php59 => ?_
        · intro q k h
          match q, h with
          | 0, h => cases h; exact bs_jR (bs_R.uq Hhp54 (g := 11) rfl)
          | 1, h => cases h; exact sf_j0
          | q + 2, h => cases h
        obtain ⟨z60, rfl⟩ := bs_anI ahp59
        have rgz60 := n_range z60
        have Fhp59 := sf_fr_tr Fhp54 (sf_fr_wider (W := [(11, 22, 22), (11, 29, 29), (132, 120, 252)]) rfl fhp59)
        have h61 : sf_rd hp59 71 120 = some pv1 := (fhp59.2.2.1 _ (bs_R.uq Hhp54 (g := 132) (p := 71) rfl).1 _ (by rw [(bs_R.uq Hhp54 (g := 132) (p := 71) rfl).2]; rfl)).trans i56
        obtain ⟨uz60, vz60⟩ := bs_s1 (x := z60.toInt) rfl (php59 _ (List.mem_of_getElem? (i := 0) rfl))
        refine (show Ev _ 122 ([some (.ref 69), some (.int z4), o51, o52, o53], [.int z60], (0, 0), hp59) _ from ?_)
        refine bs_ifne rfl (fun c62 => ?_) (fun c62 => ?_)
        · skip
          refine Ev.step (j := 158) (s' := ([some (.ref 69), some (.int z4), o51, o52, o53], [.ref 69], (0, 0), hp59)) rfl rfl ?_
          refine bs_call (K := kq_X11_day_h) [.ref 69] [] rfl ct_X11_day_h Hhp59 rfl rfl rfl (bs_rcv (g := 11) Hhp59 (bs_R.uq Hhp59 (g := 11) rfl) (by decide) rfl) rfl ?_ (sf_S_cons (sf_s1 (x := pv1) (show sf_v0 _ _ 399362 = _ from h61) (by omega) (by omega)) (sf_S_nil)) fun r63 hp64 thp64 Hhp64 fhp64 ahp64 php64 => ?_
          · intro q k h
            match q, h with
            | 0, h => cases h; exact bs_jR (bs_R.uq Hhp59 (g := 11) rfl)
            | q + 1, h => cases h
          obtain rfl := ahp64.1 rfl
          have Fhp64 := sf_fr_tr Fhp59 (sf_fr_wider (W := [(11, 22, 22), (11, 29, 29), (132, 120, 252)]) rfl fhp64)
          refine (show Ev _ 161 ([some (.ref 69), some (.int z4), o51, o52, o53], [], (0, 0), hp64) _ from ?_)
          exact Ev.ret rfl rfl (by rw [hQ]; exact ⟨thp64, Hhp64, Fhp64, bs_anU, sf_S_nil⟩)
        · skip
          have c65 : z60.toInt = 0 := by omega
          refine Ev.step (j := 126) (s' := ([some (.ref 69), some (.int z4), o51, o52, o53], [.ref 69], (0, 0), hp59)) rfl rfl ?_
          refine bs_getU (g := 11) (g1 := 132) rfl rfl Hhp59 (bs_R.uq Hhp59 (g := 11) rfl) (by decide) rfl rfl ?_
          refine bs_lit (k := 1) rfl rfl fun z66 hz66 => ?_
          refine bs_ld (g := 132) 1 1 (0, 8) rfl Hhp59 (bs_R.uq Hhp59 (g := 132) rfl) (by decide) rfl (by decide) (by decide) rfl (by decide) (by omega) (by omega) fun z67 hz67 lz67 gz67 => ?_
          dsimp only at lz67 gz67
          replace hz67 := bs_at hz67 (show z66.toInt.toNat = 1 by omega)
          refine bs_ifle rfl (fun c68 => ?_) (fun c68 => ?_)
          · skip
            refine Ev.step (j := 158) (s' := ([some (.ref 69), some (.int z4), o51, o52, o53], [.ref 69], (0, 0), hp59)) rfl rfl ?_
            refine bs_call (K := kq_X11_day_h) [.ref 69] [] rfl ct_X11_day_h Hhp59 rfl rfl rfl (bs_rcv (g := 11) Hhp59 (bs_R.uq Hhp59 (g := 11) rfl) (by decide) rfl) rfl ?_ (sf_S_cons (sf_s1 (x := pv1) (show sf_v0 _ _ 399362 = _ from h61) (by omega) (by omega)) (sf_S_nil)) fun r69 hp70 thp70 Hhp70 fhp70 ahp70 php70 => ?_
            · intro q k h
              match q, h with
              | 0, h => cases h; exact bs_jR (bs_R.uq Hhp59 (g := 11) rfl)
              | q + 1, h => cases h
            obtain rfl := ahp70.1 rfl
            have Fhp70 := sf_fr_tr Fhp59 (sf_fr_wider (W := [(11, 22, 22), (11, 29, 29), (132, 120, 252)]) rfl fhp70)
            have h71 : sf_rd hp70 71 1 = some z67.toInt := (fhp70.2.2.1 _ (bs_R.uq Hhp59 (g := 132) (p := 71) rfl).1 _ (by rw [(bs_R.uq Hhp59 (g := 132) (p := 71) rfl).2]; rfl)).trans hz67
            refine (show Ev _ 161 ([some (.ref 69), some (.int z4), o51, o52, o53], [], (0, 0), hp70) _ from ?_)
            exact Ev.ret rfl rfl (by rw [hQ]; exact ⟨thp70, Hhp70, Fhp70, bs_anU, sf_S_nil⟩)
          · skip
            refine Ev.step (j := 135) (s' := ([some (.ref 69), some (.int z4), o51, o52, o53], [.ref 69], (0, 0), hp59)) rfl rfl ?_
            refine bs_getU (g := 11) (g1 := 132) rfl rfl Hhp59 (bs_R.uq Hhp59 (g := 11) rfl) (by decide) rfl rfl ?_
            refine bs_lit (k := 180) rfl rfl fun z72 hz72 => ?_
            refine Ev.step (j := 142) (s' := ([some (.ref 69), some (.int z4), o51, o52, o53], [.int z72, .ref 71, .int z72, .ref 71], (0, 0), hp59)) rfl rfl ?_
            refine bs_ld (g := 132) 180 180 (-2147483648, 2147483647) rfl Hhp59 (bs_R.uq Hhp59 (g := 132) rfl) (by decide) rfl (by decide) (by decide) rfl (by decide) (by omega) (by omega) fun z73 hz73 lz73 gz73 => ?_
            dsimp only at lz73 gz73
            replace hz73 := bs_at hz73 (show z72.toInt.toNat = 180 by omega)
            refine bs_lit (k := 1) rfl rfl fun z74 hz74 => ?_
            refine Ev.step (j := 145) (s' := ([some (.ref 69), some (.int z4), o51, o52, o53], [.ref 69, .int z74, .int z73, .int z72, .ref 71], (0, 0), hp59)) rfl rfl ?_
            refine Ev.step (j := 146) (s' := ([some (.ref 69), some (.int z4), o51, o52, o53], [.ref 69, .ref 69, .int z74, .int z73, .int z72, .ref 71], (0, 0), hp59)) rfl rfl ?_
            refine bs_getU (g := 11) (g1 := 132) rfl rfl Hhp59 (bs_R.uq Hhp59 (g := 11) rfl) (by decide) rfl rfl ?_
            refine bs_lit (k := 1) rfl rfl fun z75 hz75 => ?_
            refine bs_ld (g := 132) 1 1 (0, 8) rfl Hhp59 (bs_R.uq Hhp59 (g := 132) rfl) (by decide) rfl (by decide) (by decide) rfl (by decide) (by omega) (by omega) fun z76 hz76 lz76 gz76 => ?_
            dsimp only at lz76 gz76
            replace hz76 := bs_at hz76 (show z75.toInt.toNat = 1 by omega)
            have e77 : z76.toInt = z67.toInt := Option.some.inj (hz76.symm.trans hz67)
            refine bs_call (K := kq_X11_draw_527597) [.ref 69, .int z76] [.int z74, .int z73, .int z72, .ref 71] rfl ct_X11_draw_527597 Hhp59 rfl rfl rfl (bs_rcv (g := 11) Hhp59 (bs_R.uq Hhp59 (g := 11) rfl) (by decide) rfl) rfl ?_ (sf_S_cons (sf_s1 (x := z76.toInt) rfl (by omega) (by omega)) (sf_S_nil)) fun r78 hp79 thp79 Hhp79 fhp79 ahp79 php79 => ?_
            · intro q k h
              match q, h with
              | 0, h => cases h; exact bs_jR (bs_R.uq Hhp59 (g := 11) rfl)
              | 1, h => cases h; exact sf_j0
              | q + 2, h => cases h
            obtain ⟨z80, rfl⟩ := bs_anI ahp79
            have rgz80 := n_range z80
            have Fhp79 := sf_fr_tr Fhp59 (sf_fr_wider (W := [(11, 22, 22), (11, 29, 29), (132, 120, 252)]) rfl fhp79)
            have h81 : sf_rd hp79 71 120 = some pv1 := (fhp79.2.2.1 _ (bs_R.uq Hhp59 (g := 132) (p := 71) rfl).1 _ (by rw [(bs_R.uq Hhp59 (g := 132) (p := 71) rfl).2]; rfl)).trans h61
            have h82 : sf_rd hp79 71 1 = some z67.toInt := (fhp79.2.2.1 _ (bs_R.uq Hhp59 (g := 132) (p := 71) rfl).1 _ (by rw [(bs_R.uq Hhp59 (g := 132) (p := 71) rfl).2]; rfl)).trans hz67
            have h83 : sf_rd hp79 71 180 = some z73.toInt := (fhp79.2.2.1 _ (bs_R.uq Hhp59 (g := 132) (p := 71) rfl).1 _ (by rw [(bs_R.uq Hhp59 (g := 132) (p := 71) rfl).2]; rfl)).trans hz73
            obtain ⟨uz80, vz80⟩ := bs_s1 (x := z80.toInt) rfl (php79 _ (List.mem_of_getElem? (i := 0) rfl))
            refine (show Ev _ 154 ([some (.ref 69), some (.int z4), o51, o52, o53], [.int z80, .int z74, .int z73, .int z72, .ref 71], (0, 0), hp79) _ from ?_)
            refine bs_any rfl fun z84 => ?_
            have rz84 := n_range z84
            refine bs_any rfl fun z85 => ?_
            have rz85 := n_range z85
            refine bs_st (W := [(132, 180, 180)]) (g := 132) 180 180 (-2147483648, 2147483647) rfl Hhp79 (bs_R.uq Hhp79 (g := 132) rfl) (by decide) rfl rfl (by decide) rfl rfl (by omega) (by omega) (by dsimp only; omega) (by dsimp only; omega) fun hp86 Hhp86 fhp86 rhp86 ehp86 qhp86 nhp86 => ?_
            replace rhp86 := bs_at rhp86 (show z72.toInt.toNat = 180 by omega)
            have Fhp86 := sf_fr_tr Fhp79 (sf_fr_wider (W := [(11, 22, 22), (11, 29, 29), (132, 120, 252)]) rfl fhp86)
            have h87 : sf_rd hp86 71 120 = some pv1 := (ehp86 _ _ (Or.inr (by omega))).trans h81
            have h88 : sf_rd hp86 71 1 = some z67.toInt := (ehp86 _ _ (Or.inr (by omega))).trans h82
            refine Ev.step (j := 158) (s' := ([some (.ref 69), some (.int z4), o51, o52, o53], [.ref 69], (0, 0), hp86)) rfl rfl ?_
            refine bs_call (K := kq_X11_day_h) [.ref 69] [] rfl ct_X11_day_h Hhp86 rfl rfl rfl (bs_rcv (g := 11) Hhp86 (bs_R.uq Hhp86 (g := 11) rfl) (by decide) rfl) rfl ?_ (sf_S_cons (sf_s1 (x := pv1) (show sf_v0 _ _ 399362 = _ from h87) (by omega) (by omega)) (sf_S_nil)) fun r89 hp90 thp90 Hhp90 fhp90 ahp90 php90 => ?_
            · intro q k h
              match q, h with
              | 0, h => cases h; exact bs_jR (bs_R.uq Hhp86 (g := 11) rfl)
              | q + 1, h => cases h
            obtain rfl := ahp90.1 rfl
            have Fhp90 := sf_fr_tr Fhp86 (sf_fr_wider (W := [(11, 22, 22), (11, 29, 29), (132, 120, 252)]) rfl fhp90)
            have h91 : sf_rd hp90 71 1 = some z67.toInt := (fhp90.2.2.1 _ (bs_R.uq Hhp86 (g := 132) (p := 71) rfl).1 _ (by rw [(bs_R.uq Hhp86 (g := 132) (p := 71) rfl).2]; rfl)).trans h88
            refine (show Ev _ 161 ([some (.ref 69), some (.int z4), o51, o52, o53], [], (0, 0), hp90) _ from ?_)
            exact Ev.ret rfl rfl (by rw [hQ]; exact ⟨thp90, Hhp90, Fhp90, bs_anU, sf_S_nil⟩)
      refine Ev.step (j := 13) (s' := ([some (.ref 69), some (.int z4), none, none, none], [.ref 69], (0, 0), hp3)) rfl rfl ?_
      refine Ev.step (j := 14) (s' := ([some (.ref 69), some (.int z4), none, none, none], [.ref 69, .ref 69], (0, 0), hp3)) rfl rfl ?_
      refine bs_getU (g := 11) (g1 := 132) rfl rfl Hhp3 (bs_R.uq Hhp3 (g := 11) rfl) (by decide) rfl rfl ?_
      refine bs_lit (k := 0) rfl rfl fun z92 hz92 => ?_
      refine bs_ld (g := 132) 0 0 (0, 6) rfl Hhp3 (bs_R.uq Hhp3 (g := 132) rfl) (by decide) rfl (by decide) (by decide) rfl (by decide) (by omega) (by omega) fun z93 hz93 lz93 gz93 => ?_
      dsimp only at lz93 gz93
      replace hz93 := bs_at hz93 (show z92.toInt.toNat = 0 by omega)
      have e94 : z93.toInt = pv0 := Option.some.inj (hz93.symm.trans h5)
      refine bs_call (K := kq_X11_draw_3d739f) [.ref 69, .int z93] [] rfl ct_X11_draw_3d739f Hhp3 rfl rfl rfl (bs_rcv (g := 11) Hhp3 (bs_R.uq Hhp3 (g := 11) rfl) (by decide) rfl) rfl ?_ (sf_S_cons (sf_s1 (x := z93.toInt) rfl (by omega) (by omega)) (sf_S_nil)) fun r95 hp96 thp96 Hhp96 fhp96 ahp96 php96 => ?_
      · intro q k h
        match q, h with
        | 0, h => cases h; exact bs_jR (bs_R.uq Hhp3 (g := 11) rfl)
        | 1, h => cases h; exact sf_j0
        | q + 2, h => cases h
      obtain ⟨z97, rfl⟩ := bs_anI ahp96
      have rgz97 := n_range z97
      have Fhp96 := sf_fr_tr Fhp3 (sf_fr_wider (W := [(11, 22, 22), (11, 29, 29), (132, 120, 252)]) rfl fhp96)
      have h98 : sf_rd hp96 71 0 = some pv0 := (fhp96.2.2.1 _ (bs_R.uq Hhp3 (g := 132) (p := 71) rfl).1 _ (by rw [(bs_R.uq Hhp3 (g := 132) (p := 71) rfl).2]; rfl)).trans h5
      have h99 : sf_rd hp96 71 120 = some pv1 := (fhp96.2.2.1 _ (bs_R.uq Hhp3 (g := 132) (p := 71) rfl).1 _ (by rw [(bs_R.uq Hhp3 (g := 132) (p := 71) rfl).2]; rfl)).trans h6
      obtain ⟨uz97, vz97⟩ := bs_s1 (x := z97.toInt) rfl (php96 _ (List.mem_of_getElem? (i := 0) rfl))
      refine (show Ev _ 22 ([some (.ref 69), some (.int z4), none, none, none], [.int z97], (0, 0), hp96) _ from ?_)
      refine Ev.step (j := 23) (s' := ([some (.ref 69), some (.int z4), some (.int z97), none, none], [], (0, 0), hp96)) rfl rfl ?_
      refine Ev.step (j := 24) (s' := ([some (.ref 69), some (.int z4), some (.int z97), none, none], [.int z97], (0, 0), hp96)) rfl rfl ?_
      refine Ev.step (j := 25) (s' := ([some (.ref 69), some (.int z4), some (.int z97), none, none], [.ref 69, .int z97], (0, 0), hp96)) rfl rfl ?_
      refine bs_lit (k := 2) rfl rfl fun z100 hz100 => ?_
      refine bs_call (K := kq_X11_draw_d8ddf5) [.ref 69, .int z100] [.int z97] rfl ct_X11_draw_d8ddf5 Hhp96 rfl rfl rfl (bs_rcv (g := 11) Hhp96 (bs_R.uq Hhp96 (g := 11) rfl) (by decide) rfl) rfl ?_ (sf_S_cons (sf_s1 (x := z100.toInt) rfl (by omega) (by omega)) (sf_S_nil)) fun r101 hp102 thp102 Hhp102 fhp102 ahp102 php102 => ?_
      · intro q k h
        match q, h with
        | 0, h => cases h; exact bs_jR (bs_R.uq Hhp96 (g := 11) rfl)
        | 1, h => cases h; exact sf_j0
        | q + 2, h => cases h
      obtain ⟨z103, rfl⟩ := bs_anI ahp102
      have rgz103 := n_range z103
      have Fhp102 := sf_fr_tr Fhp96 (sf_fr_wider (W := [(11, 22, 22), (11, 29, 29), (132, 120, 252)]) rfl fhp102)
      have h104 : sf_rd hp102 71 0 = some pv0 := (fhp102.2.2.1 _ (bs_R.uq Hhp96 (g := 132) (p := 71) rfl).1 _ (by rw [(bs_R.uq Hhp96 (g := 132) (p := 71) rfl).2]; rfl)).trans h98
      have h105 : sf_rd hp102 71 120 = some pv1 := (fhp102.2.2.1 _ (bs_R.uq Hhp96 (g := 132) (p := 71) rfl).1 _ (by rw [(bs_R.uq Hhp96 (g := 132) (p := 71) rfl).2]; rfl)).trans h99
      obtain ⟨uz103, vz103⟩ := bs_s1 (x := z103.toInt) rfl (php102 _ (List.mem_of_getElem? (i := 0) rfl))
      refine (show Ev _ 29 ([some (.ref 69), some (.int z4), some (.int z97), none, none], [.int z103, .int z97], (0, 0), hp102) _ from ?_)
      refine Ev.inlS (L := L_X11_cell) (nL := 2) rfl rfl (Nat.le_of_ble_eq_true rfl) ?_
      generalize hQ106 : (fun (o : ab_O) => Ev _ _ _ _) = Q106
      refine (show Ev (ab_T L_X11_cell) 0 ([some (.int z97), some (.int z103)], [], (0, 0), hp102) Q106 from ?_)
      refine bs_lit (k := 2) rfl rfl fun z107 hz107 => ?_
      refine Ev.step (j := 2) (s' := ([some (.int z97), some (.int z103)], [.int z97, .int z107], (0, 0), hp102)) rfl rfl ?_
      refine bs_mul (2) rfl (Or.inl hz107) (by rw [hz107]; omega) (by rw [hz107]; omega) fun z108 hz108 => ?_
      rw [hz107] at hz108
      refine Ev.step (j := 4) (s' := ([some (.int z97), some (.int z103)], [.int z103, .int z108], (0, 0), hp102)) rfl rfl ?_
      first | (refine bs_add rfl (by omega) (by omega) fun z109 hz109 => ?_) | (refine bs_any rfl fun z109 => ?_)
      have rz109 := n_range z109
      refine Ev.ret rfl rfl ?_
      rw [← hQ106]
      refine (show Ev _ 32 ([some (.ref 69), some (.int z4), some (.int z97), none, none], [.int z109], (0, 0), hp102) _ from ?_)
      refine Ev.step (j := 33) (s' := ([some (.ref 69), some (.int z4), some (.int z97), some (.int z109), none], [], (0, 0), hp102)) rfl rfl ?_
      refine bs_lit (k := 1) rfl rfl fun z110 hz110 => ?_
      refine Ev.step (j := 35) (s' := ([some (.ref 69), some (.int z4), some (.int z97), some (.int z109), none], [.ref 69, .int z110], (0, 0), hp102)) rfl rfl ?_
      refine bs_lit (k := 20) rfl rfl fun z111 hz111 => ?_
      refine bs_call (K := kq_X11_draw_7d34e3) [.ref 69, .int z111] [.int z110] rfl ct_X11_draw_7d34e3 Hhp102 rfl rfl rfl (bs_rcv (g := 11) Hhp102 (bs_R.uq Hhp102 (g := 11) rfl) (by decide) rfl) rfl ?_ (sf_S_cons (sf_s1 (x := z111.toInt) rfl (by omega) (by omega)) (sf_S_nil)) fun r112 hp113 thp113 Hhp113 fhp113 ahp113 php113 => ?_
      · intro q k h
        match q, h with
        | 0, h => cases h; exact bs_jR (bs_R.uq Hhp102 (g := 11) rfl)
        | 1, h => cases h; exact sf_j0
        | q + 2, h => cases h
      obtain ⟨z114, rfl⟩ := bs_anI ahp113
      have rgz114 := n_range z114
      have Fhp113 := sf_fr_tr Fhp102 (sf_fr_wider (W := [(11, 22, 22), (11, 29, 29), (132, 120, 252)]) rfl fhp113)
      have h115 : sf_rd hp113 71 0 = some pv0 := (fhp113.2.2.1 _ (bs_R.uq Hhp102 (g := 132) (p := 71) rfl).1 _ (by rw [(bs_R.uq Hhp102 (g := 132) (p := 71) rfl).2]; rfl)).trans h104
      have h116 : sf_rd hp113 71 120 = some pv1 := (fhp113.2.2.1 _ (bs_R.uq Hhp102 (g := 132) (p := 71) rfl).1 _ (by rw [(bs_R.uq Hhp102 (g := 132) (p := 71) rfl).2]; rfl)).trans h105
      obtain ⟨uz114, vz114⟩ := bs_s1 (x := z114.toInt) rfl (php113 _ (List.mem_of_getElem? (i := 0) rfl))
      refine (show Ev _ 40 ([some (.ref 69), some (.int z4), some (.int z97), some (.int z109), none], [.int z114, .int z110], (0, 0), hp113) _ from ?_)
      first | (refine bs_add rfl (by omega) (by omega) fun z117 hz117 => ?_) | (refine bs_any rfl fun z117 => ?_)
      have rz117 := n_range z117
      refine Ev.step (j := 43) (s' := ([some (.ref 69), some (.int z4), some (.int z97), some (.int z109), some (.int z117)], [], (0, 0), hp113)) rfl rfl ?_
      refine Ev.step (j := 44) (s' := ([some (.ref 69), some (.int z4), some (.int z97), some (.int z109), some (.int z117)], [.int z4], (0, 0), hp113)) rfl rfl ?_
      refine bs_ifne rfl (fun c118 => ?_) (fun c118 => ?_)
      · skip
        refine Ev.step (j := 65) (s' := ([some (.ref 69), some (.int z4), some (.int z97), some (.int z109), some (.int z117)], [.int z4], (0, 0), hp113)) rfl rfl ?_
        refine bs_lit (k := 1) rfl rfl fun z119 hz119 => ?_
        refine bs_ne rfl (fun c120 => ?_) (fun c120 => ?_)
        · skip
          refine Ev.step (j := 88) (s' := ([some (.ref 69), some (.int z4), some (.int z97), some (.int z109), some (.int z117)], [.int z4], (0, 0), hp113)) rfl rfl ?_
          refine bs_lit (k := 2) rfl rfl fun z121 hz121 => ?_
          refine bs_ne rfl (fun c122 => ?_) (fun c122 => ?_)
          · skip
            exact cut50 (some (.int z97)) (some (.int z109)) (some (.int z117)) hp113 thp113 Hhp113 Fhp113 h116
          · skip
            have c123 : z4.toInt = 2 := by omega
            refine Ev.step (j := 93) (s' := ([some (.ref 69), some (.int z4), some (.int z97), some (.int z109), some (.int z117)], [.ref 69], (0, 0), hp113)) rfl rfl ?_
            refine Ev.step (j := 94) (s' := ([some (.ref 69), some (.int z4), some (.int z97), some (.int z109), some (.int z117)], [.int z109, .ref 69], (0, 0), hp113)) rfl rfl ?_
            refine Ev.step (j := 96) (s' := ([some (.ref 69), some (.int z4), some (.int z97), some (.int z109), some (.int z117)], [.int z117, .int z109, .ref 69], (0, 0), hp113)) rfl rfl ?_
            refine Ev.inl (L := L_X11_whyHoard) (nL := 3) rfl (bs_rcv (g := 11) Hhp113 (bs_R.uq Hhp113 (g := 11) rfl) (by decide) rfl) rfl (Nat.le_of_ble_eq_true rfl) ?_
            generalize hQ124 : (fun (o : ab_O) => Ev _ _ _ _) = Q124
            refine (show Ev (ab_T L_X11_whyHoard) 0 ([some (.ref 69), some (.int z109), some (.int z117)], [], (0, 0), hp113) Q124 from ?_)
            refine Ev.step (j := 1) (s' := ([some (.ref 69), some (.int z109), some (.int z117)], [.ref 69], (0, 0), hp113)) rfl rfl ?_
            refine bs_getU (g := 11) (g1 := 132) rfl rfl Hhp113 (bs_R.uq Hhp113 (g := 11) rfl) (by decide) rfl rfl ?_
            refine bs_lit (k := 124) rfl rfl fun z125 hz125 => ?_
            refine Ev.step (j := 7) (s' := ([some (.ref 69), some (.int z109), some (.int z117)], [.int z109, .int z125, .ref 71], (0, 0), hp113)) rfl rfl ?_
            first | (refine bs_add rfl (by omega) (by omega) fun z126 hz126 => ?_) | (refine bs_any rfl fun z126 => ?_)
            have rz126 := n_range z126
            refine bs_ld (g := 132) 124 135 (0, 999) rfl Hhp113 (bs_R.uq Hhp113 (g := 132) rfl) (by decide) rfl (by decide) (by decide) rfl (by decide) (by omega) (by omega) fun z127 hz127 lz127 gz127 => ?_
            dsimp only at lz127 gz127
            refine Ev.step (j := 10) (s' := ([some (.ref 69), some (.int z109), some (.int z117)], [.int z117, .int z127], (0, 0), hp113)) rfl rfl ?_
            refine bs_ge rfl (fun c128 => ?_) (fun c128 => ?_)
            · skip
              refine bs_lit (k := 0) rfl rfl fun z129 hz129 => ?_
              refine Ev.ret rfl rfl ?_
              rw [← hQ124]
              refine (show Ev _ 99 ([some (.ref 69), some (.int z4), some (.int z97), some (.int z109), some (.int z117)], [.int z129], (0, 0), hp113) _ from ?_)
              refine bs_ifne rfl (fun c130 => ?_) (fun c130 => ?_)
              · exfalso; omega
              · skip
                refine Ev.step (j := 103) (s' := ([some (.ref 69), some (.int z4), some (.int z97), some (.int z109), some (.int z117)], [.ref 69], (0, 0), hp113)) rfl rfl ?_
                refine bs_getU (g := 11) (g1 := 132) rfl rfl Hhp113 (bs_R.uq Hhp113 (g := 11) rfl) (by decide) rfl rfl ?_
                refine bs_lit (k := 124) rfl rfl fun z131 hz131 => ?_
                refine Ev.step (j := 109) (s' := ([some (.ref 69), some (.int z4), some (.int z97), some (.int z109), some (.int z117)], [.int z109, .int z131, .ref 71], (0, 0), hp113)) rfl rfl ?_
                first | (refine bs_add rfl (by omega) (by omega) fun z132 hz132 => ?_) | (refine bs_any rfl fun z132 => ?_)
                have rz132 := n_range z132
                refine Ev.step (j := 111) (s' := ([some (.ref 69), some (.int z4), some (.int z97), some (.int z109), some (.int z117)], [.int z132, .ref 71, .int z132, .ref 71], (0, 0), hp113)) rfl rfl ?_
                refine bs_ld (g := 132) 124 135 (0, 999) rfl Hhp113 (bs_R.uq Hhp113 (g := 132) rfl) (by decide) rfl (by decide) (by decide) rfl (by decide) (by omega) (by omega) fun z133 hz133 lz133 gz133 => ?_
                dsimp only at lz133 gz133
                have e134 : z133.toInt = z127.toInt := Option.some.inj ((bs_at hz133 (by omega)).symm.trans (rfl.trans hz127))
                refine Ev.step (j := 114) (s' := ([some (.ref 69), some (.int z4), some (.int z97), some (.int z109), some (.int z117)], [.int z117, .int z133, .int z132, .ref 71], (0, 0), hp113)) rfl rfl ?_
                first | (refine bs_sub rfl (by omega) (by omega) fun z135 hz135 => ?_) | (refine bs_any rfl fun z135 => ?_)
                have rz135 := n_range z135
                refine bs_st (W := [(132, 124, 135)]) (g := 132) 124 135 (0, 999) rfl Hhp113 (bs_R.uq Hhp113 (g := 132) rfl) (by decide) rfl rfl (by decide) rfl rfl (by omega) (by omega) (by dsimp only; omega) (by dsimp only; omega) fun hp136 Hhp136 fhp136 rhp136 ehp136 qhp136 nhp136 => ?_
                have Fhp136 := sf_fr_tr Fhp113 (sf_fr_wider (W := [(11, 22, 22), (11, 29, 29), (132, 120, 252)]) rfl fhp136)
                have h137 : sf_rd hp136 71 0 = some pv0 := (ehp136 _ _ (Or.inr (by omega))).trans h115
                have h138 : sf_rd hp136 71 120 = some pv1 := (ehp136 _ _ (Or.inr (by omega))).trans h116
                exact cut50 (some (.int z97)) (some (.int z109)) (some (.int z117)) hp136 thp113 Hhp136 Fhp136 h138
            · skip
              refine bs_lit (k := 1) rfl rfl fun z139 hz139 => ?_
              refine Ev.step (j := 18) (s' := ([some (.ref 69), some (.int z109), some (.int z117)], [.int z139], (0, 0), hp113)) rfl rfl ?_
              refine Ev.ret rfl rfl ?_
              rw [← hQ124]
              refine (show Ev _ 99 ([some (.ref 69), some (.int z4), some (.int z97), some (.int z109), some (.int z117)], [.int z139], (0, 0), hp113) _ from ?_)
              refine bs_ifne rfl (fun c140 => ?_) (fun c140 => ?_)
              · skip
                exact cut50 (some (.int z97)) (some (.int z109)) (some (.int z117)) hp113 thp113 Hhp113 Fhp113 h116
              · exfalso; omega
        · skip
          have c141 : z4.toInt = 1 := by omega
          refine Ev.step (j := 70) (s' := ([some (.ref 69), some (.int z4), some (.int z97), some (.int z109), some (.int z117)], [.ref 69], (0, 0), hp113)) rfl rfl ?_
          refine Ev.step (j := 71) (s' := ([some (.ref 69), some (.int z4), some (.int z97), some (.int z109), some (.int z117)], [.int z109, .ref 69], (0, 0), hp113)) rfl rfl ?_
          refine Ev.step (j := 73) (s' := ([some (.ref 69), some (.int z4), some (.int z97), some (.int z109), some (.int z117)], [.int z117, .int z109, .ref 69], (0, 0), hp113)) rfl rfl ?_
          refine Ev.inl (L := L_X11_whyBare) (nL := 3) rfl (bs_rcv (g := 11) Hhp113 (bs_R.uq Hhp113 (g := 11) rfl) (by decide) rfl) rfl (Nat.le_of_ble_eq_true rfl) ?_
          generalize hQ142 : (fun (o : ab_O) => Ev _ _ _ _) = Q142
          refine (show Ev (ab_T L_X11_whyBare) 0 ([some (.ref 69), some (.int z109), some (.int z117)], [], (0, 0), hp113) Q142 from ?_)
          refine Ev.step (j := 1) (s' := ([some (.ref 69), some (.int z109), some (.int z117)], [.ref 69], (0, 0), hp113)) rfl rfl ?_
          refine bs_getU (g := 11) (g1 := 132) rfl rfl Hhp113 (bs_R.uq Hhp113 (g := 11) rfl) (by decide) rfl rfl ?_
          refine bs_lit (k := 136) rfl rfl fun z143 hz143 => ?_
          refine Ev.step (j := 8) (s' := ([some (.ref 69), some (.int z109), some (.int z117)], [.int z109, .int z143, .ref 71], (0, 0), hp113)) rfl rfl ?_
          first | (refine bs_add rfl (by omega) (by omega) fun z144 hz144 => ?_) | (refine bs_any rfl fun z144 => ?_)
          have rz144 := n_range z144
          refine bs_ld (g := 132) 136 147 (-2147483648, 2147483647) rfl Hhp113 (bs_R.uq Hhp113 (g := 132) rfl) (by decide) rfl (by decide) (by decide) rfl (by decide) (by omega) (by omega) fun z145 hz145 lz145 gz145 => ?_
          dsimp only at lz145 gz145
          refine Ev.step (j := 11) (s' := ([some (.ref 69), some (.int z109), some (.int z117)], [.int z117, .int z145], (0, 0), hp113)) rfl rfl ?_
          refine bs_ge rfl (fun c146 => ?_) (fun c146 => ?_)
          · skip
            refine Ev.step (j := 19) (s' := ([some (.ref 69), some (.int z109), some (.int z117)], [.ref 69], (0, 0), hp113)) rfl rfl ?_
            refine bs_getU (g := 11) (g1 := 132) rfl rfl Hhp113 (bs_R.uq Hhp113 (g := 11) rfl) (by decide) rfl rfl ?_
            refine bs_lit (k := 124) rfl rfl fun z147 hz147 => ?_
            refine Ev.step (j := 25) (s' := ([some (.ref 69), some (.int z109), some (.int z117)], [.int z109, .int z147, .ref 71], (0, 0), hp113)) rfl rfl ?_
            first | (refine bs_add rfl (by omega) (by omega) fun z148 hz148 => ?_) | (refine bs_any rfl fun z148 => ?_)
            have rz148 := n_range z148
            refine bs_ld (g := 132) 124 135 (0, 999) rfl Hhp113 (bs_R.uq Hhp113 (g := 132) rfl) (by decide) rfl (by decide) (by decide) rfl (by decide) (by omega) (by omega) fun z149 hz149 lz149 gz149 => ?_
            dsimp only at lz149 gz149
            refine Ev.step (j := 28) (s' := ([some (.ref 69), some (.int z109), some (.int z117)], [.int z117, .int z149], (0, 0), hp113)) rfl rfl ?_
            first | (refine bs_add rfl (by omega) (by omega) fun z150 hz150 => ?_) | (refine bs_any rfl fun z150 => ?_)
            have rz150 := n_range z150
            refine bs_lit (k := 999) rfl rfl fun z151 hz151 => ?_
            refine bs_le rfl (fun c152 => ?_) (fun c152 => ?_)
            · skip
              refine bs_lit (k := 0) rfl rfl fun z153 hz153 => ?_
              refine Ev.ret rfl rfl ?_
              rw [← hQ142]
              refine (show Ev _ 76 ([some (.ref 69), some (.int z4), some (.int z97), some (.int z109), some (.int z117)], [.int z153], (0, 0), hp113) _ from ?_)
              refine bs_ifne rfl (fun c154 => ?_) (fun c154 => ?_)
              · exfalso; omega
              · skip
                refine Ev.step (j := 80) (s' := ([some (.ref 69), some (.int z4), some (.int z97), some (.int z109), some (.int z117)], [.ref 69], (0, 0), hp113)) rfl rfl ?_
                refine Ev.step (j := 81) (s' := ([some (.ref 69), some (.int z4), some (.int z97), some (.int z109), some (.int z117)], [.int z109, .ref 69], (0, 0), hp113)) rfl rfl ?_
                refine Ev.step (j := 83) (s' := ([some (.ref 69), some (.int z4), some (.int z97), some (.int z109), some (.int z117)], [.int z117, .int z109, .ref 69], (0, 0), hp113)) rfl rfl ?_
                refine bs_neg rfl (by omega) fun z155 hz155 => ?_
                refine Ev.inl (L := L_X11_hoards) (nL := 3) rfl (bs_rcv (g := 11) Hhp113 (bs_R.uq Hhp113 (g := 11) rfl) (by decide) rfl) rfl (Nat.le_of_ble_eq_true rfl) ?_
                generalize hQ156 : (fun (o : ab_O) => Ev _ _ _ _) = Q156
                refine (show Ev (ab_T L_X11_hoards) 0 ([some (.ref 69), some (.int z109), some (.int z155)], [], (0, 0), hp113) Q156 from ?_)
                refine Ev.step (j := 1) (s' := ([some (.ref 69), some (.int z109), some (.int z155)], [.ref 69], (0, 0), hp113)) rfl rfl ?_
                refine bs_getU (g := 11) (g1 := 132) rfl rfl Hhp113 (bs_R.uq Hhp113 (g := 11) rfl) (by decide) rfl rfl ?_
                refine bs_lit (k := 124) rfl rfl fun z157 hz157 => ?_
                refine Ev.step (j := 7) (s' := ([some (.ref 69), some (.int z109), some (.int z155)], [.int z109, .int z157, .ref 71], (0, 0), hp113)) rfl rfl ?_
                first | (refine bs_add rfl (by omega) (by omega) fun z158 hz158 => ?_) | (refine bs_any rfl fun z158 => ?_)
                have rz158 := n_range z158
                refine Ev.step (j := 9) (s' := ([some (.ref 69), some (.int z109), some (.int z155)], [.int z158, .ref 71, .int z158, .ref 71], (0, 0), hp113)) rfl rfl ?_
                refine bs_ld (g := 132) 124 135 (0, 999) rfl Hhp113 (bs_R.uq Hhp113 (g := 132) rfl) (by decide) rfl (by decide) (by decide) rfl (by decide) (by omega) (by omega) fun z159 hz159 lz159 gz159 => ?_
                dsimp only at lz159 gz159
                have e160 : z159.toInt = z149.toInt := Option.some.inj ((bs_at hz159 (by omega)).symm.trans (rfl.trans hz149))
                refine Ev.step (j := 11) (s' := ([some (.ref 69), some (.int z109), some (.int z155)], [.int z155, .int z159, .int z158, .ref 71], (0, 0), hp113)) rfl rfl ?_
                first | (refine bs_sub rfl (by omega) (by omega) fun z161 hz161 => ?_) | (refine bs_any rfl fun z161 => ?_)
                have rz161 := n_range z161
                refine bs_st (W := [(132, 124, 135)]) (g := 132) 124 135 (0, 999) rfl Hhp113 (bs_R.uq Hhp113 (g := 132) rfl) (by decide) rfl rfl (by decide) rfl rfl (by omega) (by omega) (by dsimp only; omega) (by dsimp only; omega) fun hp162 Hhp162 fhp162 rhp162 ehp162 qhp162 nhp162 => ?_
                have Fhp162 := sf_fr_tr Fhp113 (sf_fr_wider (W := [(11, 22, 22), (11, 29, 29), (132, 120, 252)]) rfl fhp162)
                have h163 : sf_rd hp162 71 0 = some pv0 := (ehp162 _ _ (Or.inr (by omega))).trans h115
                have h164 : sf_rd hp162 71 120 = some pv1 := (ehp162 _ _ (Or.inr (by omega))).trans h116
                refine Ev.step (j := 14) (s' := ([some (.ref 69), some (.int z109), some (.int z155)], [.ref 69], (0, 0), hp162)) rfl rfl ?_
                refine bs_getU (g := 11) (g1 := 132) rfl rfl Hhp162 (bs_R.uq Hhp162 (g := 11) rfl) (by decide) rfl rfl ?_
                refine bs_lit (k := 136) rfl rfl fun z165 hz165 => ?_
                refine Ev.step (j := 21) (s' := ([some (.ref 69), some (.int z109), some (.int z155)], [.int z109, .int z165, .ref 71], (0, 0), hp162)) rfl rfl ?_
                first | (refine bs_add rfl (by omega) (by omega) fun z166 hz166 => ?_) | (refine bs_any rfl fun z166 => ?_)
                have rz166 := n_range z166
                refine Ev.step (j := 23) (s' := ([some (.ref 69), some (.int z109), some (.int z155)], [.int z166, .ref 71, .int z166, .ref 71], (0, 0), hp162)) rfl rfl ?_
                refine bs_ld (g := 132) 136 147 (-2147483648, 2147483647) rfl Hhp162 (bs_R.uq Hhp162 (g := 132) rfl) (by decide) rfl (by decide) (by decide) rfl (by decide) (by omega) (by omega) fun z167 hz167 lz167 gz167 => ?_
                dsimp only at lz167 gz167
                refine Ev.step (j := 25) (s' := ([some (.ref 69), some (.int z109), some (.int z155)], [.int z155, .int z167, .int z166, .ref 71], (0, 0), hp162)) rfl rfl ?_
                first | (refine bs_add rfl (by omega) (by omega) fun z168 hz168 => ?_) | (refine bs_any rfl fun z168 => ?_)
                have rz168 := n_range z168
                refine bs_st (W := [(132, 136, 147)]) (g := 132) 136 147 (-2147483648, 2147483647) rfl Hhp162 (bs_R.uq Hhp162 (g := 132) rfl) (by decide) rfl rfl (by decide) rfl rfl (by omega) (by omega) (by dsimp only; omega) (by dsimp only; omega) fun hp169 Hhp169 fhp169 rhp169 ehp169 qhp169 nhp169 => ?_
                have Fhp169 := sf_fr_tr Fhp162 (sf_fr_wider (W := [(11, 22, 22), (11, 29, 29), (132, 120, 252)]) rfl fhp169)
                have h170 : sf_rd hp169 71 0 = some pv0 := (ehp169 _ _ (Or.inr (by omega))).trans h163
                have h171 : sf_rd hp169 71 120 = some pv1 := (ehp169 _ _ (Or.inr (by omega))).trans h164
                refine Ev.ret rfl rfl ?_
                rw [← hQ156]
                refine (show Ev _ 87 ([some (.ref 69), some (.int z4), some (.int z97), some (.int z109), some (.int z117)], [], (0, 0), hp169) _ from ?_)
                refine Ev.step (j := 88) (s' := ([some (.ref 69), some (.int z4), some (.int z97), some (.int z109), some (.int z117)], [.int z4], (0, 0), hp169)) rfl rfl ?_
                refine bs_lit (k := 2) rfl rfl fun z172 hz172 => ?_
                refine bs_ne rfl (fun c173 => ?_) (fun c173 => ?_)
                · skip
                  exact cut50 (some (.int z97)) (some (.int z109)) (some (.int z117)) hp169 thp113 Hhp169 Fhp169 h171
                · exfalso; omega
            · skip
              refine bs_lit (k := 2) rfl rfl fun z174 hz174 => ?_
              refine Ev.step (j := 40) (s' := ([some (.ref 69), some (.int z109), some (.int z117)], [.int z174], (0, 0), hp113)) rfl rfl ?_
              refine Ev.ret rfl rfl ?_
              rw [← hQ142]
              refine (show Ev _ 76 ([some (.ref 69), some (.int z4), some (.int z97), some (.int z109), some (.int z117)], [.int z174], (0, 0), hp113) _ from ?_)
              refine bs_ifne rfl (fun c175 => ?_) (fun c175 => ?_)
              · skip
                refine Ev.step (j := 88) (s' := ([some (.ref 69), some (.int z4), some (.int z97), some (.int z109), some (.int z117)], [.int z4], (0, 0), hp113)) rfl rfl ?_
                refine bs_lit (k := 2) rfl rfl fun z176 hz176 => ?_
                refine bs_ne rfl (fun c177 => ?_) (fun c177 => ?_)
                · skip
                  exact cut50 (some (.int z97)) (some (.int z109)) (some (.int z117)) hp113 thp113 Hhp113 Fhp113 h116
                · exfalso; omega
              · exfalso; omega
          · skip
            refine bs_lit (k := 1) rfl rfl fun z178 hz178 => ?_
            refine Ev.step (j := 40) (s' := ([some (.ref 69), some (.int z109), some (.int z117)], [.int z178], (0, 0), hp113)) rfl rfl ?_
            refine Ev.ret rfl rfl ?_
            rw [← hQ142]
            refine (show Ev _ 76 ([some (.ref 69), some (.int z4), some (.int z97), some (.int z109), some (.int z117)], [.int z178], (0, 0), hp113) _ from ?_)
            refine bs_ifne rfl (fun c179 => ?_) (fun c179 => ?_)
            · skip
              refine Ev.step (j := 88) (s' := ([some (.ref 69), some (.int z4), some (.int z97), some (.int z109), some (.int z117)], [.int z4], (0, 0), hp113)) rfl rfl ?_
              refine bs_lit (k := 2) rfl rfl fun z180 hz180 => ?_
              refine bs_ne rfl (fun c181 => ?_) (fun c181 => ?_)
              · skip
                exact cut50 (some (.int z97)) (some (.int z109)) (some (.int z117)) hp113 thp113 Hhp113 Fhp113 h116
              · exfalso; omega
            · exfalso; omega
      · skip
        have c182 : z4.toInt = 0 := by omega
        refine Ev.step (j := 48) (s' := ([some (.ref 69), some (.int z4), some (.int z97), some (.int z109), some (.int z117)], [.ref 69], (0, 0), hp113)) rfl rfl ?_
        refine Ev.step (j := 49) (s' := ([some (.ref 69), some (.int z4), some (.int z97), some (.int z109), some (.int z117)], [.int z109, .ref 69], (0, 0), hp113)) rfl rfl ?_
        refine Ev.step (j := 51) (s' := ([some (.ref 69), some (.int z4), some (.int z97), some (.int z109), some (.int z117)], [.int z117, .int z109, .ref 69], (0, 0), hp113)) rfl rfl ?_
        refine Ev.inl (L := L_X11_whyHoard) (nL := 3) rfl (bs_rcv (g := 11) Hhp113 (bs_R.uq Hhp113 (g := 11) rfl) (by decide) rfl) rfl (Nat.le_of_ble_eq_true rfl) ?_
        generalize hQ183 : (fun (o : ab_O) => Ev _ _ _ _) = Q183
        refine (show Ev (ab_T L_X11_whyHoard) 0 ([some (.ref 69), some (.int z109), some (.int z117)], [], (0, 0), hp113) Q183 from ?_)
        refine Ev.step (j := 1) (s' := ([some (.ref 69), some (.int z109), some (.int z117)], [.ref 69], (0, 0), hp113)) rfl rfl ?_
        refine bs_getU (g := 11) (g1 := 132) rfl rfl Hhp113 (bs_R.uq Hhp113 (g := 11) rfl) (by decide) rfl rfl ?_
        refine bs_lit (k := 124) rfl rfl fun z184 hz184 => ?_
        refine Ev.step (j := 7) (s' := ([some (.ref 69), some (.int z109), some (.int z117)], [.int z109, .int z184, .ref 71], (0, 0), hp113)) rfl rfl ?_
        first | (refine bs_add rfl (by omega) (by omega) fun z185 hz185 => ?_) | (refine bs_any rfl fun z185 => ?_)
        have rz185 := n_range z185
        refine bs_ld (g := 132) 124 135 (0, 999) rfl Hhp113 (bs_R.uq Hhp113 (g := 132) rfl) (by decide) rfl (by decide) (by decide) rfl (by decide) (by omega) (by omega) fun z186 hz186 lz186 gz186 => ?_
        dsimp only at lz186 gz186
        refine Ev.step (j := 10) (s' := ([some (.ref 69), some (.int z109), some (.int z117)], [.int z117, .int z186], (0, 0), hp113)) rfl rfl ?_
        refine bs_ge rfl (fun c187 => ?_) (fun c187 => ?_)
        · skip
          refine bs_lit (k := 0) rfl rfl fun z188 hz188 => ?_
          refine Ev.ret rfl rfl ?_
          rw [← hQ183]
          refine (show Ev _ 54 ([some (.ref 69), some (.int z4), some (.int z97), some (.int z109), some (.int z117)], [.int z188], (0, 0), hp113) _ from ?_)
          refine bs_ifne rfl (fun c189 => ?_) (fun c189 => ?_)
          · exfalso; omega
          · skip
            refine Ev.step (j := 58) (s' := ([some (.ref 69), some (.int z4), some (.int z97), some (.int z109), some (.int z117)], [.ref 69], (0, 0), hp113)) rfl rfl ?_
            refine Ev.step (j := 59) (s' := ([some (.ref 69), some (.int z4), some (.int z97), some (.int z109), some (.int z117)], [.int z109, .ref 69], (0, 0), hp113)) rfl rfl ?_
            refine Ev.step (j := 61) (s' := ([some (.ref 69), some (.int z4), some (.int z97), some (.int z109), some (.int z117)], [.int z117, .int z109, .ref 69], (0, 0), hp113)) rfl rfl ?_
            refine Ev.inl (L := L_X11_hoards) (nL := 3) rfl (bs_rcv (g := 11) Hhp113 (bs_R.uq Hhp113 (g := 11) rfl) (by decide) rfl) rfl (Nat.le_of_ble_eq_true rfl) ?_
            generalize hQ190 : (fun (o : ab_O) => Ev _ _ _ _) = Q190
            refine (show Ev (ab_T L_X11_hoards) 0 ([some (.ref 69), some (.int z109), some (.int z117)], [], (0, 0), hp113) Q190 from ?_)
            refine Ev.step (j := 1) (s' := ([some (.ref 69), some (.int z109), some (.int z117)], [.ref 69], (0, 0), hp113)) rfl rfl ?_
            refine bs_getU (g := 11) (g1 := 132) rfl rfl Hhp113 (bs_R.uq Hhp113 (g := 11) rfl) (by decide) rfl rfl ?_
            refine bs_lit (k := 124) rfl rfl fun z191 hz191 => ?_
            refine Ev.step (j := 7) (s' := ([some (.ref 69), some (.int z109), some (.int z117)], [.int z109, .int z191, .ref 71], (0, 0), hp113)) rfl rfl ?_
            first | (refine bs_add rfl (by omega) (by omega) fun z192 hz192 => ?_) | (refine bs_any rfl fun z192 => ?_)
            have rz192 := n_range z192
            refine Ev.step (j := 9) (s' := ([some (.ref 69), some (.int z109), some (.int z117)], [.int z192, .ref 71, .int z192, .ref 71], (0, 0), hp113)) rfl rfl ?_
            refine bs_ld (g := 132) 124 135 (0, 999) rfl Hhp113 (bs_R.uq Hhp113 (g := 132) rfl) (by decide) rfl (by decide) (by decide) rfl (by decide) (by omega) (by omega) fun z193 hz193 lz193 gz193 => ?_
            dsimp only at lz193 gz193
            have e194 : z193.toInt = z186.toInt := Option.some.inj ((bs_at hz193 (by omega)).symm.trans (rfl.trans hz186))
            refine Ev.step (j := 11) (s' := ([some (.ref 69), some (.int z109), some (.int z117)], [.int z117, .int z193, .int z192, .ref 71], (0, 0), hp113)) rfl rfl ?_
            first | (refine bs_sub rfl (by omega) (by omega) fun z195 hz195 => ?_) | (refine bs_any rfl fun z195 => ?_)
            have rz195 := n_range z195
            refine bs_st (W := [(132, 124, 135)]) (g := 132) 124 135 (0, 999) rfl Hhp113 (bs_R.uq Hhp113 (g := 132) rfl) (by decide) rfl rfl (by decide) rfl rfl (by omega) (by omega) (by dsimp only; omega) (by dsimp only; omega) fun hp196 Hhp196 fhp196 rhp196 ehp196 qhp196 nhp196 => ?_
            have Fhp196 := sf_fr_tr Fhp113 (sf_fr_wider (W := [(11, 22, 22), (11, 29, 29), (132, 120, 252)]) rfl fhp196)
            have h197 : sf_rd hp196 71 0 = some pv0 := (ehp196 _ _ (Or.inr (by omega))).trans h115
            have h198 : sf_rd hp196 71 120 = some pv1 := (ehp196 _ _ (Or.inr (by omega))).trans h116
            refine Ev.step (j := 14) (s' := ([some (.ref 69), some (.int z109), some (.int z117)], [.ref 69], (0, 0), hp196)) rfl rfl ?_
            refine bs_getU (g := 11) (g1 := 132) rfl rfl Hhp196 (bs_R.uq Hhp196 (g := 11) rfl) (by decide) rfl rfl ?_
            refine bs_lit (k := 136) rfl rfl fun z199 hz199 => ?_
            refine Ev.step (j := 21) (s' := ([some (.ref 69), some (.int z109), some (.int z117)], [.int z109, .int z199, .ref 71], (0, 0), hp196)) rfl rfl ?_
            first | (refine bs_add rfl (by omega) (by omega) fun z200 hz200 => ?_) | (refine bs_any rfl fun z200 => ?_)
            have rz200 := n_range z200
            refine Ev.step (j := 23) (s' := ([some (.ref 69), some (.int z109), some (.int z117)], [.int z200, .ref 71, .int z200, .ref 71], (0, 0), hp196)) rfl rfl ?_
            refine bs_ld (g := 132) 136 147 (-2147483648, 2147483647) rfl Hhp196 (bs_R.uq Hhp196 (g := 132) rfl) (by decide) rfl (by decide) (by decide) rfl (by decide) (by omega) (by omega) fun z201 hz201 lz201 gz201 => ?_
            dsimp only at lz201 gz201
            refine Ev.step (j := 25) (s' := ([some (.ref 69), some (.int z109), some (.int z117)], [.int z117, .int z201, .int z200, .ref 71], (0, 0), hp196)) rfl rfl ?_
            first | (refine bs_add rfl (by omega) (by omega) fun z202 hz202 => ?_) | (refine bs_any rfl fun z202 => ?_)
            have rz202 := n_range z202
            refine bs_st (W := [(132, 136, 147)]) (g := 132) 136 147 (-2147483648, 2147483647) rfl Hhp196 (bs_R.uq Hhp196 (g := 132) rfl) (by decide) rfl rfl (by decide) rfl rfl (by omega) (by omega) (by dsimp only; omega) (by dsimp only; omega) fun hp203 Hhp203 fhp203 rhp203 ehp203 qhp203 nhp203 => ?_
            have Fhp203 := sf_fr_tr Fhp196 (sf_fr_wider (W := [(11, 22, 22), (11, 29, 29), (132, 120, 252)]) rfl fhp203)
            have h204 : sf_rd hp203 71 0 = some pv0 := (ehp203 _ _ (Or.inr (by omega))).trans h197
            have h205 : sf_rd hp203 71 120 = some pv1 := (ehp203 _ _ (Or.inr (by omega))).trans h198
            refine Ev.ret rfl rfl ?_
            rw [← hQ190]
            refine (show Ev _ 64 ([some (.ref 69), some (.int z4), some (.int z97), some (.int z109), some (.int z117)], [], (0, 0), hp203) _ from ?_)
            refine Ev.step (j := 65) (s' := ([some (.ref 69), some (.int z4), some (.int z97), some (.int z109), some (.int z117)], [.int z4], (0, 0), hp203)) rfl rfl ?_
            refine bs_lit (k := 1) rfl rfl fun z206 hz206 => ?_
            refine bs_ne rfl (fun c207 => ?_) (fun c207 => ?_)
            · skip
              refine Ev.step (j := 88) (s' := ([some (.ref 69), some (.int z4), some (.int z97), some (.int z109), some (.int z117)], [.int z4], (0, 0), hp203)) rfl rfl ?_
              refine bs_lit (k := 2) rfl rfl fun z208 hz208 => ?_
              refine bs_ne rfl (fun c209 => ?_) (fun c209 => ?_)
              · skip
                exact cut50 (some (.int z97)) (some (.int z109)) (some (.int z117)) hp203 thp113 Hhp203 Fhp203 h205
              · exfalso; omega
            · exfalso; omega
        · skip
          refine bs_lit (k := 1) rfl rfl fun z210 hz210 => ?_
          refine Ev.step (j := 18) (s' := ([some (.ref 69), some (.int z109), some (.int z117)], [.int z210], (0, 0), hp113)) rfl rfl ?_
          refine Ev.ret rfl rfl ?_
          rw [← hQ183]
          refine (show Ev _ 54 ([some (.ref 69), some (.int z4), some (.int z97), some (.int z109), some (.int z117)], [.int z210], (0, 0), hp113) _ from ?_)
          refine bs_ifne rfl (fun c211 => ?_) (fun c211 => ?_)
          · skip
            refine Ev.step (j := 65) (s' := ([some (.ref 69), some (.int z4), some (.int z97), some (.int z109), some (.int z117)], [.int z4], (0, 0), hp113)) rfl rfl ?_
            refine bs_lit (k := 1) rfl rfl fun z212 hz212 => ?_
            refine bs_ne rfl (fun c213 => ?_) (fun c213 => ?_)
            · skip
              refine Ev.step (j := 88) (s' := ([some (.ref 69), some (.int z4), some (.int z97), some (.int z109), some (.int z117)], [.int z4], (0, 0), hp113)) rfl rfl ?_
              refine bs_lit (k := 2) rfl rfl fun z214 hz214 => ?_
              refine bs_ne rfl (fun c215 => ?_) (fun c215 => ?_)
              · skip
                exact cut50 (some (.int z97)) (some (.int z109)) (some (.int z117)) hp113 thp113 Hhp113 Fhp113 h116
              · exfalso; omega
            · exfalso; omega
          · exfalso; omega
def kq_X11_bits_h : sf_Q := ([(0, 0, 0)], [(1, 0, 0, 0, 255, 0)], some (0, 0, 0), [(1, 0, 0, 0, 256, 0)], [])
set_option maxRecDepth 100000 in
set_option maxHeartbeats 4000000 in
theorem ct_X11_bits_h : sf_ct kq_X11_bits_h Z_X11_bits := by
  intro t hp as H hl hj hpre
  match as, hl with
  | [v0], _ =>
    obtain ⟨x0, rfl⟩ := bs_aI (hj 0 _ rfl)
    have rg0 := n_range x0
    obtain ⟨pl0, ph0⟩ := bs_s1 (x := x0.toInt) rfl (hpre _ (List.mem_of_getElem? (i := 0) rfl))
    clear hpre hj
    have F0 : sf_fr [] t hp t hp := sf_fr_rf
    refine bs_fin (K := kq_X11_bits_h) (L := L_X11_bits) (nL := 3) (Nat.le_of_ble_eq_true rfl) ?_
    obtain ⟨Q, hQ⟩ : ∃ Q : ab_O → Prop, Q = (fun o => ∃ t', sf_h t' o.2 ∧ sf_fr (kq_X11_bits_h).2.2.2.2 t hp t' o.2 ∧ sf_an t' o.2.1 (kq_X11_bits_h).2.2.1 o.1 ∧ sf_S (sf_v1 o.1 [.int x0] o.2) (kq_X11_bits_h).2.2.2.1) := ⟨_, rfl⟩
    rw [← hQ]
    refine (show Ev (ab_T L_X11_bits) 0 ([some (.int x0), none, none], [], (0, 0), hp) Q from ?_)
    refine bs_lit (k := 0) rfl rfl fun z1 hz1 => ?_
    refine Ev.step (j := 2) (s' := ([some (.int x0), some (.int z1), none], [], (0, 0), hp)) rfl rfl ?_
    refine Ev.step (j := 3) (s' := ([some (.int x0), some (.int z1), none], [.int x0], (0, 0), hp)) rfl rfl ?_
    refine Ev.step (j := 4) (s' := ([some (.int x0), some (.int z1), some (.int x0)], [], (0, 0), hp)) rfl rfl ?_
    refine bs_loop (ι := Int32 × Int32) (fun ⟨k2, k3⟩ => ([some (.int x0), some (.int k2), some (.int k3)], [], (0, 0), hp)) (fun ⟨k2, k3⟩ => (0 ≤ k3.toInt ∧ k3.toInt ≤ 255 ∧ 0 ≤ k2.toInt ∧ k2.toInt + k3.toInt ≤ 256)) (fun ⟨k2, k3⟩ => (k3.toInt).toNat) ?_ (z1, x0) (by first | omega | assumption)
    rintro ⟨k2, k3⟩ i5 ih4
    refine (show Ev _ 4 ([some (.int x0), some (.int k2), some (.int k3)], [], (0, 0), hp) _ from ?_)
    refine Ev.step (j := 5) (s' := ([some (.int x0), some (.int k2), some (.int k3)], [.int k3], (0, 0), hp)) rfl rfl ?_
    refine bs_ifeq rfl (fun c6 => ?_) (fun c6 => ?_)
    · skip
      have c7 : k3.toInt = 0 := by omega
      refine Ev.step (j := 21) (s' := ([some (.int x0), some (.int k2), some (.int k3)], [.int k2], (0, 0), hp)) rfl rfl ?_
      exact Ev.ret rfl rfl (by rw [hQ]; exact ⟨t, H, F0, bs_an0, sf_S_cons (sf_s1 (x := k2.toInt) rfl (by omega) (by omega)) (sf_S_nil)⟩)
    · skip
      refine bs_iinc (1) rfl rfl rfl rfl (by omega) (by omega) fun z8 hz8 => ?_
      refine (show Ev _ 11 ([some (.int x0), some (.int z8), some (.int k3)], [], (0, 0), hp) _ from ?_)
      refine Ev.step (j := 12) (s' := ([some (.int x0), some (.int z8), some (.int k3)], [.int k3], (0, 0), hp)) rfl rfl ?_
      refine Ev.step (j := 13) (s' := ([some (.int x0), some (.int z8), some (.int k3)], [.int k3, .int k3], (0, 0), hp)) rfl rfl ?_
      refine bs_lit (k := 1) rfl rfl fun z9 hz9 => ?_
      first | (refine bs_sub rfl (by omega) (by omega) fun z10 hz10 => ?_) | (refine bs_any rfl fun z10 => ?_)
      have rz10 := n_range z10
      refine bs_andF rfl (by omega) fun z11 qz11 hz11 gz11 => ?_
      have nb := n_bits (v := k3) (w := z10) (z := z11) (by omega) (by omega) qz11
      refine Ev.step (j := 17) (s' := ([some (.int x0), some (.int z8), some (.int z11)], [], (0, 0), hp)) rfl rfl ?_
      refine Ev.step (j := 4) (s' := ([some (.int x0), some (.int z8), some (.int z11)], [], (0, 0), hp)) rfl rfl ?_
      refine ih4 (z8, z11) (by first | omega | assumption) ?_
      show (z11.toInt).toNat < (k3.toInt).toNat
      omega
